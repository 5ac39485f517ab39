/-! stands: the class weighs and chooses -/
def wyF (W : Wt) (c : Int32) (m U o : Nat) (a : Nat) : Nat := if U.testBit (sdN (sdO W c) o) = false ∧ sdG W m < sdG W o then max a (sdW (sdG W) m o + sdV (sdY W c) (sdO W c) (sdG W) (nmen W) (nmen W - (m + 1)) (sdU (sdB (sdO W c) U) o)) else a
theorem wyF_V {W : Wt} {c : Int32} {m : Nat} (hm : m < nmen W) (hY : sdY W c m = true) (U : Nat) : fo (nmen W) (fun o a => if sdO W c o = true then wyF W c m U o a else a) (sdV (sdY W c) (sdO W c) (sdG W) (nmen W) (nmen W - (m + 1)) (sdB (sdO W c) U)) = sdV (sdY W c) (sdO W c) (sdG W) (nmen W) (nmen W - m) (sdB (sdO W c) U) := by
  rw [show nmen W - m = nmen W - (m + 1) + 1 by omega, sdV_y (m := m) (by omega) hY]
  refine fo_congr (fun o a _ => ?_)
  unfold sdC sdB wyF
  cases h : sdO W c o with
  | false => rfl
  | true =>
    cases h2 : U.testBit (sdN (sdO W c) o) with
    | false =>
      by_cases h3 : sdG W m < sdG W o
      · rw [if_pos rfl, if_pos ⟨rfl, h3⟩, if_pos (by rw [decide_eq_true h3]; rfl)]; rfl
      · rw [if_pos rfl, if_neg (fun h => h3 h.2), if_neg (by rw [decide_eq_false h3]; decide)]
    | true => rw [if_pos rfl, if_neg (fun h => by cases h.1), if_neg (by exact fun h => by cases h)]
theorem wyF_le {W : Wt} {c : Int32} {m U o a : Nat} (hm : m < nmen W) (hn : nmen W ≤ 12) (h : a ≤ 200000) : wyF W c m U o a ≤ 200000 := by
  unfold wyF
  split
  · have h1 : sdW (sdG W) m o ≤ 10000 := Nat.sub_le _ _
    have h2 := sdV_le (sdY W c) (sdO W c) (sdG W) (nmen W) (nmen W - (m + 1)) (sdU (sdB (sdO W c) U) o)
    rw [Nat.max_le]; omega
  · exact h
def wyO (u : Mem) (j : Nat) : Nat := nt (u 111 j)
theorem wyO_o {W : Wt} {c : Int32} {u : Mem} (hS : SG W c u) (hn : nmen W ≤ 12) : ∀ m, m < nmen W → sdO W c m = true → wyO u (sdN (sdO W c) m) = m := fun m hm h => by
  unfold wyO
  rw [hS.2.2.2.2 m hm h, nt_nI (by omega)]
theorem nI_max {a b : Nat} (ha : a < 2147483648) (hb : b < 2147483648) : (if nI a < nI b then nI b else nI a) = nI (max a b) := by
  by_cases h : a < b
  · rw [if_pos (by rw [nn_lt ha hb]; exact h), Nat.max_eq_right (by omega)]
  · rw [if_neg (by rw [nn_lt ha hb]; exact h), Nat.max_eq_left (by omega)]
theorem c_wy1 {W : Wt} {c : Int32} {u : Mem} (hS : SG W c u) (hT : OkT W) {m U : Nat} (hm : m < nmen W) (hY : sdY W c m = true) (hB : TB W c (sdN (sdY W c) m + 1) (u 113)) (hU : U < 2 ^ sdN (sdO W c) (nmen W)) (k13 : Int32 → Int32 → Mem → Option Mem) : FX7_weighWays_106_L35 k13 FU (nI (sdN (sdY W c) m)) (nI U) (nI (sdV (sdY W c) (sdO W c) (sdG W) (nmen W) (nmen W - (m + 1)) (sdB (sdO W c) U))) 0 u = k13 (nI (sdN (sdY W c) m)) (nI (U + 1)) (mupd u 113 (sdN (sdY W c) m * 2 ^ sdN (sdO W c) (nmen W) + U) (nI (sdV (sdY W c) (sdO W c) (sdG W) (nmen W) (nmen W - m) (sdB (sdO W c) U)))) := by
  obtain ⟨hn, hn12⟩ := OkT_n hT
  have o12 := sdN_le (sdO W c) (nmen W)
  have y12 := sdN_le (sdY W c) m
  have y13 := sdN_lt hm hY
  have y14 := sdN_le (sdY W c) (nmen W)
  have dj := sdN_dj (p := sdY W c) (q := sdO W c) sd_YO (nmen W)
  have bnd : ∀ i, fo i (fun j a => wyF W c m U (wyO u j) a) (sdV (sdY W c) (sdO W c) (sdG W) (nmen W) (nmen W - (m + 1)) (sdB (sdO W c) U)) ≤ 200000 := fun i => fo_inv (fun _ a => a ≤ 200000) (by have := sdV_le (sdY W c) (sdO W c) (sdG W) (nmen W) (nmen W - (m + 1)) (sdB (sdO W c) U); omega) i (fun j a _ h => wyF_le hm hn12 h)
  have hh := lp_v (fun F i s => FX7_weighWays_106_L35 k13 F (nI (sdN (sdY W c) m)) (nI U) s i u) (sdN (sdO W c) (nmen W)) (fun i => nI (fo i (fun j a => wyF W c m U (wyO u j) a) (sdV (sdY W c) (sdO W c) (sdG W) (nmen W) (nmen W - (m + 1)) (sdB (sdO W c) U)))) (k13 (nI (sdN (sdY W c) m)) (nI (U + 1)) (mupd u 113 (sdN (sdY W c) m * 2 ^ sdN (sdO W c) (nmen W) + U) (nI (sdV (sdY W c) (sdO W c) (sdG W) (nmen W) (nmen W - m) (sdB (sdO W c) U))))) (fun i F hi => ?_) (fun F => ?_) FU (by show _ < 10000; omega)
  · rw [nI_0] at hh; exact hh
  · obtain ⟨o, ho, hO, eo⟩ := sdN_ex (sdO W c) (nmen W) hi
    have ewo : wyO u i = o := by rw [← eo]; exact wyO_o hS hn12 o ho hO
    rw [fo_s, ewo]
    have hb := bnd i
    generalize fo i (fun j a => wyF W c m U (wyO u j) a) (sdV (sdY W c) (sdO W c) (sdG W) (nmen W) (nmen W - (m + 1)) (sdB (sdO W c) U)) = acc at hb
    show FX7_weighWays_106_b35 _ _ _ _ _ _ _ = _
    unfold FX7_weighWays_106_b35 FX7_weighWays_106_b64 FX7_weighWays_106_b95
    rw [hS.2.2.1, if_neg (nle hi (by omega)), holds_b _ (by omega), b_some, tb_nI _ (by omega)]
    unfold wyF
    rw [eo]
    by_cases h1 : U.testBit i = true
    · rw [if_pos h1, if_neg z1, if_pos rfl, if_neg (fun h => by rw [h1] at h; cases h.1), nI_1]
    · rw [if_neg h1, if_pos rfl, ← eo, c_worth hS hT hm hY ho hO, b_some]
      by_cases h2 : sdG W m < sdG W o
      · have w1 : sdW (sdG W) m o ≤ 10000 := Nat.sub_le _ _
        have w0 : 0 < sdW (sdG W) m o := by
          have := (sdG_n hT (show o < 12 by omega)).2
          unfold sdW; omega
        have hi30 : sdN (sdO W c) o < 31 := by omega
        have hU2 : U ||| 2 ^ sdN (sdO W c) o < 2 ^ sdN (sdO W c) (nmen W) := Nat.or_lt_two_pow hU (Nat.pow_lt_pow_right (by omega) (by omega))
        have hw := c_way (m := m + 1) (U := U ||| 2 ^ sdN (sdO W c) o) hS hT hB (by omega) (by rw [sdN_y hY]; omega) hU2
        rw [sdN_y hY, sdB_u hO] at hw
        have v1 := sdV_le (sdY W c) (sdO W c) (sdG W) (nmen W) (nmen W - (m + 1)) (sdU (sdB (sdO W c) U) o)
        rw [if_pos h2, if_neg (nI_ne0 w0 (by omega)), nI_or hi30, nI_1, hw, b_some, nI_add, nI_max (by omega) (by omega), if_pos ⟨eq_false_of_ne_true (by rw [eo]; exact h1), h2⟩, nI_1]
      · rw [if_neg h2, if_pos rfl, if_neg (fun h => h2 h.2), nI_1]
  · show FX7_weighWays_106_b35 _ _ _ _ _ _ _ = _
    have ix := sd_ix (i := sdN (sdY W c) m) (U := U) y13 (by omega) hU
    unfold FX7_weighWays_106_b35 FX7_weighWays_106_b135
    rw [hS.2.2.1, if_pos (yle (by omega)), nI_shl _ (by omega) _ (by omega), nI_add, if_neg (nI_pos (by omega)), if_neg (by rw [li_le (by decide) (by omega)]; show ¬ 4096 ≤ _; omega), wb (by omega) (by omega), nI_1, sd_fo (wyF W c m U) _ (nmen W) (wyO_o hS hn12), wyF_V hm hY]
theorem c_weigh {W : Wt} {c : Int32} (hT : OkT W) : ∀ (i F : Nat) (u : Mem), i ≤ sdN (sdY W c) (nmen W) → i < F → SG W c u → TB W c i (u 113) → ∃ u', FX7_weighWays_106_L7 F (nI i - 1) u = some u' ∧ SG W c u' ∧ TB W c 0 (u' 113)
  | 0, F, u, hi, hF, hS, hB => by
    obtain ⟨f, rfl⟩ : ∃ f, F = f + 1 := ⟨F - 1, by omega⟩
    refine ⟨u, ?_, hS, hB⟩
    show FX7_weighWays_106_b7 _ _ _ = _
    unfold FX7_weighWays_106_b7
    rw [if_pos (by decide)]
  | i + 1, F, u, hi, hF, hS, hB => by
    obtain ⟨hn, hn12⟩ := OkT_n hT
    obtain ⟨f, rfl⟩ : ∃ f, F = f + 1 := ⟨F - 1, by omega⟩
    have y14 := sdN_le (sdY W c) (nmen W)
    have o12 := sdN_le (sdO W c) (nmen W)
    have dj := sdN_dj (p := sdY W c) (q := sdO W c) sd_YO (nmen W)
    obtain ⟨m, hm, hY, em⟩ := sdN_ex (sdY W c) (nmen W) (show i < _ by omega)
    have p4 := p2_4k (n := sdN (sdO W c) (nmen W)) (by omega)
    have e1 : nI (i + 1) - 1 = nI i := by
      rw [show nI (i + 1) - 1 = nI (i + 1 - 1) from sub_li (k := 1) (by show 1 ≤ i + 1; omega), Nat.add_sub_cancel]
    rw [e1]
    show ∃ u', FX7_weighWays_106_b7 _ _ _ = _ ∧ _
    unfold FX7_weighWays_106_b7
    rw [if_neg (nI_pos (by omega))]
    have hh := lp_r (fun F i2 u => FX7_weighWays_106_L13 (FX7_weighWays_106_L7 f) F (nI i) i2 u) (2 ^ sdN (sdO W c) (nmen W)) (fun U v => SG W c v ∧ TB W c (i + 1) (v 113) ∧ ∀ U', U' < U → v 113 (i * 2 ^ sdN (sdO W c) (nmen W) + U') = nI (sdV (sdY W c) (sdO W c) (sdG W) (nmen W) (nmen W - m) (sdB (sdO W c) U'))) (fun o => ∃ u', o = some u' ∧ SG W c u' ∧ TB W c 0 (u' 113)) (fun U v hU hv => ?_) (fun v hv F => ?_) FU 0 u (Nat.zero_le _) (by show _ < 10000; omega) ⟨hS, hB, fun U' h => by omega⟩
    · rw [nI_0] at hh; exact hh
    · obtain ⟨a, b, d⟩ := hv
      refine Or.inl ⟨mupd v 113 (i * 2 ^ sdN (sdO W c) (nmen W) + U) (nI (sdV (sdY W c) (sdO W c) (sdG W) (nmen W) (nmen W - m) (sdB (sdO W c) U))), ⟨SG_cg (fun x hx => m_ne (by omega)) a, ?_, ?_⟩, fun F => ?_⟩
      · intro m' h1 h2 h3 U' hU'
        rw [m_eq, up_ne]
        · exact b m' h1 h2 h3 U' hU'
        · have h4 : (i + 1) * 2 ^ sdN (sdO W c) (nmen W) ≤ sdN (sdY W c) m' * 2 ^ sdN (sdO W c) (nmen W) := Nat.mul_le_mul_right _ h3
          rw [Nat.succ_mul] at h4
          omega
      · intro U' hU'
        rw [m_eq]
        by_cases e : U' = U
        · rw [e, up_eq]
        · rw [up_ne (by omega)]; exact d U' (by omega)
      · show FX7_weighWays_106_b13 _ _ _ _ _ = _
        unfold FX7_weighWays_106_b13
        have hw := c_way (m := m + 1) (U := U) a hT b (by omega) (by rw [sdN_y hY]; omega) hU
        rw [sdN_y hY, em] at hw
        have hl := c_wy1 (c := c) (U := U) a hT hm hY (by rw [em]; exact b) hU (FX7_weighWays_106_L13 (FX7_weighWays_106_L7 f) F)
        rw [em] at hl
        rw [a.2.2.1, one_shl (by omega), if_neg (nle hU (by omega)), nI_1, hw, b_some, hl]
    · obtain ⟨a, b, d⟩ := hv
      show ∃ u', FX7_weighWays_106_b13 _ _ _ _ _ = some u' ∧ _
      unfold FX7_weighWays_106_b13
      rw [a.2.2.1, one_shl (by omega), if_pos (yle (by omega)), ← Int32.sub_eq_add_neg]
      refine c_weigh hT i f v (by omega) (by omega) a ?_
      intro m' h1 h2 h3 U' hU'
      by_cases e : sdN (sdY W c) m' = i
      · have := sdN_inj h2 hY (e.trans em.symm)
        rw [e, this]; exact d U' hU'
      · exact b m' h1 h2 (by omega) U' hU'
/-! who goes -/
def ovO : Option Nat → Int32
  | none => -1
  | some o => nI o
def wyQ (W : Wt) (c : Int32) (m U o : Nat) : Bool := !(U.testBit (sdN (sdO W c) o)) && (decide (sdG W m < sdG W o) && decide (sdW (sdG W) m o + sdV (sdY W c) (sdO W c) (sdG W) (nmen W) (nmen W - (m + 1)) (sdU (sdB (sdO W c) U) o) = sdV (sdY W c) (sdO W c) (sdG W) (nmen W) (nmen W - m) (sdB (sdO W c) U)))
theorem wyQ_P {W : Wt} {c : Int32} {m U : Nat} (hm : m < nmen W) (hY : sdY W c m = true) : sdF (fun o => sdO W c o && wyQ W c m U o) (nmen W) 0 = sdP (sdY W c) (sdO W c) (sdG W) (nmen W) m (sdB (sdO W c) U) := by
  unfold sdP
  rw [if_pos hY]
  refine sdF_cg _ _ (fun o _ _ => ?_)
  unfold wyQ sdQ sdC sdB
  cases sdO W c o with
  | false => rfl
  | true =>
    cases U.testBit (sdN (sdO W c) o) <;> cases decide (sdG W m < sdG W o) <;> rfl
def wyR (k18 : Int32 → Int32 → Int32 → Int32 → Int32 → Mem → Option (Int32 × Mem)) (p : Int32) (U i pr co : Nat) (u : Mem) (worth : Nat → Nat) : Option Nat → Option (Int32 × Mem)
  | none => k18 p (nI U) (nI pr) (nI co) (nI (i + 1)) u
  | some j => k18 p (nI (U ||| 2 ^ j)) (nI (pr + 1)) (nI (co + (10000 - worth j))) (nI (i + 1)) (mupd u 112 i (u 111 j))
theorem c_ch1 {W : Wt} {c : Int32} {u : Mem} (hS : SG W c u) (hT : OkT W) (hB : TB W c 0 (u 113)) {m U pr co : Nat} (hm : m < nmen W) (hY : sdY W c m = true) (hU : U < 2 ^ sdN (sdO W c) (nmen W)) (p : Int32) (k18 : Int32 → Int32 → Int32 → Int32 → Int32 → Mem → Option (Int32 × Mem)) : ∀ (k j F : Nat), j + k = sdN (sdO W c) (nmen W) → k < F → FX7_chooseGoers_106_L37 k18 F p (nI U) (nI pr) (nI co) (nI (sdN (sdY W c) m)) (nI j) u = wyR k18 p U (sdN (sdY W c) m) pr co u (fun j => sdW (sdG W) m (wyO u j)) (sdF (fun j => wyQ W c m U (wyO u j)) k j)
  | 0, j, F, hj, hF => by
    obtain ⟨f, rfl⟩ : ∃ f, F = f + 1 := ⟨F - 1, by omega⟩
    have hn12 := (OkT_n hT).2
    have o12 := sdN_le (sdO W c) (nmen W)
    show FX7_chooseGoers_106_b37 _ _ _ _ _ _ _ _ _ = k18 p (nI U) (nI pr) (nI co) (nI (sdN (sdY W c) m + 1)) u
    unfold FX7_chooseGoers_106_b37 FX7_chooseGoers_106_b152
    rw [hS.2.2.1, if_pos (by rw [show j = sdN (sdO W c) (nmen W) by omega]; exact yle (by omega)), nI_1]
  | k + 1, j, F, hj, hF => by
    obtain ⟨f, rfl⟩ : ∃ f, F = f + 1 := ⟨F - 1, by omega⟩
    have hn12 := (OkT_n hT).2
    have o12 := sdN_le (sdO W c) (nmen W)
    have y13 := sdN_lt hm hY
    have y14 := sdN_le (sdY W c) (nmen W)
    have dj := sdN_dj (p := sdY W c) (q := sdO W c) sd_YO (nmen W)
    obtain ⟨o, ho, hO, eo⟩ := sdN_ex (sdO W c) (nmen W) (show j < _ by omega)
    have ewo : wyO u j = o := by rw [← eo]; exact wyO_o hS hn12 o ho hO
    have ih := c_ch1 hS hT hB (U := U) (pr := pr) (co := co) hm hY hU p k18 k (j + 1) f (by omega) (by omega)
    show FX7_chooseGoers_106_b37 _ _ _ _ _ _ _ _ _ = _
    unfold FX7_chooseGoers_106_b37 sdF
    rw [hS.2.2.1, if_neg (nle (show j < _ by omega) (by omega)), if_neg (by rw [li_le (by decide) (by omega)]; show ¬ 12 ≤ j; omega), holds_b _ (by omega), b_some, tb_nI _ (by omega)]
    unfold FX7_chooseGoers_106_b74 FX7_chooseGoers_106_b146 FX7_chooseGoers_106_b152
    by_cases h1 : U.testBit j = true
    · rw [if_pos h1, if_neg z1, if_pos rfl, nI_1, ih, if_neg]
      show ¬ wyQ W c m U (wyO u j) = true
      unfold wyQ
      rw [ewo, eo, h1]
      exact fun h => by cases h
    · rw [if_neg h1, if_pos rfl]
      have cw := c_worth hS hT hm hY ho hO
      rw [eo] at cw
      rw [cw, b_some]
      by_cases h2 : sdG W m < sdG W o
      · have w1 : sdW (sdG W) m o ≤ 10000 := Nat.sub_le _ _
        have w0 : 0 < sdW (sdG W) m o := by
          have := (sdG_n hT (show o < 12 by omega)).2
          unfold sdW; omega
        have hU2 : U ||| 2 ^ sdN (sdO W c) o < 2 ^ sdN (sdO W c) (nmen W) := Nat.or_lt_two_pow hU (Nat.pow_lt_pow_right (by omega) (by omega))
        have hw := c_way (m := m + 1) (U := U ||| 2 ^ sdN (sdO W c) o) hS hT hB (by omega) (Nat.zero_le _) hU2
        rw [sdN_y hY, sdB_u hO, eo] at hw
        have hw2 := c_way (m := m) (U := U) hS hT hB (by omega) (Nat.zero_le _) hU
        have v1 := sdV_le (sdY W c) (sdO W c) (sdG W) (nmen W) (nmen W - (m + 1)) (sdU (sdB (sdO W c) U) o)
        have v2 := sdV_le (sdY W c) (sdO W c) (sdG W) (nmen W) (nmen W - m) (sdB (sdO W c) U)
        rw [if_pos h2, if_neg (nI_ne0 w0 (by omega)), nI_or (by omega), nI_1, hw, b_some, hw2, b_some, nI_add]
        by_cases h3 : sdW (sdG W) m o + sdV (sdY W c) (sdO W c) (sdG W) (nmen W) (nmen W - (m + 1)) (sdU (sdB (sdO W c) U) o) = sdV (sdY W c) (sdO W c) (sdG W) (nmen W) (nmen W - m) (sdB (sdO W c) U)
        · rw [if_pos (by rw [h3]), if_pos, rb (by omega) (by omega), wb (by omega) (by omega), nI_1, li_sub (by show _ ≤ 10000; omega), nI_add]
          · show _ = k18 p _ _ (nI (co + (10000 - sdW (sdG W) m (wyO u j)))) _ _
            rw [ewo]
          · show wyQ W c m U (wyO u j) = true
            unfold wyQ
            rw [ewo, eo, eq_false_of_ne_true h1, decide_eq_true h2, decide_eq_true h3]; rfl
        · rw [if_neg (by rw [nn_eq (by omega) (by omega)]; exact h3), nI_1, ih, if_neg]
          show ¬ wyQ W c m U (wyO u j) = true
          unfold wyQ
          rw [ewo, decide_eq_false h3, Bool.and_false, Bool.and_false]
          exact fun h => by cases h
      · rw [if_neg h2, if_pos rfl, nI_1, ih, if_neg]
        show ¬ wyQ W c m U (wyO u j) = true
        unfold wyQ
        rw [ewo, decide_eq_false h2, Bool.false_and, Bool.and_false]
        exact fun h => by cases h
