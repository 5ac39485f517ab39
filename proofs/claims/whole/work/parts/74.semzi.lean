/-! stands: the class -/
def sdY (W : Wt) (c : Int32) (m : Nat) : Bool := decide (W (90 + m) = c ∧ W (40 + m) = 1)
def sdO (W : Wt) (c : Int32) (m : Nat) : Bool := decide (W (90 + m) = c ∧ W (40 + m) = 0)
def sdG (W : Wt) (m : Nat) : Nat := nt (W (102 + m))
theorem sdY_t {W : Wt} {c : Int32} {m : Nat} : sdY W c m = true ↔ (W (90 + m) = c ∧ W (40 + m) = 1) := by unfold sdY; rw [decide_eq_true_eq]
theorem sdO_t {W : Wt} {c : Int32} {m : Nat} : sdO W c m = true ↔ (W (90 + m) = c ∧ W (40 + m) = 0) := by unfold sdO; rw [decide_eq_true_eq]
theorem sd_YO {W : Wt} {c : Int32} : ∀ x, sdY W c x = true → sdO W c x = true → False := fun x a b => by
  have h := (sdO_t.mp b).2
  rw [(sdY_t.mp a).2] at h
  exact z1 h
theorem sdG_n {W : Wt} (hT : OkT W) {m : Nat} (hm : m < 12) : W (102 + m) = nI (sdG W m) ∧ sdG W m ≤ 120 := by
  obtain ⟨j, hj, e⟩ := OkT_ag hT m hm
  unfold sdG
  rw [e, nt_nI (by omega)]
  exact ⟨rfl, hj⟩
def SG (W : Wt) (c : Int32) (u : Mem) : Prop := CR 23 u W ∧ u 106 11 = nI (sdN (sdY W c) (nmen W)) ∧ u 106 12 = nI (sdN (sdO W c) (nmen W)) ∧ (∀ m, m < nmen W → sdY W c m = true → u 110 (sdN (sdY W c) m) = nI m) ∧ (∀ m, m < nmen W → sdO W c m = true → u 111 (sdN (sdO W c) m) = nI m)
theorem SG_cg {W : Wt} {c : Int32} {u u' : Mem} (e : ∀ x, x ≤ 111 → u' x = u x) (h : SG W c u) : SG W c u' := by
  obtain ⟨a, b, d, f, g⟩ := h
  unfold SG
  rw [e 106 (by omega), e 110 (by omega), e 111 (by omega)]
  exact ⟨CR_cg (fun c hc => e c (by omega)) a, b, d, f, g⟩
theorem c_gather {u : Mem} {W : Wt} (hC : CR 23 u W) (hT : OkT W) (c : Int32) : ∃ u', FX7_gather_106 c u = some u' ∧ SG W c u' := by
  obtain ⟨hn, hn12⟩ := OkT_n hT
  have hC2 : CR 23 (mupd (mupd u 106 11 0) 106 12 0) W := CR_cg (fun c hc => by rw [m_ne (by omega), m_ne (by omega)]) hC
  unfold FX7_gather_106
  rw [b_some, b_some]
  have hh := lp_r (fun F i u => FX7_gather_106_L12 F c i u) (nmen W) (fun i v => CR 23 v W ∧ v 106 11 = nI (sdN (sdY W c) i) ∧ v 106 12 = nI (sdN (sdO W c) i) ∧ (∀ m, m < i → sdY W c m = true → v 110 (sdN (sdY W c) m) = nI m) ∧ (∀ m, m < i → sdO W c m = true → v 111 (sdN (sdO W c) m) = nI m)) (fun o => ∃ u', o = some u' ∧ SG W c u') (fun i v hi hv => ?_) (fun v hv F => ?_) FU 0 (mupd (mupd u 106 11 0) 106 12 0) (by omega) (by show _ < 10000; omega) ⟨hC2, ?_, ?_, fun m hm => by omega, fun m hm => by omega⟩
  · rw [nI_0] at hh; exact hh
  · obtain ⟨a, b, d, f, g⟩ := hv
    have y12 := sdN_le (sdY W c) i
    have o12 := sdN_le (sdO W c) i
    refine Or.inl ?_
    have start : ∀ F, FX7_gather_106_L12 (F + 1) c (nI i) v = (if W (90 + i) = c then ((rdA v 27 12 (nI i)).bind fun x5 => (if x5 = 1 then ((if 12 ≤ (v 106 11) then (FX7_gather_106_b87 (FX7_gather_106_L12 F) c (nI i) v) else ((wrA v 110 12 (v 106 11) (nI i)).bind fun u8 => (some (mupd u8 106 11 ((u8 106 11) + 1))).bind fun u9 => FX7_gather_106_b141 (FX7_gather_106_L12 F) c (nI i) u9))) else (FX7_gather_106_b87 (FX7_gather_106_L12 F) c (nI i) v))) else (FX7_gather_106_b87 (FX7_gather_106_L12 F) c (nI i) v)) := by
      intro F
      show FX7_gather_106_b12 _ _ _ _ = _
      unfold FX7_gather_106_b12
      rw [if_neg (by rw [li_le (by decide) (by omega)]; show ¬ 12 ≤ i; omega), ru_men a.1, hn, if_neg (nle hi (by omega)), rb (by omega) (by omega), gco a (by omega)]
    have mid : ∀ (k : Int32 → Int32 → Mem → Option Mem), FX7_gather_106_b87 k c (nI i) v = (if W (90 + i) = c then (if W (40 + i) = 0 then ((if 12 ≤ (v 106 12) then (FX7_gather_106_b141 k c (nI i) v) else ((wrA v 111 12 (v 106 12) (nI i)).bind fun u6 => (some (mupd u6 106 12 ((u6 106 12) + 1))).bind fun u7 => FX7_gather_106_b141 k c (nI i) u7))) else (FX7_gather_106_b141 k c (nI i) v)) else (FX7_gather_106_b141 k c (nI i) v)) := by
      intro k
      unfold FX7_gather_106_b87
      rw [rb (by omega) (by omega), gco a (by omega), rb (by omega) (by omega), gwh_23 a (by omega)]
    by_cases c1 : W (90 + i) = c
    · by_cases c2 : W (40 + i) = 1
      · have hY : sdY W c i = true := sdY_t.mpr ⟨c1, c2⟩
        have hO : ¬ sdO W c i = true := fun h => sd_YO i hY h
        refine ⟨mupd (mupd v 110 (sdN (sdY W c) i) (nI i)) 106 11 (nI (sdN (sdY W c) i + 1)), ⟨CR_cg (fun c hc => by rw [m_ne (by omega), m_ne (by omega)]) a, ?_, ?_, fun m hm hy => ?_, fun m hm ho => ?_⟩, fun F => ?_⟩
        · rw [m_eq, up_eq, sdN_y hY]
        · rw [m_eq, up_ne (by decide), m_ne (by decide), d, sdN_n hO]
        · rw [m_ne (by decide), m_eq]
          by_cases e : m = i
          · rw [e, up_eq]
          · have := sdN_lt (show m < i by omega) hy
            rw [up_ne (by omega)]; exact f m (by omega) hy
        · rw [m_ne (by decide), m_ne (by decide)]
          by_cases e : m = i
          · rw [e] at ho; exact absurd ho hO
          · exact g m (by omega) ho
        · rw [start, if_pos c1, rb (by omega) (by omega), gwh_23 a (by omega), if_pos c2, b, if_neg (by rw [li_le (by decide) (by omega)]; show ¬ 12 ≤ sdN (sdY W c) i; omega), wb (by omega) (by omega), b_some, m_ne (show 106 ≠ 110 by decide), b, nI_1]
          unfold FX7_gather_106_b141
          rw [nI_1]
      · have hY : ¬ sdY W c i = true := fun h => c2 (sdY_t.mp h).2
        by_cases c3 : W (40 + i) = 0
        · have hO : sdO W c i = true := sdO_t.mpr ⟨c1, c3⟩
          refine ⟨mupd (mupd v 111 (sdN (sdO W c) i) (nI i)) 106 12 (nI (sdN (sdO W c) i + 1)), ⟨CR_cg (fun c hc => by rw [m_ne (by omega), m_ne (by omega)]) a, ?_, ?_, fun m hm hy => ?_, fun m hm ho => ?_⟩, fun F => ?_⟩
          · rw [m_eq, up_ne (by decide), m_ne (by decide), b, sdN_n hY]
          · rw [m_eq, up_eq, sdN_y hO]
          · rw [m_ne (by decide), m_ne (by decide)]
            by_cases e : m = i
            · rw [e] at hy; exact absurd hy hY
            · exact f m (by omega) hy
          · rw [m_ne (by decide), m_eq]
            by_cases e : m = i
            · rw [e, up_eq]
            · have := sdN_lt (show m < i by omega) ho
              rw [up_ne (by omega)]; exact g m (by omega) ho
          · rw [start, if_pos c1, rb (by omega) (by omega), gwh_23 a (by omega), if_neg c2, mid, if_pos c1, if_pos c3, d, if_neg (by rw [li_le (by decide) (by omega)]; show ¬ 12 ≤ sdN (sdO W c) i; omega), wb (by omega) (by omega), b_some, m_ne (show 106 ≠ 111 by decide), d, nI_1]
            unfold FX7_gather_106_b141
            rw [nI_1]
        · have hO : ¬ sdO W c i = true := fun h => c3 (sdO_t.mp h).2
          refine ⟨v, ⟨a, by rw [sdN_n hY]; exact b, by rw [sdN_n hO]; exact d, fun m hm hy => ?_, fun m hm ho => ?_⟩, fun F => ?_⟩
          · by_cases e : m = i
            · rw [e] at hy; exact absurd hy hY
            · exact f m (by omega) hy
          · by_cases e : m = i
            · rw [e] at ho; exact absurd ho hO
            · exact g m (by omega) ho
          · rw [start, if_pos c1, rb (by omega) (by omega), gwh_23 a (by omega), if_neg c2, mid, if_pos c1, if_neg c3]
            unfold FX7_gather_106_b141
            rw [nI_1]
    · have hY : ¬ sdY W c i = true := fun h => c1 (sdY_t.mp h).1
      have hO : ¬ sdO W c i = true := fun h => c1 (sdO_t.mp h).1
      refine ⟨v, ⟨a, by rw [sdN_n hY]; exact b, by rw [sdN_n hO]; exact d, fun m hm hy => ?_, fun m hm ho => ?_⟩, fun F => ?_⟩
      · by_cases e : m = i
        · rw [e] at hy; exact absurd hy hY
        · exact f m (by omega) hy
      · by_cases e : m = i
        · rw [e] at ho; exact absurd ho hO
        · exact g m (by omega) ho
      · rw [start, if_neg c1, mid, if_neg c1]
        unfold FX7_gather_106_b141
        rw [nI_1]
  · refine ⟨v, ?_, hv⟩
    show FX7_gather_106_b12 _ _ _ _ = _
    unfold FX7_gather_106_b12
    rw [ru_men hv.1.1, hn]
    by_cases x : (12 : Int32) ≤ nI (nmen W)
    · rw [if_pos x]
    · rw [if_neg x, if_pos (yle (by omega))]
  · rw [m_eq, up_ne (by decide), m_eq, up_eq]; exact nI_0.symm
  · rw [m_eq, up_eq]; exact nI_0.symm
theorem c_age {W : Wt} {u : Mem} (h : TR 1 u W) (hT : OkT W) {o : Nat} (ho : o < nmen W) : FX9_ageOf_1 (nI o) u = some (nI (sdG W o)) := by
  have hn12 := (OkT_n hT).2
  unfold FX9_ageOf_1
  rw [c_has (ru_men h) hT ho, b_some, if_neg z1, rb (by omega) (by omega), TR_ag h o (by omega), (sdG_n hT (by omega)).1]
theorem c_worth {W : Wt} {c : Int32} {u : Mem} (hS : SG W c u) (hT : OkT W) {m o : Nat} (hm : m < nmen W) (hY : sdY W c m = true) (ho : o < nmen W) (hO : sdO W c o = true) : FX7_worth_106 (nI (sdN (sdY W c) m)) (nI (sdN (sdO W c) o)) u = some (if sdG W m < sdG W o then nI (sdW (sdG W) m o) else 0) := by
  obtain ⟨hn, hn12⟩ := OkT_n hT
  obtain ⟨a, b, d, f, g⟩ := hS
  have y1 := sdN_lt hm hY
  have y2 := sdN_le (sdY W c) (nmen W)
  have o1 := sdN_lt ho hO
  have o2 := sdN_le (sdO W c) (nmen W)
  have g1 := (sdG_n hT (show m < 12 by omega)).2
  have g2 := (sdG_n hT (show o < 12 by omega)).2
  unfold FX7_worth_106
  rw [if_neg (nI_pos (by omega)), b, if_neg (nle y1 (by omega)), if_neg (by rw [li_le (by decide) (by omega)]; show ¬ 12 ≤ sdN (sdY W c) m; omega), if_neg (nI_pos (by omega)), d, if_neg (nle o1 (by omega)), if_pos (by rw [lt_li (by decide) (by omega)]; show sdN (sdO W c) o < 12; omega), rb (by omega) (by omega), g o ho hO, c_age a.1 hT ho, b_some, rb (by omega) (by omega), f m hm hY, c_age a.1 hT hm, b_some]
  by_cases x : sdG W m < sdG W o
  · rw [if_pos x, nI_sub (by omega), if_neg (by rw [le_li (by decide) (by omega)]; show ¬ sdG W o - sdG W m ≤ 0; omega), li_sub (by show _ ≤ 10000; omega)]
    rfl
  · rw [if_neg x, if_pos]
    rw [Int32.le_iff_toInt_le, nI_subI (by omega) (by omega)]
    have h2 : (0 : Int32).toInt = 0 := by decide
    rw [h2]; omega
def sdB (O : Nat → Bool) (U : Nat) : Nat → Bool := fun x => O x && U.testBit (sdN O x)
theorem sdB_0 (O : Nat → Bool) : sdB O 0 = fun _ => false := by
  funext x; unfold sdB; rw [Nat.zero_testBit, Bool.and_false]
theorem sdB_u {O : Nat → Bool} {U o : Nat} (hO : O o = true) : sdB O (U ||| 2 ^ sdN O o) = sdU (sdB O U) o := by
  funext x
  show (O x && (U ||| 2 ^ sdN O o).testBit (sdN O x)) = if x = o then true else (O x && U.testBit (sdN O x))
  by_cases e : x = o
  · rw [if_pos e, e, hO, Nat.testBit_or, Nat.testBit_two_pow_self, Bool.or_true]; rfl
  · rw [if_neg e]
    cases h : O x with
    | false => rfl
    | true =>
      rw [Nat.testBit_or, Nat.testBit_two_pow_of_ne (fun h2 => e (sdN_inj h hO h2.symm)), Bool.or_false]
theorem nI_or {U j : Nat} (hj : j < 31) : nI U ||| ((1 : Int32) <<< (nI j &&& 31)) = nI (U ||| 2 ^ j) := by
  refine tb_ext fun k hk => ?_
  rw [nI_shm (by omega), tb_or, tb_nI _ hk, tb_1s (by omega) hk, tb_nI _ hk, Nat.testBit_or]
  by_cases e : k = j
  · rw [e, Nat.testBit_two_pow_self, decide_eq_true rfl]
  · rw [Nat.testBit_two_pow_of_ne (fun h => e h.symm), decide_eq_false e]
theorem nI_shl : ∀ i, i < 13 → ∀ d, d < 13 → nI i <<< (nI d &&& 31) = nI (i * 2 ^ d) := by decide +kernel
theorem sd_ix {i y a U : Nat} (hi : i < y) (hy : y + a ≤ 12) (hU : U < 2 ^ a) : i * 2 ^ a + U < 4096 := by
  have h1 : i + 1 ≤ 2 ^ (12 - a) := by
    have : 12 - a < 2 ^ (12 - a) := Nat.lt_two_pow_self
    omega
  have h2 : (i + 1) * 2 ^ a ≤ 2 ^ (12 - a) * 2 ^ a := Nat.mul_le_mul_right _ h1
  rw [← Nat.pow_add, show 12 - a + a = 12 by omega, Nat.succ_mul] at h2
  have h3 : (2 : Nat) ^ 12 = 4096 := by decide
  omega
def TB (W : Wt) (c : Int32) (i0 : Nat) (T : Wt) : Prop := ∀ m, m < nmen W → sdY W c m = true → i0 ≤ sdN (sdY W c) m → ∀ U, U < 2 ^ sdN (sdO W c) (nmen W) → T (sdN (sdY W c) m * 2 ^ sdN (sdO W c) (nmen W) + U) = nI (sdV (sdY W c) (sdO W c) (sdG W) (nmen W) (nmen W - m) (sdB (sdO W c) U))
theorem c_way {W : Wt} {c : Int32} {u : Mem} (hS : SG W c u) (hT : OkT W) {i0 : Nat} (hB : TB W c i0 (u 113)) {m U : Nat} (hm : m ≤ nmen W) (hi : i0 ≤ sdN (sdY W c) m) (hU : U < 2 ^ sdN (sdO W c) (nmen W)) : FX7_way_106 (nI (sdN (sdY W c) m)) (nI U) u = some (nI (sdV (sdY W c) (sdO W c) (sdG W) (nmen W) (nmen W - m) (sdB (sdO W c) U))) := by
  obtain ⟨hn, hn12⟩ := OkT_n hT
  obtain ⟨a, b, d, f, g⟩ := hS
  have y2 := sdN_le (sdY W c) (nmen W)
  have y3 := sdN_le (sdY W c) m
  have dj := sdN_dj (p := sdY W c) (q := sdO W c) sd_YO (nmen W)
  unfold FX7_way_106
  rw [b, d]
  rcases sd_nx (sdY W c) (sdO W c) (sdG W) (nmen W) (nmen W - m) m (by omega) with ⟨e, h⟩ | ⟨m', h1, h2, h3, h4, h5⟩
  · rw [if_pos (by rw [e]; exact yle (by omega)), h]; rfl
  · have h6 := sdN_lt h2 h3
    have ix := sd_ix (i := sdN (sdY W c) m) (y := sdN (sdY W c) (nmen W)) (U := U) (by omega) (by omega) hU
    rw [if_neg (by rw [← h4]; exact nle h6 (by omega)), nI_shl _ (by omega) _ (by omega), nI_add, if_neg (nI_pos (by omega)), if_pos (by rw [lt_li (by decide) (by omega)]; exact ix), rb (by omega) (by omega), ← h5, ← h4]
    exact congrArg some (hB m' h2 h3 (by omega) U hU)
