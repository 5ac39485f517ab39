/-! stands: the model, and both -/
def sdL (L : Nat) : Nat → Bool := fun x => !(L.testBit x)
theorem sdL_u {L o : Nat} (h : L.testBit o = true) : sdL (L ^^^ 2 ^ o) = sdU (sdL L) o := by
  funext x
  unfold sdL sdU
  by_cases e : x = o
  · rw [if_pos e, e, Nat.testBit_xor, h, Nat.testBit_two_pow_self]; rfl
  · rw [if_neg e, Nat.testBit_xor, Nat.testBit_two_pow_of_ne (fun h2 => e h2.symm), Bool.xor_false]
theorem nI_clr {L o : Nat} (ho : o < 31) (h : L.testBit o = true) : nI L &&& (((1 : Int32) <<< (nI o &&& 31)) ^^^ (-1)) = nI (L ^^^ 2 ^ o) := by
  refine tb_ext fun k hk => ?_
  rw [nI_shm (by omega), tb_and, tb_xor, tb_m1 hk, tb_nI _ hk, tb_1s (by omega) hk, tb_nI _ hk, Nat.testBit_xor]
  by_cases e : k = o
  · rw [e, h, Nat.testBit_two_pow_self, decide_eq_true rfl]; rfl
  · rw [Nat.testBit_two_pow_of_ne (fun h2 => e h2.symm), decide_eq_false e, Bool.false_xor, Bool.and_true, Bool.xor_false]
theorem greater_n {a b : Nat} (ha : a < 2147483648) (hb : b < 2147483648) : FX12_greater (nI a) (nI b) = some (nI (max a b)) := by
  unfold FX12_greater
  by_cases c : a ≤ b
  · rw [if_pos (by rw [nn_le ha hb]; exact c), Nat.max_eq_right c]
  · rw [if_neg (by rw [nn_le ha hb]; exact c), Nat.max_eq_left (by omega)]
theorem m_canSt {W : Wt} {c : Int32} {u : Mem} (hu : u 147 = W) (hT : OkT W) {m o : Nat} (hm : m < 12) (ho : o < 12) : FX12_canStand_146 c (nI o) (nI m) u = some (if sdO W c o = true ∧ sdG W m < sdG W o then 1 else 0) := by
  unfold FX12_canStand_146
  obtain ⟨e1, b1⟩ := sdG_n hT hm
  obtain ⟨e2, b2⟩ := sdG_n hT ho
  rw [m_isOf hu ho, b_some]
  by_cases h : W (90 + o) = c ∧ W (40 + o) = 0
  · rw [if_pos h, if_neg z1, rl (by show 102 + o < _; omega) (by omega), rl (by show 102 + m < _; omega) (by omega)]
    show (if u 147 (102 + o) ≤ u 147 (102 + m) then _ else _) = _
    rw [hu, e1, e2]
    by_cases h2 : sdG W m < sdG W o
    · rw [if_neg (by rw [nn_le (by omega) (by omega)]; omega), if_pos ⟨sdO_t.mpr h, h2⟩]
    · rw [if_pos (by rw [nn_le (by omega) (by omega)]; omega), if_neg (fun x => h2 x.2)]
  · rw [if_neg h, if_pos rfl, if_neg (fun x => h (sdO_t.mp x.1))]
theorem m_stW {W : Wt} {u : Mem} (hu : u 147 = W) (hT : OkT W) {m o : Nat} (hm : m < 12) (ho : o < 12) (h : sdG W m < sdG W o) : FX12_standWorth_146 (nI o) (nI m) u = some (nI (sdW (sdG W) m o)) := by
  unfold FX12_standWorth_146
  obtain ⟨e1, b1⟩ := sdG_n hT hm
  obtain ⟨e2, b2⟩ := sdG_n hT ho
  rw [rl (by show 102 + o < _; omega) (by omega), rl (by show 102 + m < _; omega) (by omega)]
  show some ((10000 - u 147 (102 + o)) + u 147 (102 + m)) = _
  rw [hu, e1, e2, li_sub (by show _ ≤ 10000; omega), nI_add]
  unfold sdW
  congr 2
  show 10000 - sdG W o + sdG W m = _
  omega
def MTB (W : Wt) (c : Int32) (T : Wt) (m0 : Nat) : Prop := ∀ m, m0 ≤ m → m ≤ nmen W → ∀ L, L < 2 ^ nmen W → T (4096 * m + L) = nI (sdV (sdY W c) (sdO W c) (sdG W) (nmen W) (nmen W - m) (sdL L))
theorem ix4 (m L : Nat) : (4096 * nI m) + nI L = nI (4096 * m + L) := by rw [li_mul, nI_add]
theorem m_lay1 {W : Wt} {c : Int32} {u : Mem} (hu : u 147 = W) (hT : OkT W) {m L : Nat} (hm : m < nmen W) (hY : sdY W c m = true) (hB : MTB W c (u 158) (m + 1)) (hL : L < 2 ^ nmen W) (k25 : Int32 → Int32 → Int32 → Int32 → Mem → Option Mem) (l2 : Int32) : FX12_laysStands_146_L94 k25 FU c l2 (nI m) (nI L) (nI (sdV (sdY W c) (sdO W c) (sdG W) (nmen W) (nmen W - (m + 1)) (sdL L))) 1 0 u = k25 c l2 (nI m) (nI (L + 1)) (mupd u 158 (4096 * m + L) (nI (sdV (sdY W c) (sdO W c) (sdG W) (nmen W) (nmen W - m) (sdL L)))) := by
  obtain ⟨hn, hn12⟩ := OkT_n hT
  have p4 := p2_4k hn12
  have hv := sdV_y (ag := sdG W) (O := sdO W c) (m := m) (k := nmen W - (m + 1)) (n := nmen W) (by omega) hY (sdL L)
  rw [show nmen W - (m + 1) + 1 = nmen W - m by omega] at hv
  have bnd : ∀ i, fo i (fun o a => if sdC (sdO W c) (sdG W) m (sdL L) o = true then max a (sdW (sdG W) m o + sdV (sdY W c) (sdO W c) (sdG W) (nmen W) (nmen W - (m + 1)) (sdU (sdL L) o)) else a) (sdV (sdY W c) (sdO W c) (sdG W) (nmen W) (nmen W - (m + 1)) (sdL L)) ≤ 200000 := fun i => by
    refine fo_inv (fun _ a => a ≤ 200000) (by have := sdV_le (sdY W c) (sdO W c) (sdG W) (nmen W) (nmen W - (m + 1)) (sdL L); omega) i (fun o a _ h => ?_)
    show (if _ then _ else _) ≤ _
    split
    · have h1 : sdW (sdG W) m o ≤ 10000 := Nat.sub_le _ _
      have h2 := sdV_le (sdY W c) (sdO W c) (sdG W) (nmen W) (nmen W - (m + 1)) (sdU (sdL L) o)
      rw [Nat.max_le]; omega
    · exact h
  have hh := lp_v (fun F i s => FX12_laysStands_146_L94 k25 F c l2 (nI m) (nI L) s 1 i u) (nmen W) (fun i => nI (fo i (fun o a => if sdC (sdO W c) (sdG W) m (sdL L) o = true then max a (sdW (sdG W) m o + sdV (sdY W c) (sdO W c) (sdG W) (nmen W) (nmen W - (m + 1)) (sdU (sdL L) o)) else a) (sdV (sdY W c) (sdO W c) (sdG W) (nmen W) (nmen W - (m + 1)) (sdL L)))) (k25 c l2 (nI m) (nI (L + 1)) (mupd u 158 (4096 * m + L) (nI (sdV (sdY W c) (sdO W c) (sdG W) (nmen W) (nmen W - m) (sdL L))))) (fun i F hi => ?_) (fun F => ?_) FU (by show _ < 10000; omega)
  · rw [nI_0] at hh; exact hh
  · rw [fo_s]
    have hb := bnd i
    generalize fo i (fun o a => if sdC (sdO W c) (sdG W) m (sdL L) o = true then max a (sdW (sdG W) m o + sdV (sdY W c) (sdO W c) (sdG W) (nmen W) (nmen W - (m + 1)) (sdU (sdL L) o)) else a) (sdV (sdY W c) (sdO W c) (sdG W) (nmen W) (nmen W - (m + 1)) (sdL L)) = acc at hb
    show FX12_laysStands_146_b94 _ _ _ _ _ _ _ _ _ _ = _
    unfold FX12_laysStands_146_b94 FX12_laysStands_146_b170
    rw [hu, hn, if_neg (nle hi (by omega)), if_neg z1]
    by_cases h1 : L.testBit i = true
    · rw [if_pos (by rw [bit_1 _ (by omega), tb_nI _ (by omega)]; exact h1), m_canSt hu hT (by omega) (by omega), b_some]
      by_cases h2 : sdO W c i = true ∧ sdG W m < sdG W i
      · have w1 : sdW (sdG W) m i ≤ 10000 := Nat.sub_le _ _
        have v1 := sdV_le (sdY W c) (sdO W c) (sdG W) (nmen W) (nmen W - (m + 1)) (sdU (sdL L) i)
        have hL2 : L ^^^ 2 ^ i < 2 ^ nmen W := Nat.xor_lt_two_pow hL (Nat.pow_lt_pow_right (by omega) hi)
        have ht := hB (m + 1) (Nat.le_refl _) (by omega) (L ^^^ 2 ^ i) hL2
        rw [sdL_u h1] at ht
        rw [if_pos h2, if_neg z1, m_stW hu hT (by omega) (by omega) h2.2, b_some, nI_1, nI_clr (by omega) h1, ix4, rb (by omega) (by omega), ht, nI_add, greater_n (by omega) (by omega), b_some, nI_1, if_pos]
        unfold sdC sdL
        rw [h2.1, h1, decide_eq_true h2.2]; rfl
      · rw [if_neg h2, if_pos rfl, nI_1, if_neg]
        unfold sdC
        intro h
        rw [Bool.and_eq_true, Bool.and_eq_true, decide_eq_true_eq] at h
        exact h2 ⟨h.1, h.2.2⟩
    · rw [if_neg (by rw [bit_1 _ (by omega), tb_nI _ (by omega)]; exact h1), nI_1, if_neg]
      unfold sdC sdL
      rw [eq_false_of_ne_true h1]
      intro h
      rw [Bool.and_eq_true, Bool.and_eq_true] at h
      cases h.2.1
  · show FX12_laysStands_146_b94 _ _ _ _ _ _ _ _ _ _ = _
    unfold FX12_laysStands_146_b94 FX12_laysStands_146_b176
    rw [hu, hn, if_pos (yle (by omega)), ix4, wb (by omega) (by omega), nI_1, ← hv]
theorem m_lays {W : Wt} {c : Int32} (hT : OkT W) : ∀ (i F : Nat) (u : Mem), i ≤ nmen W + 1 → i < F → u 147 = W → MTB W c (u 158) i → ∃ u', FX12_laysStands_146_L18 F c (nI (2 ^ nmen W)) (nI i - 1) u = some u' ∧ u' 147 = W ∧ MTB W c (u' 158) 0
  | 0, F, u, hi, hF, hu, hB => by
    obtain ⟨f, rfl⟩ : ∃ f, F = f + 1 := ⟨F - 1, by omega⟩
    refine ⟨u, ?_, hu, hB⟩
    show FX12_laysStands_146_b18 _ _ _ _ _ = _
    unfold FX12_laysStands_146_b18
    rw [if_pos (by decide)]
  | i + 1, F, u, hi, hF, hu, hB => by
    obtain ⟨hn, hn12⟩ := OkT_n hT
    obtain ⟨f, rfl⟩ : ∃ f, F = f + 1 := ⟨F - 1, by omega⟩
    have p4 := p2_4k hn12
    have e1 : nI (i + 1) - 1 = nI i := by
      rw [show nI (i + 1) - 1 = nI (i + 1 - 1) from sub_li (k := 1) (by show 1 ≤ i + 1; omega), Nat.add_sub_cancel]
    rw [e1]
    show ∃ u', FX12_laysStands_146_b18 _ _ _ _ _ = _ ∧ _
    unfold FX12_laysStands_146_b18
    rw [if_neg (nI_pos (by omega))]
    have hh := lp_r (fun F i2 u => FX12_laysStands_146_L25 (FX12_laysStands_146_L18 f) F c (nI (2 ^ nmen W)) (nI i) i2 u) (2 ^ nmen W) (fun L v => v 147 = W ∧ MTB W c (v 158) (i + 1) ∧ ∀ L', L' < L → v 158 (4096 * i + L') = nI (sdV (sdY W c) (sdO W c) (sdG W) (nmen W) (nmen W - i) (sdL L'))) (fun o => ∃ u', o = some u' ∧ u' 147 = W ∧ MTB W c (u' 158) 0) (fun L v hL hv => ?_) (fun v hv F => ?_) FU 0 u (Nat.zero_le _) (by show _ < 10000; omega) ⟨hu, hB, fun L' h => by omega⟩
    · rw [nI_0] at hh; exact hh
    · obtain ⟨a, b, d⟩ := hv
      refine Or.inl ⟨mupd v 158 (4096 * i + L) (nI (sdV (sdY W c) (sdO W c) (sdG W) (nmen W) (nmen W - i) (sdL L))), ⟨by rw [m_ne (by decide)]; exact a, ?_, ?_⟩, fun F => ?_⟩
      · intro m' h1 h2 L' hL'
        rw [m_eq, up_ne (by omega)]
        exact b m' h1 h2 L' hL'
      · intro L' hL'
        rw [m_eq]
        by_cases e : L' = L
        · rw [e, up_eq]
        · rw [up_ne (by omega)]; exact d L' (by omega)
      · show FX12_laysStands_146_b25 _ _ _ _ _ _ _ = _
        unfold FX12_laysStands_146_b25 FX12_laysStands_146_b61 FX12_laysStands_146_b89
        rw [if_neg (nle hL (by omega)), a, hn]
        have field0 : ∀ (k25 : Int32 → Int32 → Int32 → Int32 → Mem → Option Mem) (x : Int32), FX12_laysStands_146_L94 k25 FU c (nI (2 ^ nmen W)) (nI i) (nI L) x 0 0 v = k25 c (nI (2 ^ nmen W)) (nI i) (nI (L + 1)) (mupd v 158 (4096 * i + L) x) := by
          intro k25 x
          show FX12_laysStands_146_b94 _ _ _ _ _ _ _ _ _ _ = _
          unfold FX12_laysStands_146_b94 FX12_laysStands_146_b176
          rw [if_pos rfl, ite_self, ix4, wb (by omega) (by omega), nI_1]
        by_cases ei : i = nmen W
        · rw [if_pos (by rw [ei]), if_pos (by rw [ei]; exact yle (by omega)), field0]
          rw [show nmen W - i = 0 by omega]; rfl
        · have him : i < nmen W := by omega
          have ht := b (i + 1) (Nat.le_refl _) (by omega) L hL
          rw [if_neg (by rw [nn_eq (by omega) (by omega)]; exact ei), nI_1, ix4, rb (by omega) (by omega), ht, if_neg (nle him (by omega)), m_isOf a (by omega), b_some]
          by_cases hY : W (90 + i) = c ∧ W (40 + i) = 1
          · rw [if_pos hY, if_neg z1]
            exact m_lay1 a hT him (sdY_t.mpr hY) b hL _ _
          · rw [if_neg hY, if_pos rfl, field0]
            have hv := sdV_n (ag := sdG W) (O := sdO W c) (Y := sdY W c) (m := i) (k := nmen W - (i + 1)) (n := nmen W) (by omega) (fun h => hY (sdY_t.mp h)) (sdL L)
            rw [show nmen W - (i + 1) + 1 = nmen W - i by omega] at hv
            rw [hv]
    · obtain ⟨a, b, d⟩ := hv
      show ∃ u', FX12_laysStands_146_b25 _ _ _ _ _ _ _ = some u' ∧ _
      unfold FX12_laysStands_146_b25
      rw [if_pos (yle (by omega)), ← Int32.sub_eq_add_neg]
      refine m_lays hT i f v (by omega) (by omega) a ?_
      intro m' h1 h2 L' hL'
      by_cases e : m' = i
      · rw [e]; exact d L' hL'
      · exact b m' (by omega) h2 L' hL'
theorem sdP_cg {Y O : Nat → Bool} {ag : Nat → Nat} {n m : Nat} {s s' : Nat → Bool} (h : ∀ x, x < n → O x = true → s x = s' x) : sdP Y O ag n m s = sdP Y O ag n m s' := by
  unfold sdP
  split
  · refine sdF_cg _ _ (fun o _ ho => ?_)
    unfold sdQ
    rw [sdC_cg h m (show o < n by omega), sdV_cg Y O ag n _ (sdU_cg h o), sdV_cg Y O ag n _ h]
  · rfl
theorem m_stI {W : Wt} {c : Int32} {u : Mem} (hu : u 147 = W) (hT : OkT W) (hB : MTB W c (u 158) 0) {m L : Nat} (hm : m < nmen W) (hL : L < 2 ^ nmen W) : FX12_standIn_146 c (nI m) (nI L) u = some (ovO (sdP (sdY W c) (sdO W c) (sdG W) (nmen W) m (sdL L))) := by
  obtain ⟨hn, hn12⟩ := OkT_n hT
  have p4 := p2_4k hn12
  unfold FX12_standIn_146 sdP
  by_cases hY : W (90 + m) = c ∧ W (40 + m) = 1
  · rw [if_pos (sdY_t.mpr hY)]
    have key : ∀ (k o F : Nat), o + k = nmen W → k < F → FX12_standIn_146_L3 F c (nI m) (nI L) (nI o) u = some (ovO (sdF (sdQ (sdY W c) (sdO W c) (sdG W) (nmen W) m (sdL L)) k o)) := by
      intro k
      induction k with
      | zero =>
        intro o F ho hF
        obtain ⟨f, rfl⟩ : ∃ f, F = f + 1 := ⟨F - 1, by omega⟩
        show FX12_standIn_146_b3 _ _ _ _ _ _ = _
        unfold FX12_standIn_146_b3
        rw [hu, hn, if_pos (by rw [show o = nmen W by omega]; exact yle (by omega))]; rfl
      | succ k ih =>
        intro o F ho hF
        obtain ⟨f, rfl⟩ : ∃ f, F = f + 1 := ⟨F - 1, by omega⟩
        have ih2 := ih (o + 1) f (by omega) (by omega)
        show FX12_standIn_146_b3 _ _ _ _ _ _ = _
        unfold FX12_standIn_146_b3 FX12_standIn_146_b93 sdF
        rw [hu, hn, if_neg (nle (show o < nmen W by omega) (by omega)), m_isOf hu (by omega), b_some, if_pos hY, if_neg z1, nI_1]
        by_cases h1 : L.testBit o = true
        · rw [if_pos (by rw [bit_1 _ (by omega), tb_nI _ (by omega)]; exact h1), m_canSt hu hT (by omega) (by omega), b_some]
          by_cases h2 : sdO W c o = true ∧ sdG W m < sdG W o
          · have w1 : sdW (sdG W) m o ≤ 10000 := Nat.sub_le _ _
            have v1 := sdV_le (sdY W c) (sdO W c) (sdG W) (nmen W) (nmen W - (m + 1)) (sdU (sdL L) o)
            have v2 := sdV_le (sdY W c) (sdO W c) (sdG W) (nmen W) (nmen W - m) (sdL L)
            have hL2 : L ^^^ 2 ^ o < 2 ^ nmen W := Nat.xor_lt_two_pow hL (Nat.pow_lt_pow_right (by omega) (by omega))
            have ht := hB (m + 1) (Nat.zero_le _) (by omega) (L ^^^ 2 ^ o) hL2
            rw [sdL_u h1] at ht
            have ht2 := hB m (Nat.zero_le _) (by omega) L hL
            rw [if_pos h2, if_neg z1, m_stW hu hT (by omega) (by omega) h2.2, b_some, nI_1, nI_clr (by omega) h1, ix4, rb (by omega) (by omega), ht, ix4, rb (by omega) (by omega), ht2, nI_add]
            by_cases h3 : sdW (sdG W) m o + sdV (sdY W c) (sdO W c) (sdG W) (nmen W) (nmen W - (m + 1)) (sdU (sdL L) o) = sdV (sdY W c) (sdO W c) (sdG W) (nmen W) (nmen W - m) (sdL L)
            · rw [if_pos (by rw [h3]), if_pos]
              · rfl
              · unfold sdQ sdC
                rw [decide_eq_true h3, h2.1, decide_eq_true h2.2]
                unfold sdL
                rw [h1]; rfl
            · rw [if_neg (by rw [nn_eq (by omega) (by omega)]; exact h3), ih2, if_neg]
              unfold sdQ
              rw [decide_eq_false h3, Bool.and_false]
              exact fun h => by cases h
          · rw [if_neg h2, if_pos rfl, ih2, if_neg]
            unfold sdQ sdC
            intro h
            rw [Bool.and_eq_true, Bool.and_eq_true, Bool.and_eq_true, decide_eq_true_eq] at h
            exact h2 ⟨h.1.1, h.1.2.2⟩
        · rw [if_neg (by rw [bit_1 _ (by omega), tb_nI _ (by omega)]; exact h1), ih2, if_neg]
          unfold sdQ sdC sdL
          rw [eq_false_of_ne_true h1]
          intro h
          rw [Bool.and_eq_true, Bool.and_eq_true, Bool.and_eq_true] at h
          cases h.1.2.1
    have h0 := key (nmen W) 0 FU (by omega) (by show _ < 10000; omega)
    rw [nI_0] at h0; exact h0
  · rw [if_neg (fun h => hY (sdY_t.mp h))]
    show FX12_standIn_146_b3 _ _ _ _ _ _ = _
    unfold FX12_standIn_146_b3
    rw [m_isOf hu (by omega), b_some, if_neg hY, if_pos rfl, ite_self]; rfl
theorem m_stL {W : Wt} {c : Int32} {u : Mem} (hu : u 147 = W) (hT : OkT W) (hB : MTB W c (u 158) 0) {M : Nat} (hM : M < nmen W) {p : Int32} (hp : p - 10 = nI M) : ∀ (k m F L : Nat) (l6 : Int32), m + k = M + 1 → k < F → L < 2 ^ nmen W → (∀ x, x < nmen W → sdO W c x = true → sdL L x = sdS (sdY W c) (sdO W c) (sdG W) (nmen W) m x) → FX12_stands_146_L106 F c p (nI L) l6 (nI m) u = some (if k = 0 then l6 else ovO (sdP (sdY W c) (sdO W c) (sdG W) (nmen W) M (sdS (sdY W c) (sdO W c) (sdG W) (nmen W) M)), u)
  | 0, m, F, L, l6, hm, hF, hL, hs => by
    obtain ⟨f, rfl⟩ : ∃ f, F = f + 1 := ⟨F - 1, by omega⟩
    have hn12 := (OkT_n hT).2
    show FX12_stands_146_b106 _ _ _ _ _ _ _ = _
    unfold FX12_stands_146_b106
    rw [hp, if_pos (by rw [nn_lt (by omega) (by omega)]; omega), if_pos rfl]
  | k + 1, m, F, L, l6, hm, hF, hL, hs => by
    obtain ⟨f, rfl⟩ : ∃ f, F = f + 1 := ⟨F - 1, by omega⟩
    have hn12 := (OkT_n hT).2
    show FX12_stands_146_b106 _ _ _ _ _ _ _ = _
    unfold FX12_stands_146_b106 FX12_stands_146_b142
    rw [hp, if_neg (by rw [nn_lt (by omega) (by omega)]; omega), m_stI hu hT hB (by omega) hL, b_some, sdP_cg hs, if_neg (Nat.succ_ne_zero k), nI_1]
    have fin : ∀ x, x = ovO (sdP (sdY W c) (sdO W c) (sdG W) (nmen W) m (sdS (sdY W c) (sdO W c) (sdG W) (nmen W) m)) → (if k = 0 then x else ovO (sdP (sdY W c) (sdO W c) (sdG W) (nmen W) M (sdS (sdY W c) (sdO W c) (sdG W) (nmen W) M))) = ovO (sdP (sdY W c) (sdO W c) (sdG W) (nmen W) M (sdS (sdY W c) (sdO W c) (sdG W) (nmen W) M)) := by
      rintro x rfl
      by_cases hk : k = 0
      · rw [if_pos hk, show m = M by omega]
      · rw [if_neg hk]
    have hS1 : sdS (sdY W c) (sdO W c) (sdG W) (nmen W) (m + 1) = sdX (sdS (sdY W c) (sdO W c) (sdG W) (nmen W) m) (sdP (sdY W c) (sdO W c) (sdG W) (nmen W) m (sdS (sdY W c) (sdO W c) (sdG W) (nmen W) m)) := rfl
    cases hpk : sdP (sdY W c) (sdO W c) (sdG W) (nmen W) m (sdS (sdY W c) (sdO W c) (sdG W) (nmen W) m) with
    | none =>
      rw [hpk] at fin hS1
      rw [if_pos (show ovO none = -1 from rfl)]
      have e : nI L &&& nI L = nI L := tb_ext fun k hk => by rw [tb_and, Bool.and_self]
      rw [e, m_stL hu hT hB hM hp k (m + 1) f L _ (by omega) (by omega) hL (fun x hx ho => by rw [hS1]; exact hs x hx ho), fin _ rfl]
    | some o =>
      rw [hpk] at fin hS1
      have hp1 := hpk
      unfold sdP at hp1
      by_cases hY : sdY W c m = true
      · rw [if_pos hY] at hp1
        obtain ⟨o1, o2⟩ := sdF_some _ _ _ hp1
        unfold sdQ sdC at o2
        rw [Bool.and_eq_true, Bool.and_eq_true, Bool.and_eq_true] at o2
        have hO := o2.1.1
        have ho : o < nmen W := by omega
        have hb : L.testBit o = true := by
          have h1 := o2.1.2.1
          rw [← hs o ho hO] at h1
          unfold sdL at h1
          rw [Bool.not_not] at h1
          exact h1
        rw [if_neg (show ¬ ovO (some o) = -1 from nI_m1 (by omega))]
        show FX12_stands_146_L106 f c p (nI L &&& (((1 : Int32) <<< (nI o &&& 31)) ^^^ (-1))) (ovO (some o)) (nI (m + 1)) u = _
        rw [nI_clr (by omega) hb, m_stL hu hT hB hM hp k (m + 1) f (L ^^^ 2 ^ o) _ (by omega) (by omega) (Nat.xor_lt_two_pow hL (Nat.pow_lt_pow_right (by omega) ho)) (fun x hx hx2 => by rw [hS1, sdL_u hb]; exact sdU_cg hs o x hx hx2), fin _ rfl]
      · rw [if_neg hY] at hp1; cases hp1
theorem SP_x {v v' w : Mem} (e : ∀ c, c < 146 → ¬ (105 ≤ c ∧ c ≤ 114) → v' c = v c) (h : SP v w) : SP v' w := by
  obtain ⟨a, b, c, d, f, g⟩ := h
  exact ⟨a, XD_cg (fun c hc => e c (by omega) (by omega)) b, by rw [e 104 (by omega) (by omega)]; exact c, UN_cg (fun c hc => e c (by omega) (by omega)) d, IMG_cg (fun c hc => e c (by omega) (by omega)) f, RD_cg (e 34 (by omega) (by omega)) (e 35 (by omega) (by omega)) g⟩
theorem SP_y {v w w' : Mem} (e : ∀ c, 146 ≤ c → c ≠ 158 → w' c = w c) (h : SP v w) : SP v w' := by
  unfold SP
  rw [e 146 (by omega) (by omega), e 147 (by omega) (by omega), e 148 (by omega) (by omega), e 149 (by omega) (by omega), e 154 (by omega) (by omega)]
  exact h
theorem fr_a {L : List Nat} {lo' hi' : Nat} (h : L.all (fun c => decide (lo' ≤ c ∧ c ≤ hi')) = true) {c : Nat} (hc : ¬ (lo' ≤ c ∧ c ≤ hi')) : L.contains c = false := by
  cases e : L.contains c with
  | false => rfl
  | true =>
    have := List.all_eq_true.mp h c (List.contains_iff_mem.mp e)
    rw [decide_eq_true_eq] at this
    exact absurd this hc
theorem A_stands (p q : Int32) : A2 (FX11_stands_0 p q) (FX12_stands_146 p q) := by
  intro v w h
  have hT := h.1.1
  obtain ⟨hn, hn12⟩ := OkT_n hT
  have p4 := p2_4k hn12
  have key : ∃ r v' w', FX11_stands_0 p q v = some (r, v') ∧ FX12_stands_146 p q w = some (r, w') := by
    unfold FX11_stands_0 FX12_stands_146
    rw [c_co, m_co, b_some, b_some]
    by_cases c0 : p = 0 ∨ p = 1
    · rw [if_pos c0, if_neg z1, if_neg z1]
      have hC := h.2.1.1
      generalize hW : w 147 = W at *
      obtain ⟨v', e1⟩ := c_stands (c := p) hC hT q
      rw [e1, b2_some, m_in, b_some, m_in, b_some, hn]
      obtain ⟨w', g1, g2, g3⟩ := m_lays (c := p) hT (nmen W + 1) FU w (Nat.le_refl _) (by show _ < 10000; omega) hW (fun m h1 h2 => by omega)
      have g1' : FX12_laysStands_146 p w = some w' := by
        unfold FX12_laysStands_146
        rw [hW, hn, one_shl (by omega), show nI (nmen W) = nI (nmen W + 1) - 1 by rw [show nI (nmen W + 1) - 1 = nI (nmen W + 1 - 1) from sub_li (k := 1) (by show 1 ≤ nmen W + 1; omega), Nat.add_sub_cancel]]
        exact g1
      have pw := Nat.two_pow_pos (nmen W)
      have eL : ((1 : Int32) <<< ((w' 147 78) &&& 31)) - 1 = nI (2 ^ nmen W - 1) := by
        rw [g2, hn, one_shl (by omega), show nI (2 ^ nmen W) - 1 = nI (2 ^ nmen W - 1) from sub_li (k := 1) (by show 1 ≤ 2 ^ nmen W; omega)]
      have aL : ∀ x, x < nmen W → sdL (2 ^ nmen W - 1) x = false := fun x hx => by
        unfold sdL
        rw [Nat.testBit_two_pow_sub_one, decide_eq_true hx]; rfl
      have eV : w' 158 (2 ^ nmen W - 1) = nI (sdV (sdY W p) (sdO W p) (sdG W) (nmen W) (nmen W) (fun _ => false)) := by
        have h1 := g3 0 (Nat.le_refl _) (Nat.zero_le _) (2 ^ nmen W - 1) (by omega)
        rw [Nat.mul_zero, Nat.zero_add, Nat.sub_zero] at h1
        rw [h1, sdV_cg (sdY W p) (sdO W p) (sdG W) (nmen W) (nmen W) (s := sdL (2 ^ nmen W - 1)) (s' := fun _ => false) (fun x hx _ => aL x hx)]
      have hag : ∀ x, x < nmen W → sdG W x ≤ 120 := fun x hx => (sdG_n hT (by omega)).2
      have sum := sd_sum (Y := sdY W p) (O := sdO W p) hag (nmen W) (Nat.le_refl _)
      rw [Nat.sub_self] at sum
      have sum0 : sdV (sdY W p) (sdO W p) (sdG W) (nmen W) 0 (sdS (sdY W p) (sdO W p) (sdG W) (nmen W) (nmen W)) = 0 := rfl
      rw [sum0] at sum
      obtain ⟨s1, s2, s3⟩ := sd_b (Y := sdY W p) (O := sdO W p) hag (nmen W) (Nat.le_refl _)
      have ct : FX12_stands_146_b37 p q w = (if 2 ≤ q then (FX12_stands_146_L106 FU p q (nI (2 ^ nmen W - 1)) (-1) 0 w') else (if q = 0 then some (nI (sdA (sdY W p) (sdO W p) (sdG W) (nmen W) (nmen W)).1, w') else some (nI (sdA (sdY W p) (sdO W p) (sdG W) (nmen W) (nmen W)).2, w'))) := by
        unfold FX12_stands_146_b37
        rw [g1', b_some, eL, rb (by omega) (by omega), eV]
        generalize sdV (sdY W p) (sdO W p) (sdG W) (nmen W) (nmen W) (fun _ => false) = V at sum
        generalize sdA (sdY W p) (sdO W p) (sdG W) (nmen W) (nmen W) = A at sum s1 s2 s3
        rw [add_li, show nI (V + (OfNat.ofNat 10000 : Nat)) - 1 = nI (V + (OfNat.ofNat 10000 : Nat) - 1) from sub_li (k := 1) (by show 1 ≤ V + 10000; omega), show (10000 : Int32) = nI 10000 by decide, dv_n (by show V + 10000 - 1 < _; omega) (by decide) (by decide)]
        have e1 : (V + (OfNat.ofNat 10000 : Nat) - 1) / 10000 = A.1 := by
          show (V + 10000 - 1) / 10000 = A.1
          omega
        have e2 : nI A.1 * nI 10000 - nI V = nI A.2 := by
          rw [nI_mul, nI_sub (by omega)]
          congr 1; omega
        rw [e1, e2]
      by_cases q0 : 0 ≤ q ∧ q ≤ 1
      · rw [if_pos q0, if_neg z1, ct, if_neg (by rw [Int32.not_le]; exact Int32.lt_of_le_of_lt q0.2 (by decide))]
        have q01 : q = 0 ∨ q = 1 := by
          rw [show (1 : Int32) = nI 1 by decide, in_n (by decide)] at q0
          obtain ⟨j, hj, rfl⟩ := q0
          rcases (by omega : j = 0 ∨ j = 1) with rfl | rfl
          · exact Or.inl nI_0
          · exact Or.inr rfl
        unfold gfR
        rcases q01 with rfl | rfl
        · rw [if_pos rfl, if_pos rfl]; exact ⟨_, _, _, rfl, rfl⟩
        · rw [if_neg z1, if_neg z1, if_pos rfl]; exact ⟨_, _, _, rfl, rfl⟩
      · rw [if_neg q0, if_pos rfl]
        have q0' : ¬ q = 0 := fun e => q0 (by rw [e]; decide)
        have q1' : ¬ q = 1 := fun e => q0 (by rw [e]; decide)
        unfold gfR
        rw [if_neg q0', if_neg q1']
        have eM : ∀ M, M < nmen W → (q - 10 = nI M ↔ q = nI (10 + M)) := fun M hM => by
          constructor
          · intro e
            have h1 : q = (q - 10) + 10 := (Int32.sub_add_cancel q 10).symm
            rw [e, add_li] at h1
            rw [h1]; congr 1; show M + 10 = 10 + M; omega
          · rintro rfl
            rw [sub_li (k := 10) (by show 10 ≤ 10 + M; omega)]; congr 1; show 10 + M - 10 = M; omega
        by_cases qM : 10 ≤ q ∧ q ≤ 9 + nI (nmen W)
        · have h9 : (9 : Int32) + nI (nmen W) = nI (9 + nmen W) := li_add 9 (nmen W)
          rw [h9] at qM
          have h10 : 0 ≤ q ∧ q ≤ nI (9 + nmen W) := ⟨Int32.le_trans (by decide) qM.1, qM.2⟩
          rw [in_n (by omega)] at h10
          obtain ⟨j, hj, rfl⟩ := h10
          have hj10 : 10 ≤ j := by
            have := qM.1
            rw [li_le (by decide) (by omega)] at this; exact this
          have hM : j - 10 < nmen W := by omega
          have hp : nI j - 10 = nI (j - 10) := sub_li (k := 10) (by show 10 ≤ j; omega)
          rw [if_pos (show ∃ M, M < nmen W ∧ nI j - 10 = nI M from ⟨j - 10, hM, hp⟩), h9, if_pos qM, if_neg z1, ct, if_pos (by rw [li_le (by decide) (by omega)]; show 2 ≤ j; omega)]
          have hl := m_stL g2 hT g3 hM hp (j - 10 + 1) 0 FU (2 ^ nmen W - 1) (-1) (by omega) (by show _ < 10000; omega) (by omega) (fun x hx _ => aL x hx)
          rw [nI_0, if_neg (Nat.succ_ne_zero _)] at hl
          rw [hl, hp, nt_nI (by omega)]
          exact ⟨_, _, _, rfl, rfl⟩
        · rw [if_neg qM, if_pos rfl, if_neg]
          · exact ⟨_, _, _, rfl, rfl⟩
          · rintro ⟨M, hM, e⟩
            rw [eM M hM] at e
            apply qM
            rw [e, show (9 : Int32) + nI (nmen W) = nI (9 + nmen W) from li_add 9 (nmen W), li_le (by decide) (by omega), nn_le (by omega) (by omega)]
            exact ⟨by show 10 ≤ 10 + M; omega, by omega⟩
    · rw [if_neg c0, if_pos rfl, if_pos rfl]
      exact ⟨_, _, _, rfl, rfl⟩
  obtain ⟨r, v', w', e1, e2⟩ := key
  have f1 := frX11_stands_0 _ _ _ e1
  have f2 := frX12_stands_146 _ _ _ e2
  exact ⟨r, v', w', e1, e2, SP_x (fun c _ hc => f1 c (fr_a (lo' := 105) (hi' := 114) (by decide) hc)) (SP_y (fun c _ hc => f2 c (fr_a (lo' := 158) (hi' := 158) (by decide) (by omega))) h)⟩
