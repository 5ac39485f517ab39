/-! knees: the model, and both -/
theorem pc_sm (x : Int32) : pc x = smN 16 (fun k => if tb x k = true then 1 else 0) := rfl
def kQ (W : Wt) (L i : Nat) : Nat := if L.testBit i = true then pc (sTold W (nI i) &&& (nI L ^^^ (-1))) else 0
theorem kQ_t {W : Wt} (hT : OkT W) {L i : Nat} (hL : L < 2 ^ nmen W) (hi : i < nmen W) : kQ W L i = smN 12 (fun j => if kxS L.testBit i j = true then kT W i j else 0) := by
  have hn12 := (OkT_n hT).2
  unfold kQ kxS
  cases c : L.testBit i with
  | false =>
    rw [if_neg (by decide), smN_0 12 (fun j hj => by rw [if_neg]; exact fun h => by cases h)]
  | true =>
    rw [if_pos rfl, pc_sm]
    have key : ∀ k, k < 16 → tb (sTold W (nI i) &&& (nI L ^^^ (-1))) k = (tb (sTold W (nI i)) k && !(L.testBit k)) := fun k hk => by
      rw [tb_and, tb_xor, tb_m1 (by omega), tb_nI _ (by omega), Bool.xor_true]
    have e16 := smN_z (f := fun k => if tb (sTold W (nI i) &&& (nI L ^^^ (-1))) k = true then 1 else 0) (n := 12) 4 (fun k h1 h2 => by
      rw [if_neg]
      rw [key k (by omega), Bool.and_eq_true]
      intro h
      have := (told_in hT (nI i) (show k < 32 by omega) h.1).1
      omega)
    rw [show 12 + 4 = 16 by decide] at e16
    rw [e16]
    refine smN_cg (fun j hj => ?_)
    rw [key j (by omega), Bool.true_and]
    unfold kT
    cases tb (sTold W (nI i)) j <;> cases L.testBit j <;> rfl
theorem kQ_X {W : Wt} (hT : OkT W) {L : Nat} (hL : L < 2 ^ nmen W) : smN (nmen W) (kQ W L) = kX (kT W) L.testBit := by
  have hn12 := (OkT_n hT).2
  unfold kX
  have h1 := smN_z (f := fun i => smN 12 (fun j => if kxS L.testBit i j = true then kT W i j else 0)) (n := nmen W) (12 - nmen W) (fun i h1 h2 => smN_0 12 (fun j hj => by rw [kT_z hT (by omega) hj (Or.inl h1), ite_self]))
  rw [show nmen W + (12 - nmen W) = 12 by omega] at h1
  rw [h1]
  exact smN_cg (fun i hi => kQ_t hT hL hi)
theorem m_cut {u : Mem} {W : Wt} (hu : u 147 = W) (hT : OkT W) {L : Nat} (hL : L < 2 ^ nmen W) (k51 : Int32 → Int32 → Int32 → Int32 → Mem → Option Int32) (l2 l3 : Int32) {le : Nat} (hle : le ≤ 1000000) : FX12_knees_146_L92 k51 FU l2 l3 (nI le) (nI L) 0 0 u = k51 l2 l3 (nI (min le (kX (kT W) L.testBit))) (nI (L + 1)) u := by
  obtain ⟨hn, hn12⟩ := OkT_n hT
  have p4 := p2_4k hn12
  have bnd : ∀ i, i ≤ 12 → smN i (kQ W L) ≤ 16 * i := by
    intro i
    induction i with
    | zero => intro _; exact Nat.le_refl _
    | succ i ih =>
      intro h
      have h1 := ih (by omega)
      have h2 : kQ W L i ≤ 16 := by unfold kQ; split; exact pc_le _; omega
      rw [smN_s]; omega
  have hh := lp_v (fun F i s => FX12_knees_146_L92 k51 F l2 l3 (nI le) (nI L) s i u) (nmen W) (fun i => nI (smN i (kQ W L))) (k51 l2 l3 (nI (min le (kX (kT W) L.testBit))) (nI (L + 1)) u) (fun i F hi => ?_) (fun F => ?_) FU (by show _ < 10000; omega)
  · rw [nI_0] at hh
    exact hh
  · show FX12_knees_146_b92 _ _ _ _ _ _ _ _ _ = _
    unfold FX12_knees_146_b92 FX12_knees_146_b135
    rw [hu, hn, if_neg (nle hi (by omega)), smN_s]
    unfold kQ
    by_cases c : L.testBit i = true
    · rw [if_pos (by rw [bit_1 _ (by omega), tb_nI _ (by omega)]; exact c), m_told hu hT, b_some, m_count, b_some, if_pos c, nI_1, nI_add]
    · rw [if_neg (by rw [bit_1 _ (by omega), tb_nI _ (by omega)]; exact c), if_neg c, nI_1, Int32.add_zero]
      rfl
  · show FX12_knees_146_b92 _ _ _ _ _ _ _ _ _ = _
    unfold FX12_knees_146_b92 FX12_knees_146_b153
    have := bnd (nmen W) hn12
    rw [hu, hn, if_pos (yle (by omega)), lesser_n (by omega) (by omega), b_some, nI_1, kQ_X hT hL]
theorem m_sub {a : Int32} {L : Nat} : (nI L &&& a = a) ↔ ∀ k, k < 32 → tb a k = true → L.testBit k = true := by
  constructor
  · intro e k hk h
    rw [← e, tb_and, tb_nI _ hk, Bool.and_eq_true] at h
    exact h.1
  · intro h
    refine tb_ext fun k hk => ?_
    rw [tb_and, tb_nI _ hk]
    cases e : tb a k with
    | false => rw [Bool.and_false]
    | true => rw [h k hk e]; rfl
theorem m_kn {u : Mem} {W : Wt} (hu : u 147 = W) (hT : OkT W) {f man : Nat} (hman : man < nmen W) : ∃ L, FX12_knees_146_L51 FU (nI man) (sKnw W f) 1000000 0 u = some (nI L) ∧ (∀ s, s < 2 ^ nmen W → kV W f man s.testBit → L ≤ kX (kT W) s.testBit) ∧ (L = 1000000 ∨ ∃ s, s < 2 ^ nmen W ∧ kV W f man s.testBit ∧ L = kX (kT W) s.testBit) := by
  obtain ⟨hn, hn12⟩ := OkT_n hT
  have p4 := p2_4k hn12
  have hh := lp_r (S := Int32) (fun F i s => FX12_knees_146_L51 F (nI man) (sKnw W f) s i u) (2 ^ nmen W) (fun i s => ∃ L, L ≤ 1000000 ∧ s = nI L ∧ (∀ s, s < i → kV W f man s.testBit → L ≤ kX (kT W) s.testBit) ∧ (L = 1000000 ∨ ∃ s, s < 2 ^ nmen W ∧ kV W f man s.testBit ∧ L = kX (kT W) s.testBit)) (fun o => ∃ L, o = some (nI L) ∧ (∀ s, s < 2 ^ nmen W → kV W f man s.testBit → L ≤ kX (kT W) s.testBit) ∧ (L = 1000000 ∨ ∃ s, s < 2 ^ nmen W ∧ kV W f man s.testBit ∧ L = kX (kT W) s.testBit)) (fun i s hi h => ?_) (fun s h F => ?_) FU 0 1000000 (Nat.zero_le _) (by show _ < 10000; omega) ⟨1000000, Nat.le_refl _, rfl, fun s h => by omega, Or.inl rfl⟩
  · rw [nI_0] at hh; exact hh
  · obtain ⟨L, h1, rfl, h2, h3⟩ := h
    refine Or.inl ?_
    have kv : kV W f man i.testBit ↔ (nI i &&& sKnw W f = sKnw W f ∧ i.testBit man = false) := by
      unfold kV
      constructor
      · rintro ⟨a, b⟩
        exact ⟨m_sub.mpr (fun k hk h => a k (by have := (knw_in hT f hk h).1; omega) h), b⟩
      · rintro ⟨a, b⟩
        exact ⟨fun t ht h => m_sub.mp a t (by omega) h, b⟩
    have start : ∀ F, FX12_knees_146_L51 (F + 1) (nI man) (sKnw W f) (nI L) (nI i) u = (if (nI i &&& sKnw W f) = sKnw W f then (if i.testBit man = true then FX12_knees_146_L51 F (nI man) (sKnw W f) (nI L) (nI (i + 1)) u else FX12_knees_146_L51 F (nI man) (sKnw W f) (nI (min L (kX (kT W) i.testBit))) (nI (i + 1)) u) else FX12_knees_146_L51 F (nI man) (sKnw W f) (nI L) (nI (i + 1)) u) := by
      intro F
      show FX12_knees_146_b51 _ _ _ _ _ _ = _
      unfold FX12_knees_146_b51 FX12_knees_146_b153
      rw [hu, hn, one_shl (by omega), if_neg (nle hi (by omega)), nI_1, m_cut hu hT hi _ _ _ h1]
      by_cases c : i.testBit man = true
      · rw [if_pos c, if_pos (show ((nI i >>> (nI man &&& 31)) &&& 1) = 1 by rw [bit_1 _ (by omega), tb_nI _ (by omega)]; exact c)]
      · rw [if_neg c, if_neg (show ¬ ((nI i >>> (nI man &&& 31)) &&& 1) = 1 by rw [bit_1 _ (by omega), tb_nI _ (by omega)]; exact c)]
    by_cases c1 : (nI i &&& sKnw W f) = sKnw W f ∧ i.testBit man = false
    · refine ⟨nI (min L (kX (kT W) i.testBit)), ⟨_, by omega, rfl, fun s hs hv => ?_, ?_⟩, fun F => ?_⟩
      · by_cases e : s = i
        · rw [e]; exact Nat.min_le_right _ _
        · exact Nat.le_trans (Nat.min_le_left _ _) (h2 s (by omega) hv)
      · rcases Nat.le_total L (kX (kT W) i.testBit) with h | h
        · rw [Nat.min_eq_left h]; exact h3
        · rw [Nat.min_eq_right h]; exact Or.inr ⟨i, hi, kv.mpr c1, rfl⟩
      · rw [start, if_pos c1.1, if_neg (by rw [c1.2]; decide)]
    · refine ⟨nI L, ⟨L, h1, rfl, fun s hs hv => ?_, h3⟩, fun F => ?_⟩
      · by_cases e : s = i
        · rw [e] at hv; exact absurd (kv.mp hv) c1
        · exact h2 s (by omega) hv
      · rw [start]
        by_cases c2 : (nI i &&& sKnw W f) = sKnw W f
        · rw [if_pos c2, if_pos]
          cases e : i.testBit man with
          | true => rfl
          | false => exact absurd ⟨c2, e⟩ c1
        · rw [if_neg c2]
  · obtain ⟨L, h1, rfl, h2, h3⟩ := h
    refine ⟨L, ?_, h2, h3⟩
    show FX12_knees_146_b51 _ _ _ _ _ _ = _
    unfold FX12_knees_146_b51
    rw [hu, hn, one_shl (by omega), if_pos (yle (by omega))]
theorem A_knees (p q : Int32) : ∀ v w, SP v w → ∃ r v', FX11_knees_0 p q v = some (r, v') ∧ FX12_knees_146 p q w = some r ∧ SP v' w := by
  intro v w h
  have hT := h.1.1
  obtain ⟨hn, hn12⟩ := OkT_n hT
  have key : ∃ r v', FX11_knees_0 p q v = some (r, v') ∧ FX12_knees_146 p q w = some r := by
    have hC := h.2.1.1
    have hD := h.1.2.1
    generalize hW : w 147 = W at *
    unfold FX11_knees_0 FX12_knees_146 FX11_knees_0_b35
    rw [c_fa, m_in, b_some, b_some]
    by_cases c : 0 ≤ p ∧ p ≤ 7
    · rw [if_pos c, if_neg z1, if_neg z1]
      rw [in7] at c
      obtain ⟨f, hf, rfl⟩ := c
      by_cases c2 : ∃ m, m < nmen W ∧ q = nI m
      · obtain ⟨m, hm, rfl⟩ := c2
        have ek : FX0_knows_23 (nI m) (nI f) v = some (if tb (W (16 + m)) f = true then 1 else 0) := by
          unfold FX0_knows_23
          rw [if_neg (nI_pos (by omega)), if_neg (n12 (by omega)), rb (by omega) (by omega), gkn_23 hC (by omega), holds_b _ (by omega), b_some]
          by_cases c3 : tb (W (16 + m)) f = true
          · rw [if_pos c3, if_neg z1]
          · rw [if_neg c3, if_pos rfl]
        rw [c_has (gmen hC) hT hm, m_isMan hW hT hm, b_some, b_some, if_neg z1, if_neg z1, ek, b_some, rl (by show 16 + m < _; omega) (by omega)]
        show ∃ r v', _ ∧ (if ((w 147 (16 + m) >>> (nI f &&& 31)) &&& 1) = 1 then _ else _) = _
        rw [hW]
        by_cases c3 : tb (W (16 + m)) f = true
        · rw [if_pos c3, if_neg z1, if_pos rfl, if_pos (by rw [bit_1 _ (by omega)]; exact c3)]
          exact ⟨_, _, rfl, rfl⟩
        · rw [if_neg c3, if_pos rfl, if_neg (by rw [bit_1 _ (by omega)]; exact c3), m_knw hW hT (by omega), b_some]
          have hk : tb (sKnw W f) m = false := by
            cases e : tb (sKnw W f) m with
            | false => rfl
            | true => exact absurd (knw_in hT f (by omega) e).2 c3
          obtain ⟨v1, e1, h1⟩ := c_room (man := m) (f := f) hC hT
          obtain ⟨k, v2, e2, k11, kle, S, s1, s2, s3⟩ := c_few hC hT (show f < 8 by omega) hm hk h1
          obtain ⟨L, e3, l1, l2⟩ := m_kn (f := f) hW hT hm
          rw [e1, e2, b2_some, e3]
          refine ⟨_, _, rfl, ?_⟩
          obtain ⟨N, n1, n2⟩ := nat_of S (nmen W)
          have eS : N.testBit = S := by
            funext t
            rcases Nat.lt_or_ge t (nmen W) with ht | ht
            · exact n2 t ht
            · rw [Nat.testBit_lt_two_pow (Nat.lt_of_lt_of_le n1 (Nat.pow_le_pow_right (by omega) ht))]
              cases e : S t with
              | false => rfl
              | true => have := s2 t e; omega
          have a1 := l1 N n1 (by rw [eS]; exact s1)
          rw [eS, s3] at a1
          have a2 : k ≤ L := by
            rcases l2 with e | ⟨s, _, hv, e⟩
            · omega
            · rw [e]; exact kle _ hv
          rw [show L = k by omega]
      · rw [c_hasN (gmen hC) hT c2, m_isManN hW hT c2, b_some, b_some, if_pos rfl, if_pos rfl, if_pos rfl]
        exact ⟨_, _, rfl, rfl⟩
    · rw [if_neg c, if_pos rfl, if_pos rfl, if_pos rfl]
      exact ⟨_, _, rfl, rfl⟩
  obtain ⟨r, v', e1, e2⟩ := key
  have f1 := frX11_knees_0 _ _ _ e1
  exact ⟨r, v', e1, e2, SP_x (fun c _ hc => f1 c (fr_a (lo' := 105) (hi' := 114) (by decide) hc)) h⟩
