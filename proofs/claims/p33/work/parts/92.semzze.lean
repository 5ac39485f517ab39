/-! THE LAW, line by line, both sides at once -/
def seg (o : pxT) (p n : Nat) : pxT := (o.drop p).take n
theorem seg_opsW {T : Wt} {o : pxT} (h : opsW T 0 o.length = o) : ∀ (n p : Nat), p + n ≤ o.length → opsW T p n = seg o p n := by
  have nth : ∀ (k p : Nat), ∀ j, j < k → (opsW T p k)[j]? = some (nt (T (966 + 2 * (p + j))), nt (T (966 + 2 * (p + j) + 1))) := by
    intro k
    induction k with
    | zero => intro p j h; omega
    | succ k ih =>
      intro p j hj
      cases j with
      | zero => rfl
      | succ j =>
        show (opsW T (p + 1) k)[j]? = _
        rw [ih (p + 1) j (by omega), show p + 1 + j = p + (j + 1) by omega]
  intro n p hp
  refine List.ext_getElem? (fun j => ?_)
  unfold seg
  rw [List.getElem?_take]
  by_cases c : j < n
  · rw [if_pos c, nth n p j c, List.getElem?_drop]
    have := nth o.length 0 (p + j) (by omega)
    rw [h] at this
    rw [this, Nat.zero_add]
  · rw [if_neg c, List.getElem?_eq_none]
    rw [opsW_len]; omega
theorem seg_app (o t : pxT) {p n : Nat} (h : p + n ≤ o.length) : seg (o ++ t) p n = seg o p n := by
  unfold seg
  rw [List.drop_append_of_le_length (by omega), List.take_append_of_le_length (by rw [List.length_drop]; omega)]
def lnO (o : pxT) (l : Nat) (u w : Mem) : Prop := ∃ k p n1 n2, k < 4 ∧ p + n1 + n2 ≤ o.length ∧ w 151 (4 * l) = nI p ∧ w 151 (4 * l + 1) = nI (p + n1) ∧ w 151 (4 * l + 2) = nI (p + n1 + n2) ∧ w 151 (4 * l + 3) = nI (20 + k) ∧ wfO (seg o p n1) 0 1 ∧ (n2 = 0 ∨ wfO (seg o (p + n1) n2) 0 1) ∧ u 41 l = nI k ∧ u 42 l = nI (encL (o.take p)) ∧ u 43 l = nI (encL (o.take (p + n1))) ∧ u 44 l = nI (encL (o.take (p + n1 + n2)))
theorem lnO_x {o : pxT} {l : Nat} {u w u' w' : Mem} (t : pxT) (h : lnO o l u w) (hu : ∀ c, 41 ≤ c → c ≤ 44 → u' c l = u c l) (hw : ∀ x, 4 * l ≤ x → x ≤ 4 * l + 3 → w' 151 x = w 151 x) : lnO (o ++ t) l u' w' := by
  obtain ⟨k, p, n1, n2, a1, a2, a3, a4, a5, a6, a7, a8, a9, a10, a11, a12⟩ := h
  refine ⟨k, p, n1, n2, a1, by rw [List.length_append]; omega, by rw [hw _ (by omega) (by omega)]; exact a3, by rw [hw _ (by omega) (by omega)]; exact a4, by rw [hw _ (by omega) (by omega)]; exact a5, by rw [hw _ (by omega) (by omega)]; exact a6, by rw [seg_app _ _ (by omega)]; exact a7, ?_, by rw [hu 41 (by decide) (by decide)]; exact a9, ?_, ?_, ?_⟩
  · rcases a8 with h | h
    · exact Or.inl h
    · rw [seg_app _ _ (by omega)]; exact Or.inr h
  · rw [hu 42 (by decide) (by decide), List.take_append_of_le_length (by omega)]; exact a10
  · rw [hu 43 (by decide) (by decide), List.take_append_of_le_length (by omega)]; exact a11
  · rw [hu 44 (by decide) (by decide), List.take_append_of_le_length (by omega)]; exact a12
theorem pxLine_w {K V : Nat → Nat} (hV : pxV K V) {L i j : Nat} {o o1 o2 : pxT} (h : pxLine K V L i o = .inr (j, o1, o2)) : L ≠ 16 ∧ K i - 256 < 4 ∧ ∃ t1 t2, o1 = o ++ t1 ∧ o2 = o1 ++ t2 ∧ wfO t1 0 1 ∧ (t2 = [] ∨ wfO t2 0 1) := by
  unfold pxLine at h
  by_cases c : 256 ≤ K i ∧ K i ≤ 259
  · rw [if_pos c] at h
    by_cases cL : L = 16
    · rw [if_pos cL] at h; cases h
    · rw [if_neg cL] at h
      refine ⟨cL, by omega, ?_⟩
      have hw := wSum hV (i + 1) o
      match hs : pxSum K V (i + 1) o, hw with
      | .inl e, _ => rw [hs] at h; cases h
      | .inr (j1, q1), ⟨t1, e1, w1⟩ =>
        rw [hs] at h
        have e1 : q1 = o ++ t1 := e1
        have h : pxWhen K V j1 q1 = .inr (j, o1, o2) := h
        unfold pxWhen at h
        have en : ∀ m o3, pxEnd K m q1 o3 = .inr (j, o1, o2) → o1 = q1 ∧ o2 = o3 := by
          intro m o3 h
          unfold pxEnd at h
          by_cases c5 : K m = 59
          · rw [if_pos c5] at h; cases h; exact ⟨rfl, rfl⟩
          · rw [if_neg c5] at h; cases h
        by_cases c2 : K j1 = 260
        · rw [if_pos c2] at h
          have hw2 := wAny (K := K) (D := 0) (by decide) (fun i o => wOne hV 8 i o (by decide)) (j1 + 1) q1
          match hs2 : pxAny K (fun i o => pxOne K V 8 i o) (j1 + 1) q1, hw2 with
          | .inl e, _ => rw [hs2] at h; cases h
          | .inr (j2, q2), ⟨t2, e2, w2⟩ =>
            rw [hs2] at h
            obtain ⟨h1, h2⟩ := en j2 q2 h
            have e2 : q2 = q1 ++ t2 := e2
            exact ⟨t1, t2, by rw [h1, e1], by rw [h2, h1, e2], w1 0 (by decide), Or.inr (w2 0 (by decide))⟩
        · rw [if_neg c2] at h
          obtain ⟨h1, h2⟩ := en j1 q1 h
          exact ⟨t1, [], by rw [h1, e1], by rw [h2, h1, List.append_nil], w1 0 (by decide), Or.inl rfl⟩
  · rw [if_neg c] at h; cases h
def myL2 (u0 u : Mem) : Prop := (∀ c, c ≠ 146 → c ≠ 151 → c ≠ 152 → u c = u0 c) ∧ ∀ j, j < 13 ∨ j = 15 ∨ j = 16 ∨ j = 23 ∨ 24 < j → u 146 j = u0 146 j
theorem myL2_t {u u1 u2 : Mem} (h : myL2 u u1) (h' : myL2 u1 u2) : myL2 u u2 := ⟨fun c a b d => (h'.1 c a b d).trans (h.1 c a b d), fun j a => (h'.2 j a).trans (h.2 j a)⟩
theorem myL2_L {u u' : Mem} (h : myL u u') : myL2 u u' := ⟨h.1, fun j a => h.2 j (by omega)⟩
theorem myL2_13 (u : Mem) (x : Int32) : myL2 u (mupd u 146 13 x) := ⟨fun c a _ _ => m_ne a, fun j a => by rw [m_eq, up_ne (by omega)]⟩
theorem law_L {b : Nat → Nat} {n : Nat} {v0 : Int32} {N : Nat} (hZ : pxZ (kk 0 b n) (vv b n v0) N) (hY : myZ b n v0 N) : ∀ (d i : Nat) (o : pxT) (u w : Mem) (F F2 L t : Nat), N - i ≤ d → d + 2 < F → d + 2 < F2 → txA (kk 0 b n) (vv b n v0) (qs b n) N i u → txC o u → myT 0 b n v0 i w → myC o w → encL o ≤ i → u 34 11 = nI L → u 39 7 = nI L → w 146 13 = nI L → L ≤ 16 → (∀ l, l < L → lnO o l u w) → t ≤ i → ∃ u' x w', FX6_read_34_1_L50 F 0 (nI t) u = FX6_read_34_1_b127 0 u' ∧ FX12_readsLaw_146_L12 F2 1 w = some (x, w') ∧ txL u u' ∧ myL2 w w' ∧ ((x = 0 ∧ ∃ f y, f ≠ 0 ∧ f < 4 ∧ u' 34 13 = nI f ∧ u' 34 14 = nI (qs b n y) ∧ w' 146 21 = nI f ∧ w' 146 22 = nI (qs b n y)) ∨ (x = 1 ∧ ∃ o' L', (u' 34 13 = 0 ∧ u' 34 14 = -1) ∧ L' ≤ 16 ∧ u' 34 11 = nI L' ∧ u' 39 7 = nI L' ∧ w' 146 13 = nI L' ∧ txC o' u' ∧ myC o' w' ∧ encL o' ≤ 400 ∧ ∀ l, l < L' → lnO o' l u' w')) := by
  intro d
  induction d using Nat.strongRecOn with
  | _ d ih =>
  intro i o u w F F2 L t hd hF hF2 hA hC hT hM hle h11 h7 h13 hL hln ht
  obtain ⟨F, rfl⟩ : ∃ f, F = f + 1 := ⟨F - 1, by omega⟩
  obtain ⟨F2, rfl⟩ : ∃ f, F2 = f + 1 := ⟨F2 - 1, by omega⟩
  have hN := hZ.1.1
  have hi := hA.2.1
  have hv := kk_v 0 b n i
  by_cases c0 : kk 0 b n i = 0
  · refine ⟨u, 1, w, ?_, ?_, txL_r u, ⟨fun _ _ _ _ => rfl, fun _ _ => rfl⟩, Or.inr ⟨rfl, o, L, hA.2.2.2.2, hL, h11, h7, h13, hC, hM, by omega, hln⟩⟩
    · show FX6_read_34_1_b50 _ _ _ _ = _
      unfold FX6_read_34_1_b50
      rw [if_pos (show u 34 10 = 0 by rw [hA.2.2.2.1, c0]; exact nI_0), ite_self]
    · show FX12_readsLaw_146_b12 _ _ _ = _
      unfold FX12_readsLaw_146_b12 FX12_readsLaw_146_b49
      rw [if_neg z1, if_pos (show w 146 18 = 0 by rw [hT.2.2.2.1]; exact tY_0 c0), bchk_1, b_some]
  · have hiN := hZ.1.2 i hi c0
    have hkne : ¬ u 34 10 = 0 := by rw [hA.2.2.2.1]; exact nI_ne0 (by omega) (by have := hZ.2.2 i; omega)
    have e1 : FX6_read_34_1_L50 (F + 1) 0 (nI t) u = ((FX6_lawLine_34 u).bind fun u5 => FX6_read_34_1_L50 F 0 (nI (t + 1)) u5) := by
      show FX6_read_34_1_b50 _ _ _ _ = _
      unfold FX6_read_34_1_b50 FX6_read_34_1_b121
      rw [if_neg (show ¬ (400 : Int32) < nI t by rw [li_lt (by decide) (by omega)]; show ¬ 400 < t; omega), if_neg hkne, if_pos rfl, nI_1]
    have e2 : FX12_readsLaw_146_L12 (F2 + 1) 1 w = (bnd2 (FX12_aLine_146 w) fun x3 u4 => (if x3 = 0 then (FX12_readsLaw_146_b42 (FX12_readsLaw_146_L12 F2) x3 (u4 146 13) 0 u4) else (FX12_readsLaw_146_b42 (FX12_readsLaw_146_L12 F2) x3 (u4 146 13) 1 u4))) := by
      show FX12_readsLaw_146_b12 _ _ _ = _
      unfold FX12_readsLaw_146_b12
      rw [if_neg z1, if_neg (show ¬ w 146 18 = 0 by rw [hT.2.2.2.1]; exact tN_0 hv c0)]
    have hc := c_line hZ hL hA hC hle h11 h7
    have hm := m_line hY hL hi hT hM hle h13
    match hr : pxLine (kk 0 b n) (vv b n v0) L i o, hc, hm with
    | .inl q, ⟨u1, g1, g2, g3, g4, g5⟩, ⟨x, w1, k1, k2, k3, k4, k5⟩ =>
      refine ⟨u1, 0, mupd w1 146 13 (w1 146 13 + 0), ?_, ?_, g2, myL2_t (myL2_L k2) (myL2_13 _ _), Or.inl ⟨rfl, q.1, q.2, g4, g5, g3.2.1, g3.2.2, ?_, ?_⟩⟩
      · rw [e1, g1, b_some]
        obtain ⟨f, rfl⟩ : ∃ f, F = f + 1 := ⟨F - 1, by omega⟩
        show FX6_read_34_1_b50 _ _ _ _ = _
        unfold FX6_read_34_1_b50
        rw [if_pos g3.1, ite_self]
      · rw [e2, k1, b2_some, if_pos k3, k3]
        unfold FX12_readsLaw_146_b42
        rw [b_some]
        obtain ⟨f, rfl⟩ : ∃ f, F2 = f + 1 := ⟨F2 - 1, by omega⟩
        show FX12_readsLaw_146_b12 _ _ _ = _
        unfold FX12_readsLaw_146_b12 FX12_readsLaw_146_b49
        rw [if_pos rfl, bchk_0, b_some]
      · rw [m_eq, up_ne (by decide)]; exact k4
      · rw [m_eq, up_ne (by decide)]; exact k5
    | .inr (j, o1, o2), ⟨u1, g1, g2, g0, g3, g4, g5, g6, g7, g8, g9, g10, g11, g12⟩, ⟨x, w1, k1, k2, k3, k4, k5, k6, k7, k8, k9, k10, k11, k12⟩ =>
      dsimp only at g0 g3 g4 g5 g6 g7 g8 g9 g10 g11 k4 k5 k6 k7 k8 k9 k10 k11
      obtain ⟨l16, kk4, t1, t2, q1, q2, q3, q4⟩ := pxLine_w hZ.2.1 hr
      have f13 := myL2_13 w1 (nI (L + 1))
      have w13 : w1 146 13 = nI L := by rw [k2.2 13 (by decide)]; exact h13
      have hM' : myC o2 (mupd w1 146 13 (nI (L + 1))) := by
        unfold myC
        rw [m_eq, up_ne (by decide), m_ne (by decide)]; exact k5
      have hT' : myT 0 b n v0 j (mupd w1 146 13 (nI (L + 1))) := by
        unfold myT txS
        rw [m_eq, up_ne (by decide), up_ne (by decide), up_ne (by decide), up_ne (by decide), up_ne (by decide), up_ne (by decide), m_ne (by decide)]
        exact k4
      have hln' : ∀ l, l < L + 1 → lnO o2 l u1 (mupd w1 146 13 (nI (L + 1))) := by
        intro l hl
        by_cases e : l = L
        · rw [e]
          have n1 : o1.length = o.length + t1.length := by rw [q1, List.length_append]
          have n2 : o2.length = o1.length + t2.length := by rw [q2, List.length_append]
          have s1 : seg o2 o.length t1.length = t1 := by
            unfold seg
            rw [q2, q1, List.append_assoc, List.drop_left, List.take_left]
          have s2 : seg o2 (o.length + t1.length) t2.length = t2 := by
            unfold seg
            rw [← n1, q2, List.drop_left, List.take_length]
          have p0 : o2.take o.length = o := by rw [q2, q1, List.append_assoc, List.take_left]
          have p1 : o2.take (o.length + t1.length) = o1 := by rw [← n1, q2, List.take_left]
          have p2 : o2.take (o.length + t1.length + t2.length) = o2 := by rw [← n1, ← n2, List.take_length]
          refine ⟨kk 0 b n i - 256, o.length, t1.length, t2.length, kk4, by omega, ?_, ?_, ?_, ?_, by rw [s1]; exact q3, ?_, g8, by rw [p0]; exact g9, by rw [p1]; exact g10, by rw [p2]; exact g11⟩
          · rw [m_ne (by decide)]; exact k8
          · rw [m_ne (by decide), ← n1]; exact k9
          · rw [m_ne (by decide), ← n1, ← n2]; exact k10
          · rw [m_ne (by decide)]; exact k11
          · rcases q4 with h | h
            · exact Or.inl (by rw [h]; rfl)
            · rw [s2]; exact Or.inr h
        · have := hln l (by omega)
          rw [q2, q1, List.append_assoc]
          exact lnO_x _ this (fun c h1 h2 => g12 c l h1 h2 e) (fun x h1 h2 => by rw [m_ne (by decide)]; exact k12 x (by omega))
      obtain ⟨u', x', w', r1, r2, r3, r4, r5⟩ := ih (d - 1) (by omega) j o2 u1 (mupd w1 146 13 (nI (L + 1))) F F2 (L + 1) (t + 1) (by have := g3.2.1; omega) (by omega) (by omega) g3 g4 hT' hM' g5 g6 g7 (by rw [m_eq, up_eq]) (by omega) hln' (by omega)
      refine ⟨u', x', w', ?_, ?_, txL_t g2 r3, myL2_t (myL2_L k2) (myL2_t f13 r4), r5⟩
      · rw [e1, g1, b_some, r1]
      · rw [e2, k1, b2_some, if_neg (by rw [k3]; exact z1), k3]
        unfold FX12_readsLaw_146_b42
        rw [w13, nI_1, b_some, r2]

