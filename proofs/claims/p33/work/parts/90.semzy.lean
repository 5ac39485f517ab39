/-! the class reads a condition -/
theorem d_nots {u : Mem} (kc : Int32 → Mem → Option Mem) (a : Nat) : ∀ (m l F : Nat) (u : Mem), l + m = 8 → m < F → txD u → dSim u (FX6_single_34_L168 kc F (nI a) (nI l) u) := by
  intro m
  induction m with
  | zero =>
    intro l F u hl hF h
    obtain ⟨f, rfl⟩ : ∃ f, F = f + 1 := ⟨F - 1, by omega⟩
    have e : FX6_single_34_L168 kc (f + 1) (nI a) (nI l) u = some u := by
      show FX6_single_34_b168 _ _ _ _ _ = _
      unfold FX6_single_34_b168
      rw [if_pos (show (8 : Int32) ≤ nI l by rw [li_le (by decide) (by omega)]; show 8 ≤ l; omega), ite_self]
    rw [e]; exact dSim_r h
  | succ m ih =>
    intro l F u hl hF h
    obtain ⟨f, rfl⟩ : ∃ f, F = f + 1 := ⟨F - 1, by omega⟩
    show dSim u (FX6_single_34_b168 _ _ _ _ _)
    unfold FX6_single_34_b168
    by_cases c : nI a ≤ nI l
    · rw [if_pos c]; exact dSim_r h
    · rw [if_neg c, if_neg (by rw [li_le (by decide) (by omega)]; show ¬ 8 ≤ l; omega), nI_1]
      exact dSim_b h (d_put h _) (fun u' h' => ih (l + 1) f u' (by omega) (by omega) h')
theorem d_n166 {u : Mem} (kc : Int32 → Mem → Option Mem) (a : Nat) (h : txD u) : dSim u (FX6_single_34_b166 kc (nI a) u) := by
  unfold FX6_single_34_b166
  have := d_nots (u := u) kc a 8 0 FU u (by decide) (by decide) h
  rw [nI_0] at this
  exact this
theorem d_b61 {u : Mem} (kc : Int32 → Mem → Option Mem) (l1 : Int32) (a : Nat) (h : txD u) : dSim u (FX6_single_34_b61 kc l1 (nI a) u) := by
  unfold FX6_single_34_b61
  rw [c_takeD h (by decide), b2_some, if_pos rfl]
  refine dSim_b h (d_sum h) (fun u' h' => ?_)
  rw [h'.1, if_neg (by decide), if_neg (by decide)]
  unfold FX6_single_34_b122
  rw [h'.1, if_neg (by decide), if_neg (by decide)]
  unfold FX6_single_34_b151
  rw [c_needD h' (by decide), b_some]
  exact dSim_b h' (d_sum h') (fun u2 h2 => dSim_b h2 (d_put h2 _) (fun u3 h3 => d_n166 kc a h3))
theorem d_single {u : Mem} (kc : Int32 → Mem → Option Mem) (l1 : Int32) (h : txD u) : dSim u (FX6_single_34 kc l1 u) := by
  have e : FX6_single_34 kc l1 u = FX6_single_34_b2 kc (FX6_single_34_L2 kc 9999) l1 0 u := rfl
  have e26 : dSim u (FX6_single_34_b26 kc l1 0 u) := by
    unfold FX6_single_34_b26
    rw [h.1, if_neg (by decide), if_neg (by decide)]
    have := d_b61 kc l1 0 h
    rw [nI_0] at this
    exact this
  rw [e]
  unfold FX6_single_34_b2
  rw [c_takeD h (by decide), b2_some, if_pos rfl, ite_self]
  exact e26
theorem d_condE {u : Mem} (kc : Int32 → Mem → Option Mem) (F : Nat) (l1 l3 : Int32) (h : txD u) : dSim u (FX6_condition_34_b61 kc (FX6_condition_34_L4 kc (F + 1)) l1 l3 u) := by
  have key : ∀ u', txD u' → dSim u' (FX6_condition_34_b74 kc (FX6_condition_34_L4 kc (F + 1)) l1 l3 u') := by
    intro u' h'
    unfold FX6_condition_34_b74
    rw [c_takeD h' (by decide), b2_some]
    have e : FX6_condition_34_L4 kc (F + 1) l1 0 (l3 + 1) u' = some u' := by
      show FX6_condition_34_b4 _ _ _ _ _ _ = _
      unfold FX6_condition_34_b4
      rw [if_pos rfl, ite_self]
    rw [e]; exact dSim_r h'
  unfold FX6_condition_34_b61
  by_cases c : l3 ≤ 0
  · rw [if_pos c]; exact key u h
  · rw [if_neg c]; exact dSim_b h (d_put h _) key
theorem d_condL {u : Mem} (kc : Int32 → Mem → Option Mem) (F F2 : Nat) (l1 l3 l4 : Int32) (h : txD u) : dSim u (FX6_condition_34_L23 kc (FX6_condition_34_L4 kc (F + 1)) (F2 + 1) l1 l3 l4 u) := by
  show dSim u (FX6_condition_34_b23 _ _ _ _ _ _ _)
  unfold FX6_condition_34_b23
  rw [c_takeD h (by decide), b2_some, if_pos rfl, ite_self]
  exact d_condE kc F l1 l3 h
theorem d_cond {u : Mem} (m : Nat) (l1 : Int32) (h : txD u) : dSim u (FX6_condition_34 (m + 1) l1 u) := by
  have e : ∀ kc, FX6_condition_34_L4 kc FU l1 1 0 u = FX6_condition_34_b4 kc (FX6_condition_34_L4 kc 9999) l1 1 0 u := fun kc => rfl
  show dSim u (FX6_condition_34_body (FX6_condition_34 m) l1 u)
  unfold FX6_condition_34_body
  rw [e]
  unfold FX6_condition_34_b4
  rw [if_neg (by decide), if_neg z1]
  exact dSim_b h (d_single _ l1 h) (fun u' h' => d_condL _ 9998 9999 l1 0 0 h')
/-- what a condition within so many open ones is -/
def cndS (K V Q : Nat → Nat) (N : Nat) (f : Nat) (kc : Mem → Option Mem) : Prop := (∀ i o u, txA K V Q N i u → txC o u → encL o ≤ i → cSim K V Q N u (pxAny K (fun i o => pxOne K V f i o) i o) (kc u)) ∧ ∀ u, txD u → dSim u (kc u)
def rpN (a : Nat) : pxT := List.replicate a (30, 0)
theorem rpN_s (o : pxT) (a : Nat) : (o ++ [(30, 0)]) ++ rpN a = o ++ rpN (a + 1) := by
  unfold rpN
  rw [List.append_assoc, List.replicate_succ]; rfl
def fnN (a : Nat) (r : pxR) : pxR := pxB r (fun j o => .inr (j, o ++ rpN a))
theorem fnN_s (a : Nat) (r : pxR) : fnN a (pxFin 30 r) = fnN (a + 1) r := by
  unfold fnN pxFin
  rw [pxB_a]
  match r with
  | .inl e => rfl
  | .inr (j, o) =>
    show Sum.inr (j, (o ++ [(30, 0)]) ++ rpN a) = Sum.inr (j, o ++ rpN (a + 1))
    rw [rpN_s]
theorem fnN_0 (r : pxR) : fnN 0 r = r := by
  match r with
  | .inl e => rfl
  | .inr (j, o) => show Sum.inr (j, o ++ []) = _; rw [List.append_nil]
theorem c_nots {K V Q : Nat → Nat} {N : Nat} (kc : Int32 → Mem → Option Mem) {j : Nat} (hN : N ≤ 400) : ∀ (m l a F : Nat) (o : pxT) (u : Mem), l + m = a → a ≤ 8 → m < F → txA K V Q N j u → txC o u → encL o + m ≤ j → cSim K V Q N u (.inr (j, o ++ rpN m)) (FX6_single_34_L168 kc F (nI a) (nI l) u) := by
  intro m
  induction m with
  | zero =>
    intro l a F o u hl ha hF hA hC hle
    obtain ⟨f, rfl⟩ : ∃ f, F = f + 1 := ⟨F - 1, by omega⟩
    have e : FX6_single_34_L168 kc (f + 1) (nI a) (nI l) u = some u := by
      show FX6_single_34_b168 _ _ _ _ _ = _
      unfold FX6_single_34_b168
      rw [ltE _ _ (by omega) (by omega) (by omega)]
    have e2 : o ++ rpN 0 = o := List.append_nil o
    rw [e, e2]; exact cSim_n hA hC (by omega)
  | succ m ih =>
    intro l a F o u hl ha hF hA hC hle
    obtain ⟨f, rfl⟩ : ∃ f, F = f + 1 := ⟨F - 1, by omega⟩
    have hj := hA.2.1
    obtain ⟨u', e, hC', p⟩ := c_put hC (show encL o < 400 by omega) (s := 30) (v := 0) (x := -19) (by decide) (by decide)
    have ex : FX6_single_34_L168 kc (f + 1) (nI a) (nI l) u = FX6_single_34_L168 kc f (nI a) (nI (l + 1)) u' := by
      show FX6_single_34_b168 _ _ _ _ _ = _
      unfold FX6_single_34_b168
      rw [ltN _ _ (by omega) (by omega) (by omega), if_neg (by rw [li_le (by decide) (by omega)]; show ¬ 8 ≤ l; omega), e, b_some, nI_1]
    rw [ex, ← rpN_s]
    exact cSim_G (txG_P p) (ih (l + 1) a f (o ++ [(30, 0)]) u' (by omega) ha (by omega) (txA_P hA p) hC' (by rw [encL_app, encL_1 (by decide)]; omega))
theorem c_n166 {K V Q : Nat → Nat} {N : Nat} (kc : Int32 → Mem → Option Mem) {j a : Nat} (hN : N ≤ 400) {o : pxT} {u : Mem} (ha : a ≤ 8) (hA : txA K V Q N j u) (hC : txC o u) (hle : encL o + a ≤ j) : cSim K V Q N u (.inr (j, o ++ rpN a)) (FX6_single_34_b166 kc (nI a) u) := by
  unfold FX6_single_34_b166
  have h := c_nots kc hN a 0 a FU o u (by omega) ha (by show _ < 10000; omega) hA hC hle
  rw [nI_0] at h
  exact h
theorem c_cmp {K V Q : Nat → Nat} {N : Nat} (hZ : pxZ K V N) (kc : Int32 → Mem → Option Mem) (l1 : Int32) {i a : Nat} {o : pxT} {u : Mem} (ha : a ≤ 8) (hA : txA K V Q N i u) (hC : txC o u) (hl : encL o + a ≤ i) (h40 : ¬ K i = 40) : cSim K V Q N u (fnN a (pxCmp K V i o)) (FX6_single_34_b61 kc l1 (nI a) u) := by
  have hN := hZ.1.1
  unfold FX6_single_34_b61 fnN pxCmp
  rw [c_takeN hA (nkn (hZ.2.2 i) (by decide) h40), b2_some, if_pos rfl, pxB_a]
  refine cSim_b (gSum hZ.1 hA.2.1 o) (c_sum hZ hA hC (by omega)) (fun j o1 u1 k1 k2 k3 kG kA kC kl => ?_) (fun u1 h1 => ?_)
  · have hKj := hZ.2.2 j
    rw [kA.2.2.2.1]
    have fin : ∀ s, s ≠ 26 → s ≠ 0 → (K j = 60 ∨ K j = 61 ∨ K j = 62) → cSim K V Q N u (pxB (pxFin s (pxSum K V (j + 1) o1)) (fun j o => .inr (j, o ++ rpN a))) (FX6_single_34_b151 kc (nI a) (cod s) (nI (K j)) u1) := by
      intro s hs hs0 hk
      have hj := hZ.1.2 j k2 (by omega)
      unfold FX6_single_34_b151 pxFin
      rw [c_needY hZ kA rfl (by omega), b_some, pxB_a]
      refine cSim_b (gSum hZ.1 (show j + 1 ≤ N by omega) o1) (cSim_G (txG_t kG (txGo_G K u1 (j + 1))) (c_sum hZ (txGo_A kA (by omega)) (txGo_C kC) (by omega))) (fun m o2 u2 q1 q2 q3 qG qA qC ql => ?_) (fun u2 h2 => dSim_b h2 (d_put h2 _) (fun u3 h3 => d_n166 kc a h3))
      obtain ⟨u3, e3, hC3, p3⟩ := c_put qC (show encL o2 < 400 by omega) (s := s) (v := 0) (x := cod s) hs (if_neg hs0)
      rw [e3, b_some, pxB_r]
      exact cSim_G (txG_t qG (txG_P p3)) (c_n166 kc hN ha (txA_P qA p3) hC3 (by rw [encL_app, encL_1 (by show s ≠ 26; exact hs)]; omega))
    by_cases c1 : K j = 60
    · rw [if_pos c1, if_pos (nk c1)]
      unfold FX6_single_34_b122 FX6_single_34_b142
      rw [kA.2.2.2.1, if_pos (nk c1)]
      exact fin 27 (by decide) (by decide) (Or.inl c1)
    · rw [if_neg c1, if_neg (nkn hKj (by decide) c1)]
      by_cases c2 : K j = 61
      · rw [if_pos c2, if_pos (nk c2)]
        unfold FX6_single_34_b122 FX6_single_34_b142
        rw [kA.2.2.2.1, if_neg (nkn hKj (by decide) c1), if_pos (nk c2)]
        exact fin 28 (by decide) (by decide) (Or.inr (Or.inl c2))
      · rw [if_neg c2, if_neg (nkn hKj (by decide) c2)]
        unfold FX6_single_34_b122
        rw [kA.2.2.2.1, if_neg (nkn hKj (by decide) c1), if_neg (nkn hKj (by decide) c2)]
        by_cases c3 : K j = 62
        · rw [if_pos c3, show (62 : Int32) = nI (K j) from (nk c3).symm]
          exact fin 29 (by decide) (by decide) (Or.inr (Or.inr c3))
        · rw [if_neg c3, pxB_l]
          obtain ⟨u2, e2, g2, x2⟩ := c_needN hN kA (nkn hKj (by decide) c3)
          unfold FX6_single_34_b151
          rw [e2, b_some]
          have hD : txD u2 := ⟨x2.1, by rw [x2.2.1]; exact nI_f (by decide) (by decide)⟩
          exact cSim_d (txG_t kG g2) x2 (dSim_b hD (d_sum hD) (fun u3 h3 => dSim_b h3 (d_put h3 _) (fun u4 h4 => d_n166 kc a h4)))
  · rw [h1.1, if_neg (by decide), if_neg (by decide)]
    unfold FX6_single_34_b122
    rw [h1.1, if_neg (by decide), if_neg (by decide)]
    unfold FX6_single_34_b151
    rw [c_needD h1 (by decide), b_some]
    exact dSim_b h1 (d_sum h1) (fun u2 h2 => dSim_b h2 (d_put h2 _) (fun u3 h3 => d_n166 kc a h3))
theorem c_singleL {K V Q : Nat → Nat} {N : Nat} (hZ : pxZ K V N) {kc : Int32 → Mem → Option Mem} {lv : Nat} (hkc : ∀ m, lv < m → m ≤ 8 → cndS K V Q N (8 - m) (kc (nI m))) : ∀ (f a F i : Nat) (o : pxT) (u : Mem), lv + a + f = 8 → f < F → txA K V Q N i u → txC o u → encL o + a ≤ i → cSim K V Q N u (fnN a (pxOne K V f i o)) (FX6_single_34_L2 kc F (nI lv) (nI a) u) := by
  intro f
  have hN := hZ.1.1
  have h61 : ∀ (f a i : Nat) (o : pxT) (u : Mem), lv + a + (f + 1) = 8 → txA K V Q N i u → txC o u → encL o + a ≤ i → K i = 40 → cSim K V Q N u (fnN a (pxOne K V (f + 1) i o)) (FX6_single_34_b61 kc (nI lv) (nI a) u) := by
    intro f a i o u hf hA hC hl c40
    have hi := hZ.1.2 i hA.2.1 (by omega)
    obtain ⟨k1, k2⟩ := hkc (lv + a + 1) (by omega) (by omega)
    rw [show 8 - (lv + a + 1) = f by omega] at k1
    unfold FX6_single_34_b61 fnN pxOne
    rw [if_neg (by omega), if_pos c40, c_takeY hZ hA (nk c40) (by omega), b2_some, if_neg z1, nI_add, nI_1, pxB_a]
    refine cSim_b (gAny hZ.1 (fun i o hi => gOne hZ.1 f i o hi) (show i + 1 ≤ N by omega) o) (cSim_G (txGo_G K u (i + 1)) (k1 (i + 1) o _ (txGo_A hA (by omega)) (txGo_C hC) (by omega))) (fun j o1 u1 q1 q2 q3 qG qA qC ql => ?_) (fun u1 h1 => ?_)
    · by_cases c41 : K j = 41
      · have hj := hZ.1.2 j q2 (by omega)
        rw [if_pos c41, pxB_r, c_needY hZ qA (nk c41) (by omega), b_some]
        exact cSim_G (txG_t qG (txGo_G K u1 (j + 1))) (c_n166 kc hN (by omega) (txGo_A qA (by omega)) (txGo_C qC) (by omega))
      · obtain ⟨u2, e2, g2, x2⟩ := c_needN hN qA (nkn (hZ.2.2 j) (by decide) c41)
        have hD : txD u2 := ⟨x2.1, by rw [x2.2.1]; exact nI_f (by decide) (by decide)⟩
        rw [if_neg c41, pxB_l, e2, b_some]
        exact cSim_d (txG_t qG g2) x2 (d_n166 kc a hD)
    · rw [c_needD h1 (by decide), b_some]; exact d_n166 kc a h1
  induction f with
  | zero =>
    intro a F i o u hf hF hA hC hl
    obtain ⟨g, rfl⟩ : ∃ g, F = g + 1 := ⟨F - 1, by omega⟩
    show cSim K V Q N u _ (FX6_single_34_b2 _ _ _ _ _)
    unfold FX6_single_34_b2
    rw [nI_add, if_pos (by rw [li_le (by decide) (by omega)]; show 8 ≤ lv + a; omega)]
    unfold FX6_single_34_b26 FX6_single_34_b45
    rw [hA.2.2.2.1, nI_add]
    have full : K i = 263 ∨ K i = 40 → cSim K V Q N u (fnN a (pxOne K V 0 i o)) (if nI (lv + a) < 8 then FX6_single_34_b61 kc (nI lv) (nI a) u else (FX6_fail_34 3 u).bind fun u3 => FX6_single_34_b166 kc (nI a) u3) := by
      intro h
      obtain ⟨u2, e2, g2, x2⟩ := c_fail hN hA 3
      have e2 : FX6_fail_34 3 u = some u2 := e2
      have hD : txD u2 := ⟨x2.1, by rw [x2.2.1]; exact nI_f (by decide) (by decide)⟩
      unfold fnN pxOne
      rw [if_pos h, pxB_l, if_neg (by rw [lt_li (by decide) (by omega)]; show ¬ lv + a < 8; omega), e2, b_some]
      exact cSim_d g2 x2 (d_n166 kc a hD)
    by_cases c1 : K i = 263
    · rw [if_pos (nk c1)]; exact full (Or.inl c1)
    · rw [if_neg (nkn (hZ.2.2 i) (by decide) c1)]
      by_cases c2 : K i = 40
      · rw [if_pos (nk c2)]; exact full (Or.inr c2)
      · rw [if_neg (nkn (hZ.2.2 i) (by decide) c2)]
        unfold pxOne
        rw [if_neg (fun h => h.elim c1 c2)]
        exact c_cmp hZ kc (nI lv) (by omega) hA hC hl c2
  | succ f ih =>
    intro a F i o u hf hF hA hC hl
    obtain ⟨g, rfl⟩ : ∃ g, F = g + 1 := ⟨F - 1, by omega⟩
    show cSim K V Q N u _ (FX6_single_34_b2 _ _ _ _ _)
    unfold FX6_single_34_b2
    rw [nI_add, if_neg (by rw [li_le (by decide) (by omega)]; show ¬ 8 ≤ lv + a; omega)]
    by_cases c1 : K i = 263
    · have hi := hZ.1.2 i hA.2.1 (by omega)
      rw [c_takeY hZ hA (nk c1) (by omega), b2_some, if_neg z1, nI_1]
      unfold pxOne
      rw [if_pos c1, fnN_s]
      exact cSim_G (txGo_G K u (i + 1)) (ih (a + 1) g (i + 1) o _ (by omega) (by omega) (txGo_A hA (by omega)) (txGo_C hC) (by omega))
    · rw [c_takeN hA (nkn (hZ.2.2 i) (by decide) c1), b2_some, if_pos rfl]
      unfold FX6_single_34_b26 FX6_single_34_b45
      rw [hA.2.2.2.1, if_neg (nkn (hZ.2.2 i) (by decide) c1), nI_add, if_pos (show nI (lv + a) < (8 : Int32) by rw [lt_li (by decide) (by omega)]; show lv + a < 8; omega), ite_self]
      by_cases c2 : K i = 40
      · exact h61 f a i o u hf hA hC hl c2
      · unfold pxOne
        rw [if_neg c1, if_neg c2]
        exact c_cmp hZ kc (nI lv) (by omega) hA hC hl c2
theorem c_single {K V Q : Nat → Nat} {N : Nat} (hZ : pxZ K V N) {kc : Int32 → Mem → Option Mem} {lv : Nat} (hkc : ∀ m, lv < m → m ≤ 8 → cndS K V Q N (8 - m) (kc (nI m))) (hlv : lv ≤ 8) {i : Nat} {o : pxT} {u : Mem} (hA : txA K V Q N i u) (hC : txC o u) (hl : encL o ≤ i) : cSim K V Q N u (pxOne K V (8 - lv) i o) (FX6_single_34 kc (nI lv) u) := by
  unfold FX6_single_34
  have h := c_singleL hZ hkc (8 - lv) 0 FU i o u (by omega) (by show _ < 10000; omega) hA hC (by omega)
  rw [nI_0, fnN_0] at h
  exact h

