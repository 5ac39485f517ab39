/-! knees: numbers alone -/
def smN (n : Nat) (f : Nat → Nat) : Nat := fo n (fun i a => a + f i) 0
theorem smN_s (n : Nat) (f : Nat → Nat) : smN (n + 1) f = smN n f + f n := rfl
theorem smN_cg {f g : Nat → Nat} {n : Nat} (h : ∀ i, i < n → f i = g i) : smN n f = smN n g := fo_congr (fun i a hi => by rw [h i hi])
theorem smN_0 {f : Nat → Nat} : ∀ n, (∀ i, i < n → f i = 0) → smN n f = 0
  | 0, _ => rfl
  | n + 1, h => by rw [smN_s, smN_0 n (fun i hi => h i (by omega)), h n (by omega)]
theorem smN_le {f g : Nat → Nat} : ∀ n, (∀ i, i < n → f i ≤ g i) → smN n f ≤ smN n g
  | 0, _ => Nat.le_refl _
  | n + 1, h => by
    have h1 := smN_le n (fun i hi => h i (by omega))
    have h2 := h n (by omega)
    rw [smN_s, smN_s]; omega
theorem smN_u {f g : Nat → Nat} {i0 : Nat} : ∀ n, i0 < n → (∀ i, i < n → i ≠ i0 → g i = f i) → smN n g + f i0 = smN n f + g i0
  | 0, h, _ => absurd h (Nat.not_lt_zero _)
  | n + 1, h, he => by
    rw [smN_s, smN_s]
    by_cases c : i0 = n
    · rw [smN_cg (fun i hi => he i (by omega) (by omega)), c]; omega
    · have h1 := smN_u n (show i0 < n by omega) (fun i hi => he i (by omega))
      have h2 := he n (by omega) (fun e => c e.symm)
      omega
theorem smN_one {f : Nat → Nat} {j0 : Nat} : ∀ n, (∀ j, j < n → j ≠ j0 → f j = 0) → smN n f ≤ f j0
  | 0, _ => Nat.zero_le _
  | n + 1, h => by
    rw [smN_s]
    by_cases c : n = j0
    · rw [smN_0 n (fun i hi => h i (by omega) (by omega)), c]; omega
    · have h1 := smN_one n (fun j hj => h j (by omega))
      have h2 := h n (by omega) c
      omega
theorem smN_z {f : Nat → Nat} {n : Nat} : ∀ k, (∀ i, n ≤ i → i < n + k → f i = 0) → smN (n + k) f = smN n f
  | 0, _ => rfl
  | k + 1, h => by
    have h1 := smN_z k (fun i h1 h2 => h i h1 (by omega))
    have h2 := h (n + k) (by omega) (by omega)
    show smN (n + k) f + f (n + k) = _
    omega
def kxS (S : Nat → Bool) (i j : Nat) : Bool := S i && !(S j)
def kX (R : Nat → Nat → Nat) (S : Nat → Bool) : Nat := smN 12 (fun i => smN 12 (fun j => if kxS S i j = true then R i j else 0))
def kU (R : Nat → Nat → Nat) (i0 j0 v : Nat) : Nat → Nat → Nat := fun i j => if i = i0 ∧ j = j0 then v else R i j
theorem kU_e (R : Nat → Nat → Nat) (i0 j0 v : Nat) : kU R i0 j0 v i0 j0 = v := by unfold kU; rw [if_pos ⟨rfl, rfl⟩]
theorem kU_n (R : Nat → Nat → Nat) {i0 j0 v i j : Nat} (h : ¬ (i = i0 ∧ j = j0)) : kU R i0 j0 v i j = R i j := by unfold kU; rw [if_neg h]
theorem kX_u (R : Nat → Nat → Nat) (S : Nat → Bool) {i0 j0 : Nat} (v : Nat) (h1 : i0 < 12) (h2 : j0 < 12) : kX (kU R i0 j0 v) S + (if kxS S i0 j0 = true then R i0 j0 else 0) = kX R S + (if kxS S i0 j0 = true then v else 0) := by
  have a := smN_u (f := fun i => smN 12 (fun j => if kxS S i j = true then R i j else 0)) (g := fun i => smN 12 (fun j => if kxS S i j = true then kU R i0 j0 v i j else 0)) 12 h1 (fun i _ hne => smN_cg (fun j _ => by rw [kU_n R (fun h => hne h.1)]))
  have b := smN_u (f := fun j => if kxS S i0 j = true then R i0 j else 0) (g := fun j => if kxS S i0 j = true then kU R i0 j0 v i0 j else 0) 12 h2 (fun j _ hne => by rw [kU_n R (fun h => hne h.2)])
  rw [kU_e] at b
  unfold kX
  omega
def kS (R : Nat → Nat → Nat) (m t : Nat) : Nat → Nat → Nat := kU (kU R m t (R m t - 1)) t m (R t m + 1)
theorem kX_s (R : Nat → Nat → Nat) (S : Nat → Bool) {m t : Nat} (hm : m < 12) (ht : t < 12) (hne : m ≠ t) (hp : 0 < R m t) : kX (kS R m t) S + (if S m = true then 1 else 0) = kX R S + (if S t = true then 1 else 0) := by
  have a := kX_u R S (R m t - 1) hm ht
  have b := kX_u (kU R m t (R m t - 1)) S (R t m + 1) ht hm
  rw [kU_n R (fun h => hne h.1.symm)] at b
  unfold kS
  unfold kxS at a b
  cases h1 : S m <;> cases h2 : S t <;> rw [h1, h2] at a b <;> simp at a b ⊢ <;> omega
theorem kS_ge (R : Nat → Nat → Nat) {m t a b : Nat} (hne : m ≠ t) (h : b ≠ t) : R a b ≤ kS R m t a b := by
  unfold kS
  by_cases c : a = t ∧ b = m
  · rw [c.1, c.2, kU_e]; omega
  · rw [kU_n _ c, kU_n _ (fun h2 => h h2.2)]; exact Nat.le_refl _
theorem kS_le (R : Nat → Nat → Nat) (m t a b : Nat) : kS R m t a b ≤ R a b + 1 := by
  unfold kS
  by_cases c : a = t ∧ b = m
  · rw [c.1, c.2, kU_e]; omega
  · rw [kU_n _ c]
    by_cases d : a = m ∧ b = t
    · rw [d.1, d.2, kU_e]; omega
    · rw [kU_n _ d]; omega
theorem kS_z (R : Nat → Nat → Nat) {m t a b n : Nat} (hm : m < n) (ht : t < n) (h : n ≤ a ∨ n ≤ b) (h0 : R a b = 0) : kS R m t a b = 0 := by
  unfold kS
  rw [kU_n _ (by omega), kU_n _ (by omega)]; exact h0
theorem sdN_cg {p q : Nat → Bool} : ∀ n, (∀ x, x < n → p x = q x) → sdN p n = sdN q n
  | 0, _ => rfl
  | n + 1, h => by rw [sdN_s, sdN_s, sdN_cg n (fun x hx => h x (by omega)), h n (by omega)]
theorem sdN_add {p q : Nat → Bool} {t : Nat} : ∀ n, t < n → p t = false → q t = true → (∀ x, x < n → x ≠ t → q x = p x) → sdN q n = sdN p n + 1
  | 0, h, _, _, _ => absurd h (Nat.not_lt_zero _)
  | n + 1, h, h1, h2, he => by
    rw [sdN_s, sdN_s]
    by_cases c : t = n
    · rw [sdN_cg n (fun x hx => he x (by omega) (by omega)), ← c, h1, h2]; rfl
    · rw [sdN_add n (by omega) h1 h2 (fun x hx => he x (by omega)), he n (by omega) (fun e => c e.symm)]; omega
theorem sdN_f {p : Nat → Bool} {t n : Nat} (h : t < n) (hp : p t = false) : sdN p n < n := by
  have h1 := sdN_add (p := p) (q := fun x => if x = t then true else p x) n h hp (if_pos rfl) (fun x _ hx => if_neg hx)
  have h2 := sdN_le (fun x => if x = t then true else p x) n
  omega
theorem nat_of (p : Nat → Bool) : ∀ n, ∃ N, N < 2 ^ n ∧ ∀ t, t < n → N.testBit t = p t
  | 0 => ⟨0, by decide, fun t h => by omega⟩
  | n + 1 => by
    obtain ⟨N, h1, h2⟩ := nat_of p n
    have up : 2 ^ n < 2 ^ (n + 1) := Nat.pow_lt_pow_right (by omega) (by omega)
    cases h : p n with
    | false =>
      refine ⟨N, by omega, fun t ht => ?_⟩
      by_cases e : t = n
      · rw [e, h]; exact Nat.testBit_lt_two_pow h1
      · exact h2 t (by omega)
    | true =>
      refine ⟨N ||| 2 ^ n, Nat.or_lt_two_pow (by omega) up, fun t ht => ?_⟩
      by_cases e : t = n
      · rw [e, h, Nat.testBit_or, Nat.testBit_two_pow_self, Bool.or_true]
      · rw [Nat.testBit_or, Nat.testBit_two_pow_of_ne (fun h => e h.symm), Bool.or_false]; exact h2 t (by omega)
/-! knees: the class finds a way -/
def KR (R : Nat → Nat → Nat) (u : Mem) : Prop := ∀ a b, a < 12 → b < 12 → u 107 (a * 12 + b) = nI (R a b) ∧ R a b ≤ 1000
def kB (R : Nat → Nat → Nat) (src : Nat → Bool) (head : Nat) (u : Mem) (s : Int32) (tail : Nat) (od : Nat → Nat) : Prop := sdN (tb s) 12 = tail ∧ (∀ t, t < 12 → tb s t = true → od t < tail ∧ u 109 (od t) = nI t) ∧ (∀ h, h < tail → ∃ t, t < 12 ∧ tb s t = true ∧ od t = h) ∧ (∀ t, t < 12 → tb s t = true → (src t = true ∧ u 108 t = -1) ∨ ∃ m, m < 12 ∧ u 108 t = nI m ∧ tb s m = true ∧ od m < od t ∧ 0 < R m t) ∧ (∀ t, t < 12 → src t = true → tb s t = true) ∧ (∀ m, m < 12 → tb s m = true → od m < head → ∀ t, t < 12 → 0 < R m t → tb s t = true)
theorem tb_set {s : Int32} {j k : Nat} (hj : j < 32) (hk : k < 32) : tb (s ||| ((1 : Int32) <<< (nI j &&& 31))) k = (tb s k || decide (k = j)) := by
  rw [nI_shm hj, tb_or, tb_1s hj hk]
def odU (od : Nat → Nat) (t tail : Nat) : Nat → Nat := fun x => if x = t then tail else od x
theorem odU_e (od : Nat → Nat) (t tail : Nat) : odU od t tail t = tail := if_pos rfl
theorem odU_n (od : Nat → Nat) {t tail x : Nat} (h : ¬ x = t) : odU od t tail x = od x := if_neg h
theorem kB_add {R : Nat → Nat → Nat} {src : Nat → Bool} {head tail m t : Nat} {u : Mem} {s : Int32} {od : Nat → Nat} (h : kB R src head u s tail od) (hm : m < 12) (ht : t < 12) (hs : tb s m = true) (hod : od m = head) (hR : 0 < R m t) (hn : tb s t = false) : kB R src head (mupd (mupd u 108 t (nI m)) 109 tail (nI t)) (s ||| ((1 : Int32) <<< (nI t &&& 31))) (tail + 1) (odU od t tail) := by
  obtain ⟨a, b, c, d, e, f⟩ := h
  have old : ∀ x, x < 12 → tb s x = true → x ≠ t := fun x _ h1 h2 => by rw [h2, hn] at h1; cases h1
  have odm := (b m hm hs).1
  have mt := old m hm hs
  refine ⟨?_, fun x hx h1 => ?_, fun y hy => ?_, fun x hx h1 => ?_, fun x hx h1 => ?_, fun x hx h1 h2 y hy h3 => ?_⟩
  · rw [← a]
    exact sdN_add (t := t) 12 ht hn (by rw [tb_set (by omega) (by omega), decide_eq_true rfl, Bool.or_true]) (fun x hx hne => by rw [tb_set (by omega) (by omega), decide_eq_false hne, Bool.or_false])
  · rw [m_eq]
    by_cases q : x = t
    · rw [q, odU_e, up_eq]; exact ⟨by omega, rfl⟩
    · rw [tb_set (by omega) (by omega), decide_eq_false q, Bool.or_false] at h1
      obtain ⟨b1, b2⟩ := b x hx h1
      rw [odU_n od q, up_ne (by omega), m_ne (by decide)]
      exact ⟨by omega, b2⟩
  · by_cases q : y = tail
    · exact ⟨t, ht, by rw [tb_set (by omega) (by omega), decide_eq_true rfl, Bool.or_true], by rw [odU_e, q]⟩
    · obtain ⟨x, h1, h2, h3⟩ := c y (by omega)
      exact ⟨x, h1, by rw [tb_set (by omega) (by omega), h2, Bool.true_or], by rw [odU_n od (old x h1 h2), h3]⟩
  · rw [m_ne (show 108 ≠ 109 by decide), m_eq]
    by_cases q : x = t
    · refine Or.inr ⟨m, hm, by rw [q, up_eq], by rw [tb_set (by omega) (by omega), hs, Bool.true_or], ?_, by rw [q]; exact hR⟩
      rw [odU_n od mt, q, odU_e]; exact odm
    · rw [tb_set (by omega) (by omega), decide_eq_false q, Bool.or_false] at h1
      rw [up_ne q]
      rcases d x hx h1 with h2 | ⟨m', k1, k2, k3, k4, k5⟩
      · exact Or.inl h2
      · refine Or.inr ⟨m', k1, k2, by rw [tb_set (by omega) (by omega), k3, Bool.true_or], ?_, k5⟩
        rw [odU_n od (old m' k1 k3), odU_n od q]; exact k4
  · rw [tb_set (by omega) (by omega), e x hx h1, Bool.true_or]
  · by_cases q : x = t
    · rw [q, odU_e] at h2; omega
    · rw [tb_set (by omega) (by omega), decide_eq_false q, Bool.or_false] at h1
      rw [odU_n od q] at h2
      rw [tb_set (by omega) (by omega), f x hx h1 h2 y hy h3, Bool.true_or]
theorem c_fw1 {R : Nat → Nat → Nat} {src : Nat → Bool} {head m : Nat} {man : Int32} (hh : head < 12) (hm : m < 12) : ∀ (k t : Nat) (s : Int32) (tail : Nat) (u : Mem) (od : Nat → Nat), t + k = 12 → KR R u → kB R src head u s tail od → tb s m = true → od m = head → (∀ t', t' < t → 0 < R m t' → tb s t' = true) → ∃ s' tail' u' od', KR R u' ∧ kB R src (head + 1) u' s' tail' od' ∧ (∀ c, c ≠ 108 → c ≠ 109 → u' c = u c) ∧ ∀ k60 F, k < F → FX7_findWay_106_L86 k60 F man s (nI tail) (nI head) (nI m) (nI t) u = k60 man s' (nI tail') (nI (head + 1)) u'
  | 0, t, s, tail, u, od, ht, hK, hB, hs, hod, hd => by
    refine ⟨s, tail, u, od, hK, ⟨hB.1, hB.2.1, hB.2.2.1, hB.2.2.2.1, hB.2.2.2.2.1, fun x hx h1 h2 y hy h3 => ?_⟩, fun c _ _ => rfl, fun k60 F hF => ?_⟩
    · by_cases q : od x = head
      · have e1 := (hB.2.1 x hx h1).2
        have e2 := (hB.2.1 m hm hs).2
        rw [q] at e1
        rw [hod, e1, nn_eq (by omega) (by omega)] at e2
        rw [e2] at h3
        exact hd y (by omega) h3
      · exact hB.2.2.2.2.2 x hx h1 (by omega) y hy h3
    · obtain ⟨f, rfl⟩ : ∃ f, F = f + 1 := ⟨F - 1, by omega⟩
      show FX7_findWay_106_b86 _ _ _ _ _ _ _ _ _ = _
      unfold FX7_findWay_106_b86
      rw [if_pos (by rw [show t = 12 by omega]; decide), nI_1]
  | k + 1, t, s, tail, u, od, ht, hK, hB, hs, hod, hd => by
    obtain ⟨kr, kb⟩ := hK m t hm (by omega)
    have tl := sdN_le (tb s) 12
    rw [hB.1] at tl
    have start : ∀ k60 F, FX7_findWay_106_L86 k60 (F + 1) man s (nI tail) (nI head) (nI m) (nI t) u = if R m t = 0 then FX7_findWay_106_L86 k60 F man s (nI tail) (nI head) (nI m) (nI (t + 1)) u else if tb s t = true then FX7_findWay_106_L86 k60 F man s (nI tail) (nI head) (nI m) (nI (t + 1)) u else if 12 ≤ tail then FX7_findWay_106_L86 k60 F man s (nI tail) (nI head) (nI m) (nI (t + 1)) u else FX7_findWay_106_L86 k60 F man (s ||| ((1 : Int32) <<< (nI t &&& 31))) (nI (tail + 1)) (nI head) (nI m) (nI (t + 1)) (mupd (mupd u 108 t (nI m)) 109 tail (nI t)) := by
      intro k60 F
      show FX7_findWay_106_b86 _ _ _ _ _ _ _ _ _ = _
      unfold FX7_findWay_106_b86 FX7_findWay_106_b126 FX7_findWay_106_b177
      rw [if_neg (n12 (by omega)), if_neg (nI_pos (by omega)), if_neg (n12 hm), mul_li, nI_add, rb (by show m * 12 + t < 144; omega) (by omega), nI_1]
      show (if u 107 (m * 12 + t) ≤ 0 then _ else _) = _
      rw [kr]
      by_cases c0 : R m t = 0
      · rw [if_pos (by rw [c0]; decide), if_pos rfl, if_pos c0]
      · rw [if_neg (by rw [le_li (by decide) (by omega)]; show ¬ R m t ≤ 0; omega), if_neg c0, if_neg z1, holds_b _ (by omega), b_some]
        by_cases c1 : tb s t = true
        · rw [if_pos c1, if_neg z1, if_pos c1]
        · rw [if_neg c1, if_pos rfl, if_neg c1]
          by_cases c2 : 12 ≤ tail
          · rw [if_pos (by rw [li_le (by decide) (by omega)]; exact c2), if_pos c2]
          · rw [if_neg (n12 (by omega)), if_neg c2, wb (by omega) (by omega), wb (by omega) (by omega), nI_1]
    have stay : (0 < R m t → tb s t = true) → ∃ s' tail' u' od', KR R u' ∧ kB R src (head + 1) u' s' tail' od' ∧ (∀ c, c ≠ 108 → c ≠ 109 → u' c = u c) ∧ ∀ k60 F, k + 1 < F → FX7_findWay_106_L86 k60 F man s (nI tail) (nI head) (nI m) (nI t) u = k60 man s' (nI tail') (nI (head + 1)) u' := by
      intro hq
      obtain ⟨s', tail', u', od', g1, g2, g3, g4⟩ := c_fw1 (man := man) hh hm k (t + 1) s tail u od (by omega) hK hB hs hod (fun t' h1 h2 => by
        by_cases e : t' = t
        · rw [e] at h2 ⊢; exact hq h2
        · exact hd t' (by omega) h2)
      refine ⟨s', tail', u', od', g1, g2, g3, fun k60 F hF => ?_⟩
      obtain ⟨f, rfl⟩ : ∃ f, F = f + 1 := ⟨F - 1, by omega⟩
      rw [start, g4 k60 f (by omega)]
      by_cases c0 : R m t = 0
      · rw [if_pos c0]
      · rw [if_neg c0, if_pos (hq (by omega))]
    by_cases c0 : R m t = 0
    · exact stay (fun h => by omega)
    · by_cases c1 : tb s t = true
      · exact stay (fun _ => c1)
      · have c1' : tb s t = false := eq_false_of_ne_true c1
        have tl2 := sdN_f (p := tb s) (n := 12) (show t < 12 by omega) c1'
        rw [hB.1] at tl2
        have mt : m ≠ t := fun e => by rw [e] at hs; exact c1 hs
        obtain ⟨s', tail', u', od', g1, g2, g3, g4⟩ := c_fw1 (man := man) hh hm k (t + 1) (s ||| ((1 : Int32) <<< (nI t &&& 31))) (tail + 1) (mupd (mupd u 108 t (nI m)) 109 tail (nI t)) (odU od t tail) (by omega) (fun a b ha hb => by rw [m_ne (by decide), m_ne (by decide)]; exact hK a b ha hb) (kB_add hB hm (by omega) hs hod (by omega) c1') (by rw [tb_set (by omega) (by omega), hs, Bool.true_or]) (by rw [odU_n od mt]; exact hod) (fun t' h1 h2 => by
          rw [tb_set (by omega) (by omega)]
          by_cases e : t' = t
          · rw [decide_eq_true e, Bool.or_true]
          · rw [hd t' (by omega) h2, Bool.true_or])
        refine ⟨s', tail', u', od', g1, g2, fun c h1 h2 => by rw [g3 c h1 h2, m_ne h2, m_ne h1], fun k60 F hF => ?_⟩
        obtain ⟨f, rfl⟩ : ∃ f, F = f + 1 := ⟨F - 1, by omega⟩
        rw [start, if_neg c0, if_neg c1, if_neg (by omega)]
        exact g4 k60 f (by omega)
