/-! knees: the class, whole -/
def kP (R : Nat → Nat → Nat) (src rch : Nat → Bool) (bw : Wt) (od : Nat → Nat) : Prop := ∀ t, t < 12 → rch t = true → od t < 12 ∧ ((src t = true ∧ bw t = -1) ∨ ∃ m, m < 12 ∧ bw t = nI m ∧ rch m = true ∧ od m < od t ∧ 0 < R m t)
def kC (R : Nat → Nat → Nat) (src : Nat → Bool) (man : Nat) (S : Nat → Bool) : Prop := (∀ t, t < 12 → src t = true → S t = true) ∧ S man = false ∧ ∀ i j, i < 12 → j < 12 → S i = true → S j = false → R i j = 0
theorem kfin {R : Nat → Nat → Nat} {src : Nat → Bool} {man head tail : Nat} {s : Int32} {u u0 : Mem} {od : Nat → Nat} (hman : man < 12) (hK : KR R u) (hB : kB R src head u s tail od) (hu : ∀ c, c ≠ 108 → c ≠ 109 → u c = u0 c) (hle : tail ≤ head) : ∃ x u', FX7_findWay_106_b189 (nI man) s u = some (x, u') ∧ (∀ c, c ≠ 108 → c ≠ 109 → u' c = u0 c) ∧ KR R u' ∧ ((x = 0 ∧ ∃ S, kC R src man S) ∨ (x = 1 ∧ ∃ rch od, rch man = true ∧ kP R src rch (u' 108) od)) := by
  obtain ⟨a, b, c, d, e, f⟩ := hB
  have tl := sdN_le (tb s) 12
  rw [a] at tl
  unfold FX7_findWay_106_b189
  rw [holds_b _ (by omega), b_some]
  by_cases h : tb s man = true
  · rw [if_pos h, bchk_1, b_some]
    refine ⟨1, u, rfl, hu, hK, Or.inr ⟨rfl, tb s, od, h, fun t ht hr => ⟨by have := (b t ht hr).1; omega, d t ht hr⟩⟩⟩
  · rw [if_neg h, bchk_0, b_some]
    refine ⟨0, u, rfl, hu, hK, Or.inl ⟨rfl, tb s, e, eq_false_of_ne_true h, fun i j hi hj h1 h2 => ?_⟩⟩
    rcases Nat.eq_zero_or_pos (R i j) with h3 | h3
    · exact h3
    · have h4 := f i hi h1 (by have := (b i hi h1).1; omega) j hj h3
      rw [h2] at h4; cases h4
theorem c_fw2 {R : Nat → Nat → Nat} {src : Nat → Bool} {man : Nat} (hman : man < 12) {u0 : Mem} : ∀ (k head F : Nat) (s : Int32) (tail : Nat) (u : Mem) (od : Nat → Nat), head + k = 12 → k < F → KR R u → kB R src head u s tail od → (∀ c, c ≠ 108 → c ≠ 109 → u c = u0 c) → ∃ x u', FX7_findWay_106_L60 F (nI man) s (nI tail) (nI head) u = some (x, u') ∧ (∀ c, c ≠ 108 → c ≠ 109 → u' c = u0 c) ∧ KR R u' ∧ ((x = 0 ∧ ∃ S, kC R src man S) ∨ (x = 1 ∧ ∃ rch od, rch man = true ∧ kP R src rch (u' 108) od)) := by
  intro k
  induction k with
  | zero =>
    intro head F s tail u od hh hF hK hB hu
    obtain ⟨f, rfl⟩ : ∃ f, F = f + 1 := ⟨F - 1, by omega⟩
    have tl := sdN_le (tb s) 12
    rw [hB.1] at tl
    show ∃ x u', FX7_findWay_106_b60 _ _ _ _ _ _ = _ ∧ _
    unfold FX7_findWay_106_b60
    rw [if_pos (by rw [nn_le (by omega) (by omega)]; omega)]
    exact kfin hman hK hB hu (by omega)
  | succ k ih =>
    intro head F s tail u od hh hF hK hB hu
    obtain ⟨f, rfl⟩ : ∃ f, F = f + 1 := ⟨F - 1, by omega⟩
    have tl := sdN_le (tb s) 12
    rw [hB.1] at tl
    show ∃ x u', FX7_findWay_106_b60 _ _ _ _ _ _ = _ ∧ _
    unfold FX7_findWay_106_b60
    by_cases c : tail ≤ head
    · rw [if_pos (by rw [nn_le (by omega) (by omega)]; exact c)]
      exact kfin hman hK hB hu c
    · rw [if_neg (by rw [nn_le (by omega) (by omega)]; exact c), if_neg (n12 (by omega)), rb (by omega) (by omega)]
      obtain ⟨m, hm, hs, hod⟩ := hB.2.2.1 head (by omega)
      have e := (hB.2.1 m hm hs).2
      rw [hod] at e
      obtain ⟨s', tail', u', od', g1, g2, g3, g4⟩ := c_fw1 (man := nI man) (show head < 12 by omega) hm 12 0 s tail u od (by omega) hK hB hs hod (fun t' h => by omega)
      have g5 := g4 (FX7_findWay_106_L60 f) FU (by decide)
      rw [nI_0] at g5
      rw [e, g5]
      exact ih (head + 1) f s' tail' u' od' (by omega) (by omega) g1 g2 (fun c h1 h2 => by rw [g3 c h1 h2, hu c h1 h2])
theorem c_findWay {R : Nat → Nat → Nat} {man : Nat} {s : Int32} (hman : man < 12) {u : Mem} (hK : KR R u) : ∃ x u', FX7_findWay_106 s (nI man) u = some (x, u') ∧ (∀ c, c ≠ 108 → c ≠ 109 → u' c = u c) ∧ KR R u' ∧ ((x = 0 ∧ ∃ S, kC R (tb s) man S) ∨ (x = 1 ∧ ∃ rch od, rch man = true ∧ kP R (tb s) rch (u' 108) od)) := by
  unfold FX7_findWay_106
  have hh := lp_r (S := Int32 × Mem) (fun F i t => FX7_findWay_106_L8 F s (nI man) s t.1 i t.2) 12 (fun i t => t.1 = nI (sdN (tb s) i) ∧ (∀ x, x < i → t.2 108 x = -1) ∧ (∀ x, x < i → tb s x = true → t.2 109 (sdN (tb s) x) = nI x) ∧ ∀ c, c ≠ 108 → c ≠ 109 → t.2 c = u c) (fun o => ∃ x u', o = some (x, u') ∧ (∀ c, c ≠ 108 → c ≠ 109 → u' c = u c) ∧ KR R u' ∧ ((x = 0 ∧ ∃ S, kC R (tb s) man S) ∨ (x = 1 ∧ ∃ rch od, rch man = true ∧ kP R (tb s) rch (u' 108) od))) (fun i t hi h => ?_) (fun t h F => ?_) FU 0 (0, u) (by omega) (by decide) ⟨nI_0.symm, fun x h => by omega, fun x h => by omega, fun c _ _ => rfl⟩
  · rw [nI_0] at hh; exact hh
  · obtain ⟨tail, v⟩ := t
    obtain ⟨h1, h2, h3, h4⟩ := h
    dsimp only at h1 h2 h3 h4
    subst h1
    have tl := sdN_le (tb s) i
    refine Or.inl ?_
    by_cases c : tb s i = true
    · refine ⟨(nI (sdN (tb s) (i + 1)), mupd (mupd v 108 i (-1)) 109 (sdN (tb s) i) (nI i)), ⟨rfl, fun x hx => ?_, fun x hx hb => ?_, fun c h5 h6 => by show mupd (mupd v 108 i (-1)) 109 (sdN (tb s) i) (nI i) c = _; rw [m_ne h6, m_ne h5]; exact h4 c h5 h6⟩, fun F => ?_⟩
      · show mupd (mupd v 108 i (-1)) 109 (sdN (tb s) i) (nI i) 108 x = _
        rw [m_ne (by decide), m_eq]
        by_cases e : x = i
        · rw [e, up_eq]
        · rw [up_ne e]; exact h2 x (by omega)
      · show mupd (mupd v 108 i (-1)) 109 (sdN (tb s) i) (nI i) 109 _ = _
        rw [m_eq]
        by_cases e : x = i
        · rw [e, up_eq]
        · have := sdN_lt (p := tb s) (show x < i by omega) hb
          rw [up_ne (by omega), m_ne (by decide)]; exact h3 x (by omega) hb
      · show FX7_findWay_106_b8 _ _ _ _ _ _ _ = _
        unfold FX7_findWay_106_b8 FX7_findWay_106_b51
        rw [if_neg (n12 hi), wb (by omega) (by omega), holds_b _ (by omega), b_some, if_pos c, if_neg z1, if_neg (n12 (by omega)), wb (by omega) (by omega), nI_1, nI_1, sdN_y c]
    · refine ⟨(nI (sdN (tb s) (i + 1)), mupd v 108 i (-1)), ⟨rfl, fun x hx => ?_, fun x hx hb => ?_, fun c h5 h6 => by show mupd v 108 i (-1) c = _; rw [m_ne h5]; exact h4 c h5 h6⟩, fun F => ?_⟩
      · show mupd v 108 i (-1) 108 x = _
        rw [m_eq]
        by_cases e : x = i
        · rw [e, up_eq]
        · rw [up_ne e]; exact h2 x (by omega)
      · show mupd v 108 i (-1) 109 _ = _
        rw [m_ne (by decide)]
        by_cases e : x = i
        · rw [e] at hb; exact absurd hb c
        · exact h3 x (by omega) hb
      · show FX7_findWay_106_b8 _ _ _ _ _ _ _ = _
        unfold FX7_findWay_106_b8 FX7_findWay_106_b51
        rw [if_neg (n12 hi), wb (by omega) (by omega), holds_b _ (by omega), b_some, if_neg c, if_pos rfl, nI_1, sdN_n c]
  · obtain ⟨tail, v⟩ := t
    obtain ⟨h1, h2, h3, h4⟩ := h
    dsimp only at h1 h2 h3 h4
    subst h1
    show ∃ x u', FX7_findWay_106_b8 _ _ _ _ _ _ _ = _ ∧ _
    unfold FX7_findWay_106_b8
    rw [if_pos (by decide)]
    have hKv : KR R v := fun a b ha hb => by rw [h4 107 (by decide) (by decide)]; exact hK a b ha hb
    have h5 := c_fw2 (src := tb s) hman (u0 := u) 12 0 FU s (sdN (tb s) 12) v (sdN (tb s)) (by omega) (by decide) hKv ⟨rfl, fun t ht hb => ⟨sdN_lt ht hb, h3 t ht hb⟩, fun h hh => sdN_ex (tb s) 12 hh, fun t ht hb => Or.inl ⟨hb, h2 t ht⟩, fun t _ hb => hb, fun m _ _ hlt => by omega⟩ h4
    rw [nI_0] at h5
    exact h5
theorem nI_dec {a : Nat} (h : 0 < a) : nI a - 1 = nI (a - 1) := sub_li (k := 1) (by show 1 ≤ a; omega)
theorem c_use {R : Nat → Nat → Nat} {src rch : Nat → Bool} {bw : Wt} {od : Nat → Nat} {n : Nat} (hP : kP R src rch bw od) (hZ : ∀ a b, a < 12 → b < 12 → n ≤ a ∨ n ≤ b → R a b = 0) (B : Nat) : ∀ (d t i F : Nat) (u : Mem) (Rc : Nat → Nat → Nat), od t ≤ d → d + i ≤ 11 → d + 1 < F → t < 12 → rch t = true → u 108 = bw → (∀ a b, a < 12 → b < 12 → u 107 (a * 12 + b) = nI (Rc a b) ∧ Rc a b ≤ B + i) → B ≤ 900 → (∀ a b, a < 12 → b < 12 → od b ≤ od t → R a b ≤ Rc a b) → (∀ a b, a < 12 → b < 12 → n ≤ a ∨ n ≤ b → Rc a b = 0) → ∃ u' Rn, FX7_useWay_106_L4 F (nI t) (nI i) u = some u' ∧ (∀ c, c ≠ 107 → u' c = u c) ∧ (∀ a b, a < 12 → b < 12 → u' 107 (a * 12 + b) = nI (Rn a b) ∧ Rn a b ≤ B + 12) ∧ (∀ a b, a < 12 → b < 12 → n ≤ a ∨ n ≤ b → Rn a b = 0) ∧ ∀ S : Nat → Bool, (∀ x, x < 12 → src x = true → S x = true) → kX Rn S + 1 = kX Rc S + (if S t = true then 1 else 0) := by
    intro d
    induction d using Nat.strongRecOn with
    | _ d ihd =>
    intro t i F u Rc h1 h2 h3 ht hr hb hR hB9 hge hz
    obtain ⟨f, rfl⟩ : ∃ f, F = f + 1 := ⟨F - 1, by omega⟩
    show ∃ u' Rn, FX7_useWay_106_b4 _ _ _ _ = _ ∧ _
    unfold FX7_useWay_106_b4
    rw [if_neg (n12 (by omega)), if_neg (nI_pos (by omega)), if_neg (n12 ht), rb (by omega) (by omega), hb]
    obtain ⟨o12, hc⟩ := hP t ht hr
    rcases hc with ⟨q1, q2⟩ | ⟨m, hm, q2, q3, q4, q5⟩
    · rw [q2, if_pos (by decide)]
      refine ⟨u, Rc, rfl, fun c _ => rfl, fun a b ha hb => ⟨(hR a b ha hb).1, by have := (hR a b ha hb).2; omega⟩, hz, fun S hS => by rw [hS t ht q1, if_pos rfl]⟩
    · have hp : 0 < Rc m t := by have := hge m t hm ht (Nat.le_refl _); omega
      have mt : m ≠ t := fun e => by rw [e] at q4; omega
      have hmn : m < n := by
        rcases Nat.lt_or_ge m n with h | h
        · exact h
        · have := hZ m t hm ht (Or.inl h); omega
      have htn : t < n := by
        rcases Nat.lt_or_ge t n with h | h
        · exact h
        · have := hZ m t hm ht (Or.inr h); omega
      obtain ⟨r1, r2⟩ := hR m t hm ht
      obtain ⟨r3, r4⟩ := hR t m ht hm
      have ine : t * 12 + m ≠ m * 12 + t := by omega
      obtain ⟨d', hd'⟩ : ∃ d', d = d' + 1 := ⟨d - 1, by omega⟩
      rw [q2, if_neg (nI_pos (by omega)), if_pos (by rw [lt_li (by decide) (by omega)]; exact hm), mul_li, nI_add, rb (by show m * 12 + t < 144; omega) (by omega), wb (by show m * 12 + t < 144; omega) (by omega), mul_li, nI_add, rb (by show t * 12 + m < 144; omega) (by omega), wb (by show t * 12 + m < 144; omega) (by omega)]
      show ∃ u' Rn, FX7_useWay_106_L4 f (nI m) (nI i + 1) (mupd (mupd u 107 (m * 12 + t) (u 107 (m * 12 + t) - 1)) 107 (t * 12 + m) ((mupd u 107 (m * 12 + t) (u 107 (m * 12 + t) - 1)) 107 (t * 12 + m) + 1)) = _ ∧ _
      rw [m_eq u, up_ne ine, r1, r3, nI_dec hp, nI_1, nI_1]
      obtain ⟨u', Rn, g1, g2, g3, g4, g5⟩ := ihd d' (by omega) m (i + 1) f (mupd (mupd u 107 (m * 12 + t) (nI (Rc m t - 1))) 107 (t * 12 + m) (nI (Rc t m + 1))) (kS Rc m t) (by omega) (by omega) (by omega) hm q3 (by rw [m_ne (by decide), m_ne (by decide)]; exact hb) (fun a b ha hb => by
        have hl := kS_le Rc m t a b
        have hl2 := (hR a b ha hb).2
        refine ⟨?_, by omega⟩
        unfold kS
        rw [m_eq, m_eq]
        by_cases c : a = t ∧ b = m
        · rw [c.1, c.2, kU_e, up_eq]
        · rw [kU_n _ c, up_ne (by omega)]
          by_cases c2 : a = m ∧ b = t
          · rw [c2.1, c2.2, kU_e, up_eq]
          · rw [kU_n _ c2, up_ne (by omega)]; exact (hR a b ha hb).1) hB9 (fun a b ha hb h => by
        have k1 := hge a b ha hb (by omega)
        have k2 := kS_ge Rc (m := m) (t := t) (a := a) (b := b) mt (fun e => by rw [e] at h; omega)
        omega) (fun a b ha hb h => kS_z Rc hmn htn h (hz a b ha hb h))
      refine ⟨u', Rn, g1, fun c hc => by rw [g2 c hc, m_ne hc, m_ne hc], g3, g4, fun S hS => ?_⟩
      have k1 := g5 S hS
      have k2 := kX_s Rc S hm ht mt hp
      omega
