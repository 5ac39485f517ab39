/-! what the told law says is what the law reckons -/
def bI (p : Prop) [Decidable p] : Int32 := if p then 1 else 0
theorem bI_and (p q : Prop) [Decidable p] [Decidable q] : (bI p &&& bI q) = bI (p ∧ q) := by
  unfold bI
  by_cases h1 : p
  · by_cases h2 : q
    · rw [if_pos h1, if_pos h2, if_pos ⟨h1, h2⟩]; rfl
    · rw [if_pos h1, if_neg h2, if_neg (fun z => h2 z.2)]; rfl
  · by_cases h2 : q
    · rw [if_neg h1, if_pos h2, if_neg (fun z => h1 z.1)]; rfl
    · rw [if_neg h1, if_neg h2, if_neg (fun z => h1 z.1)]; rfl
theorem bI_or (p q : Prop) [Decidable p] [Decidable q] : (bI p ||| bI q) = bI (p ∨ q) := by
  unfold bI
  by_cases h1 : p
  · by_cases h2 : q
    · rw [if_pos h1, if_pos h2, if_pos (Or.inl h1)]; rfl
    · rw [if_pos h1, if_neg h2, if_pos (Or.inl h1)]; rfl
  · by_cases h2 : q
    · rw [if_neg h1, if_pos h2, if_pos (Or.inr h2)]; rfl
    · rw [if_neg h1, if_neg h2, if_neg (fun z => z.elim h1 h2)]; rfl
theorem bI_not (p : Prop) [Decidable p] : 1 - bI p = bI (¬ p) := by
  unfold bI
  by_cases h1 : p
  · rw [if_pos h1, if_neg (fun z => z h1)]; rfl
  · rw [if_neg h1, if_pos h1]; rfl
theorem bI_1 (p : Prop) [Decidable p] : (bI p = 1) = p := by
  unfold bI
  by_cases h1 : p
  · rw [if_pos h1]; exact propext ⟨fun _ => h1, fun _ => rfl⟩
  · rw [if_neg h1]; exact propext ⟨fun z => absurd z (by decide), fun z => absurd z h1⟩
theorem hld_clp (v h : Int32) : hld v 0 h = clp h v := by
  unfold hld clp
  by_cases c : v < h
  · rw [if_pos c, if_neg (fun z : h < v => Int32.lt_irrefl (Int32.lt_trans c z))]
  · rw [if_neg c]
    by_cases c2 : h < v
    · rw [if_pos c2]
    · rw [if_neg c2]
      have e : h = v := Int32.le_antisymm (Int32.not_lt.mp c) (Int32.not_lt.mp c2)
      rw [e]
theorem Lq_law {W : Wt} {d : Nat → Int32} {D V : Nat → Nat} (h84 : W 84 = nI 6) (h9 : ∀ l, l < 6 → W (900 + l) = nI (qT (4 * l)) ∧ W (916 + l) = nI (qT (4 * l + 1)) ∧ W (932 + l) = nI (qT (4 * l + 2)) ∧ W (948 + l) = nI (qT (4 * l + 3))) (ho : opsW W 0 57 = qO5 V) (hV : ∀ i, kLw i = 1 → V i = VF D i) (hd : ∀ k, k < 7 → d k = nI (D k)) : Lq (some d) W := by
  intro X eX hX wd m hwd hm
  have e84 : X 84 = nI 6 := (eX 84 (Or.inl rfl)).trans h84
  have r9 : ∀ l, l < 6 → X (900 + l) = nI (qT (4 * l)) ∧ X (916 + l) = nI (qT (4 * l + 1)) ∧ X (932 + l) = nI (qT (4 * l + 2)) ∧ X (948 + l) = nI (qT (4 * l + 3)) := fun l hl => by
    rw [eX (900 + l) (Or.inr (by omega)), eX (916 + l) (Or.inr (by omega)), eX (932 + l) (Or.inr (by omega)), eX (948 + l) (Or.inr (by omega))]
    exact h9 l hl
  have eo : opsW X 0 (qO5 V).length = qO5 V := by
    show opsW X 0 57 = _
    rw [opsW_ge (W := W) 57 0 (fun x h1 _ => eX x (Or.inr (by omega)))]
    exact ho
  have tT : ∀ y, y < 24 → qT y < 400 := by decide
  have pA : ∀ l, l < 6 → opsW X (lp X l) (lk X l) = seg (qO5 V) (qT (4 * l)) (qT (4 * l + 1) - qT (4 * l)) := fun l hl => by
    obtain ⟨a1, a2, a3, a4⟩ := r9 l hl
    have t1 := tT (4 * l) (by omega)
    have t2 := tT (4 * l + 1) (by omega)
    have ok : ∀ l, l < 6 → qT (4 * l) + (qT (4 * l + 1) - qT (4 * l)) ≤ 57 := by decide
    unfold lp lk
    rw [a1, a2, nt_nI (by omega), nt_nI (by omega)]
    exact seg_opsW eo _ _ (ok l hl)
  have pB : ∀ l, l < 6 → opsW X (lp X l + lk X l) (ll X l) = seg (qO5 V) (qT (4 * l + 1)) (qT (4 * l + 2) - qT (4 * l + 1)) := fun l hl => by
    obtain ⟨a1, a2, a3, a4⟩ := r9 l hl
    have t1 := tT (4 * l) (by omega)
    have t2 := tT (4 * l + 1) (by omega)
    have t3 := tT (4 * l + 2) (by omega)
    have ok : ∀ l, l < 6 → qT (4 * l) ≤ qT (4 * l + 1) ∧ qT (4 * l + 1) + (qT (4 * l + 2) - qT (4 * l + 1)) ≤ 57 := by decide
    unfold lp lk ll
    rw [a1, a2, a3, nt_nI (by omega), nt_nI (by omega), nt_nI (by omega), show qT (4 * l) + (qT (4 * l + 1) - qT (4 * l)) = qT (4 * l + 1) by have := (ok l hl).1; omega]
    exact seg_opsW eo _ _ (ok l hl).2
  -- a line that has the word, or not
  have w8 : ∀ l, l < 6 → ∀ w, w < 4 → (X (948 + l) = nI (20 + w)) = (qT (4 * l + 3) = 20 + w) := fun l hl w hw => by
    rw [(r9 l hl).2.2.2, nn_eq (by have := tT (4 * l + 3) (by omega); omega) (by omega)]
  have w9 : ∀ l, l < 6 → (X (932 + l) = X (916 + l)) = (qT (4 * l + 2) = qT (4 * l + 1)) := fun l hl => by
    rw [(r9 l hl).2.2.1, (r9 l hl).2.1, nn_eq (by have := tT (4 * l + 2) (by omega); omega) (by have := tT (4 * l + 1) (by omega); omega)]
  obtain ⟨f, hf⟩ : ∃ f, f = fcts X m := ⟨_, rfl⟩
  -- the lines' values and conditions
  have n3 : V 3 = D 0 := hV 3 rfl
  have n9 : V 9 = D 0 := hV 9 rfl
  have n15 : V 15 = 3 := hV 15 rfl
  have n19 : V 19 = 1 := hV 19 rfl
  have n23 : V 23 = 5 := hV 23 rfl
  have n29 : V 29 = 9 := hV 29 rfl
  have n36 : V 36 = 2 := hV 36 rfl
  have n64 : V 64 = 2 := hV 64 rfl
  have n31 : V 31 = D 1 := hV 31 rfl
  have n40 : V 40 = 1 := hV 40 rfl
  have n44 : V 44 = D 2 := hV 44 rfl
  have n49 : V 49 = D 3 := hV 49 rfl
  have n51 : V 51 = 3 := hV 51 rfl
  have n54 : V 54 = D 5 := hV 54 rfl
  have n58 : V 58 = D 4 := hV 58 rfl
  have n66 : V 66 = 2 := hV 66 rfl
  have n68 : V 68 = 0 := hV 68 rfl
  have n71 : V 71 = D 6 := hV 71 rfl
  have n75 : V 75 = 3 := hV 75 rfl
  have vA0 : (evO f (opsW X (lp X 0) (lk X 0)) []).headD 0 = (f 2 - d 0) + f 3 := by
    rw [pA 0 (by decide), hd 0 (by decide), ← n3]; rfl
  have vB0 : (evO f (opsW X (lp X 0 + lk X 0) (ll X 0)) []).headD 0 = (bI (d 0 < f 2) &&& (1 - (bI (3 < f 5) ||| (bI (f 1 = 1) &&& bI (5 < f 8))))) := by
    rw [pB 0 (by decide), hd 0 (by decide), ← n9, show (3 : Int32) = nI (V 15) by rw [n15]; rfl, show (5 : Int32) = nI (V 23) by rw [n23]; rfl]
    have e1 : (bI (f 1 = 1)) = (bI (f 1 = nI (V 19))) := by rw [n19]; rfl
    rw [e1]
    rfl
  have vA1 : (evO f (opsW X (lp X 1) (lk X 1)) []).headD 0 = f 2 / 9 - d 1 := by
    rw [pA 1 (by decide), hd 1 (by decide), ← n31, show (9 : Int32) = nI (V 29) by rw [n29]; rfl]; rfl
  have vA2 : (evO f (opsW X (lp X 2) (lk X 2)) []).headD 0 = f 3 / 2 := by
    rw [pA 2 (by decide), show (2 : Int32) = nI (V 36) by rw [n36]; rfl]; rfl
  have vB2 : (evO f (opsW X (lp X 2 + lk X 2) (ll X 2)) []).headD 0 = (bI (f 9 = 1) ||| bI (d 2 < f 8)) := by
    have e1 : (bI (f 9 = 1)) = (bI (f 9 = nI (V 40))) := by rw [n40]; rfl
    rw [pB 2 (by decide), hd 2 (by decide), ← n44, e1]; rfl
  have vA3 : (evO f (opsW X (lp X 3) (lk X 3)) []).headD 0 = (f 3 + d 3) - 3 := by
    rw [pA 3 (by decide), hd 3 (by decide), ← n49, show (3 : Int32) = nI (V 51) by rw [n51]; rfl]; rfl
  have vA4 : (evO f (opsW X (lp X 4) (lk X 4)) []).headD 0 = d 5 := by
    rw [pA 4 (by decide), hd 5 (by decide), ← n54]; rfl
  have vB4 : (evO f (opsW X (lp X 4 + lk X 4) (ll X 4)) []).headD 0 = (bI (f 4 < d 4) &&& bI (f 7 - f 7 / 2 * 2 = 0)) := by
    have e1 : (bI (f 7 - f 7 / 2 * 2 = 0)) = (bI (f 7 - f 7 / nI (V 64) * nI (V 66) = nI (V 68))) := by rw [n64, n66, n68]; rfl
    rw [pB 4 (by decide), hd 4 (by decide), ← n58, e1]; rfl
  have vA5 : (evO f (opsW X (lp X 5) (lk X 5)) []).headD 0 = d 6 + f 6 * 3 := by
    rw [pA 5 (by decide), hd 6 (by decide), ← n71, show (3 : Int32) = nI (V 75) by rw [n75]; rfl]; rfl
  have f1 : f 1 = X (90 + m) := by rw [hf]; rfl
  have f2 : f 2 = X (102 + m) := by rw [hf]; rfl
  have f3 : f 3 = X (114 + m) := by rw [hf]; rfl
  have f4 : f 4 = X (4 + m) := by rw [hf]; rfl
  have f5 : f 5 = nI (pc (X (16 + m))) := by rw [hf]; rfl
  have f6 : f 6 = (if X (40 + m) = 1 then X (52 + m) else 0) := by rw [hf]; rfl
  have f7 : f 7 = X 0 := by rw [hf]; rfl
  have f8 : f 8 = X 80 := by rw [hf]; rfl
  have f9 : (f 9 = 1) = hbt X m := by
    have e : f 9 = (if X (40 + m) = 1 then X (126 + nt (X (52 + m))) else 0) := by rw [hf]; rfl
    rw [e]
    by_cases c : X (40 + m) = 1
    · rw [if_pos c]
      obtain ⟨j, hj, ej⟩ := OkD_ce hX.2.1 m (Nat.lt_of_lt_of_le hm (OkT_n hX.1).2)
      have q := hills_tb hX.1 hj
      refine propext ⟨fun z => ⟨c, ?_⟩, fun z => ?_⟩
      · rw [ej, bit_1 _ (by omega), q]
        rw [ej, nt_nI (by omega)] at z
        exact z
      · have z2 := z.2
        rw [ej, bit_1 _ (by omega), q] at z2
        rw [ej, nt_nI (by omega)]
        exact z2
    · rw [if_neg c]
      exact propext ⟨fun z => absurd z (by decide), fun z => absurd z.1 c⟩
  have n6 : nt (X 84) = 6 := by rw [e84, nt_nI (by decide)]
  show sayS d X wd m = clp (nI (mstN wd)) (lTell (fcts X m) X wd (dflt X m wd) 0 (nt (X 84)))
  rw [n6, ← hf]
  have s0 : ∀ (l k : Nat), l < 6 → qT (4 * l + 3) ≠ 20 + wd → lTell f X wd (dflt X m wd) l (k + 1) = lTell f X wd (dflt X m wd) (l + 1) k := fun l k hl h => by
    show (if X (948 + l) = nI (20 + wd) ∧ _ then _ else _) = _
    rw [if_neg (fun z => h (by have z1 := z.1; rw [w8 l hl wd hwd] at z1; exact z1))]
  have s1 : ∀ (l k : Nat), l < 6 → qT (4 * l + 3) = 20 + wd → (qT (4 * l + 2) = qT (4 * l + 1) ∨ (evO f (opsW X (lp X l + lk X l) (ll X l)) []).headD 0 = 1) → lTell f X wd (dflt X m wd) l (k + 1) = (evO f (opsW X (lp X l) (lk X l)) []).headD 0 := fun l k hl h h2 => by
    show (if X (948 + l) = nI (20 + wd) ∧ (X (932 + l) = X (916 + l) ∨ _) then _ else _) = _
    rw [if_pos ⟨by rw [w8 l hl wd hwd]; exact h, by rw [w9 l hl]; exact h2⟩]
  have s2 : ∀ (l k : Nat), l < 6 → qT (4 * l + 2) ≠ qT (4 * l + 1) → (evO f (opsW X (lp X l + lk X l) (ll X l)) []).headD 0 ≠ 1 → lTell f X wd (dflt X m wd) l (k + 1) = lTell f X wd (dflt X m wd) (l + 1) k := fun l k hl h h2 => by
    show (if X (948 + l) = nI (20 + wd) ∧ (X (932 + l) = X (916 + l) ∨ _) then _ else _) = _
    rw [if_neg (fun z => z.2.elim (fun y => h (by rw [w9 l hl] at y; exact y)) h2)]
  rcases (by omega : wd = 0 ∨ wd = 1 ∨ wd = 2 ∨ wd = 3) with rfl | rfl | rfl | rfl
  · have eB : ((evO f (opsW X (lp X 0 + lk X 0) (ll X 0)) []).headD 0 = 1) = (d 0 < X (102 + m) ∧ ¬ (3 < nI (pc (X (16 + m))) ∨ (X (90 + m) = 1 ∧ 5 < X 80))) := by
      rw [vB0, bI_and, bI_or, bI_not, bI_and, bI_1, f1, f2, f5, f8]
    unfold sayS
    rw [if_pos rfl]
    by_cases c : d 0 < X (102 + m) ∧ ¬ (3 < nI (pc (X (16 + m))) ∨ (X (90 + m) = 1 ∧ 5 < X 80))
    · rw [s1 0 5 (by decide) rfl (Or.inr (by rw [eB]; exact c)), vA0, f2, f3, if_neg (fun z => z.elim (fun y => absurd c.1 (Int32.not_lt.mpr y)) c.2), hld_clp]
      rfl
    · rw [s2 0 5 (by decide) (by decide) (by rw [Ne, eB]; exact c), s1 1 4 (by decide) rfl (Or.inl rfl), vA1, f2, if_pos, hld_clp]
      · rfl
      · by_cases c1 : d 0 < X (102 + m)
        · by_cases c2 : 3 < nI (pc (X (16 + m))) ∨ (X (90 + m) = 1 ∧ 5 < X 80)
          · exact Or.inr c2
          · exact absurd ⟨c1, c2⟩ c
        · exact Or.inl (Int32.not_lt.mp c1)
  · have eB : ((evO f (opsW X (lp X 2 + lk X 2) (ll X 2)) []).headD 0 = 1) = (hbt X m ∨ d 2 < X 80) := by
      rw [vB2, bI_or, bI_1, f8]
      rw [f9]
    unfold sayS
    rw [if_neg (by decide), if_pos rfl, s0 0 5 (by decide) (by decide), s0 1 4 (by decide) (by decide)]
    by_cases c : hbt X m ∨ d 2 < X 80
    · rw [s1 2 3 (by decide) rfl (Or.inr (by rw [eB]; exact c)), vA2, f3, if_neg (fun z => c.elim z.2 (fun y => absurd y (Int32.not_lt.mpr z.1))), hld_clp]
      rfl
    · rw [s2 2 3 (by decide) (by decide) (by rw [Ne, eB]; exact c), s1 3 2 (by decide) rfl (Or.inl rfl), vA3, f3, if_pos ⟨Int32.not_lt.mp (fun y => c (Or.inr y)), fun y => c (Or.inl y)⟩, hld_clp]
      rfl
  · have eB : ((evO f (opsW X (lp X 4 + lk X 4) (ll X 4)) []).headD 0 = 1) = (X (4 + m) < d 4 ∧ X 0 - X 0 / 2 * 2 = 0) := by
      rw [vB4, bI_and, bI_1, f4, f7]
    unfold sayS
    rw [if_neg (by decide), if_neg (by decide), if_pos rfl, s0 0 5 (by decide) (by decide), s0 1 4 (by decide) (by decide), s0 2 3 (by decide) (by decide), s0 3 2 (by decide) (by decide)]
    by_cases c : X (4 + m) < d 4 ∧ X 0 - X 0 / 2 * 2 = 0
    · rw [s1 4 1 (by decide) rfl (Or.inr (by rw [eB]; exact c)), vA4, if_neg (fun z => z.elim (fun y => absurd c.1 (Int32.not_lt.mpr y)) (fun y => y c.2)), hld_clp]
      rfl
    · rw [s2 4 1 (by decide) (by decide) (by rw [Ne, eB]; exact c), s0 5 0 (by decide) (by decide), if_pos]
      · rfl
      · by_cases c1 : X (4 + m) < d 4
        · exact Or.inr (fun z => c ⟨c1, z⟩)
        · exact Or.inl (Int32.not_lt.mp c1)
  · unfold sayS
    rw [if_neg (by decide), if_neg (by decide), if_neg (by decide), s0 0 5 (by decide) (by decide), s0 1 4 (by decide) (by decide), s0 2 3 (by decide) (by decide), s0 3 2 (by decide) (by decide), s0 4 1 (by decide) (by decide), s1 5 0 (by decide) rfl (Or.inl rfl), vA5, f6, hld_clp]
    rfl
/-- no law is told -/
theorem Lq_none {W : Wt} (h84 : W 84 = 0) : Lq none W := by
  intro X eX hX wd m hwd hm
  have n0 : nt (X 84) = 0 := by rw [eX 84 (Or.inl rfl), h84]; rfl
  show sayN X wd m = clp (nI (mstN wd)) (lTell (fcts X m) X wd (dflt X m wd) 0 (nt (X 84)))
  rw [n0]
  have hm12 : m < 12 := Nat.lt_of_lt_of_le hm (OkT_n hX.1).2
  unfold sayN
  rcases (by omega : wd = 0 ∨ wd = 1 ∨ wd = 2 ∨ wd = 3) with rfl | rfl | rfl | rfl
  · rw [if_pos rfl, hld_clp]
    rfl
  · rw [if_neg (by decide), if_pos rfl]
    obtain ⟨j, j1, j2, ej⟩ := OkT_le hX.1 m hm12
    have key : ∀ j, j ≤ 9 → nI j = clp (nI (mstN 1)) (nI j) := by decide
    show X (114 + m) = clp (nI (mstN 1)) (X (114 + m))
    rw [ej]
    exact key j j1
  · rw [if_neg (by decide), if_neg (by decide), if_pos rfl]
    rfl
  · rw [if_neg (by decide), if_neg (by decide), if_neg (by decide)]
    rfl
