/-! what THE LAW tells of a man -/
def lp (W : Wt) (i : Nat) : Nat := nt (W (900 + i))
def lk (W : Wt) (i : Nat) : Nat := nt (W (916 + i)) - nt (W (900 + i))
def ll (W : Wt) (i : Nat) : Nat := nt (W (932 + i)) - nt (W (916 + i))
def LW1 (W : Wt) (i : Nat) : Prop := (∃ k, k < 4 ∧ W (948 + i) = nI (20 + k)) ∧ W (900 + i) = nI (lp W i) ∧ W (916 + i) = nI (lp W i + lk W i) ∧ W (932 + i) = nI (lp W i + lk W i + ll W i) ∧ lp W i + lk W i + ll W i ≤ 400 ∧ okW W (lp W i) (lk W i + ll W i) ∧ wfO (opsW W (lp W i) (lk W i)) 0 1 ∧ (ll W i = 0 ∨ wfO (opsW W (lp W i + lk W i) (ll W i)) 0 1)
def LW (W : Wt) : Prop := (W 84 = nI (nt (W 84)) ∧ nt (W 84) ≤ 16) ∧ ∀ i, i < nt (W 84) → LW1 W i
def LC1 (t : Nat) (u : Mem) (W : Wt) (i : Nat) : Prop := (∃ k, k < 4 ∧ W (948 + i) = nI (20 + k) ∧ u (t + 2) i = nI k) ∧ ∃ a, u (t + 3) i = nI a ∧ u (t + 4) i = nI (a + encL (opsW W (lp W i) (lk W i))) ∧ u (t + 5) i = nI (a + encL (opsW W (lp W i) (lk W i)) + encL (opsW W (lp W i + lk W i) (ll W i))) ∧ a + encL (opsW W (lp W i) (lk W i)) + encL (opsW W (lp W i + lk W i) (ll W i)) ≤ 400 ∧ encAt (u (t + 1)) a (opsW W (lp W i) (lk W i)) ∧ encAt (u (t + 1)) (a + encL (opsW W (lp W i) (lk W i))) (opsW W (lp W i + lk W i) (ll W i))
def LC (t : Nat) (u : Mem) (W : Wt) : Prop := u t 7 = W 84 ∧ ∀ i, i < nt (W 84) → LC1 t u W i
def lTell (f : Nat → Int32) (W : Wt) (w : Nat) (d : Int32) : Nat → Nat → Int32
  | _, 0 => d
  | i, k + 1 => if W (948 + i) = nI (20 + w) ∧ (W (932 + i) = W (916 + i) ∨ (evO f (opsW W (lp W i + lk W i) (ll W i)) []).headD 0 = 1) then (evO f (opsW W (lp W i) (lk W i)) []).headD 0 else lTell f W w d (i + 1) k
def clp (most v : Int32) : Int32 := if 0 < (if most < v then most else v) then (if most < v then most else v) else 0
theorem m_clp (most v : Int32) {β : Type} (g : Int32 → Option β) : ((FX12_lesser most v).bind fun x => (FX12_greater 0 x).bind g) = g (clp most v) := by
  unfold FX12_lesser FX12_greater clp
  have h : (if v ≤ most then some v else some most : Option Int32) = some (if most < v then most else v) := by
    by_cases c : most < v
    · rw [if_pos c, if_neg (by rw [Int32.not_le]; exact c)]
    · rw [if_neg c, if_pos (by rw [← Int32.not_lt]; exact c)]
  rw [h, b_some]
  by_cases c : 0 < (if most < v then most else v)
  · rw [if_pos c, if_pos (Int32.le_of_lt c), b_some]
  · rw [if_neg c]
    have c2 : (if most < v then most else v) ≤ 0 := by rw [← Int32.not_lt]; exact c
    by_cases c3 : 0 ≤ (if most < v then most else v)
    · rw [if_pos c3, b_some, Int32.le_antisymm c2 c3]
    · rw [if_neg c3, b_some]
theorem clp_n (n : Nat) (hn : n < 2147483648) (v : Int32) : ∃ j, j ≤ n ∧ clp (nI n) v = nI j := by
  unfold clp
  by_cases c : nI n < v
  · rw [if_pos c]
    by_cases c2 : 0 < nI n
    · rw [if_pos c2]; exact ⟨n, Nat.le_refl _, rfl⟩
    · rw [if_neg c2]; exact ⟨0, Nat.zero_le _, nI_0.symm⟩
  · rw [if_neg c]
    by_cases c2 : 0 < v
    · rw [if_pos c2]
      obtain ⟨j, hj, rfl⟩ := nI_of (x := v) (by rw [Int32.not_lt]; exact Int32.le_of_lt c2)
      exact ⟨j, by rw [nn_lt hn hj] at c; omega, rfl⟩
    · rw [if_neg c2]; exact ⟨0, Nat.zero_le _, nI_0.symm⟩
theorem encL_pos : ∀ (os : List (Nat × Nat)), os ≠ [] → 0 < encL os
  | [], h => absurd rfl h
  | o :: os, _ => by
    show 0 < enc1 o + encL os
    unfold enc1
    split <;> omega
theorem opsW_ne (W : Wt) (p : Nat) {k : Nat} (h : k ≠ 0) : opsW W p k ≠ [] := by
  match k, h with
  | k + 1, _ => intro e; cases e
theorem c_tell_33 {u : Mem} {W : Wt} {f : Nat → Int32} (hf : ∀ s, 1 ≤ s → s ≤ 9 → u 33 (s - 1) = f s) (hL : LC 8 u W) (hW : LW W) {w : Nat} (hw : w < 4) (d : Int32) : ∀ (k i F : Nat) (P : Wt), i + k = nt (W 84) → k < F → ∃ P', FX4_tell_8_33_L3 F (nI w) d (nI i) (mset u 14 P) = some (lTell f W w d i k, mset u 14 P') := by
  have hn := hW.1
  intro k
  induction k with
  | zero =>
    intro i F P hi hF
    obtain ⟨F, rfl⟩ : ∃ F', F = F' + 1 := ⟨F - 1, by omega⟩
    refine ⟨P, ?_⟩
    show FX4_tell_8_33_b3 _ _ _ _ _ = _
    unfold FX4_tell_8_33_b3 FX4_tell_8_33_b96
    rw [ms_ne (by decide), hL.1, hn.1, if_pos (by rw [nn_le (by omega) (by omega)]; omega)]
    rfl
  | succ k ih =>
    intro i F P hi hF
    obtain ⟨F, rfl⟩ : ∃ F', F = F' + 1 := ⟨F - 1, by omega⟩
    obtain ⟨⟨kw, hk4, ew, ec⟩, a, ea, eb, ee, h4, en1, en2⟩ := hL.2 i (by omega)
    obtain ⟨_, p1, p2, p3, p4, p5, p6, p7⟩ := hW.2 i (by omega)
    have hrun : ∀ Q : Wt, ∃ P', FX4_run_8_33 (nI a) (nI (a + encL (opsW W (lp W i) (lk W i)))) (mset u 14 Q) = some ((evO f (opsW W (lp W i) (lk W i)) []).headD 0, mset u 14 P') := by
      intro Q
      have h := c_run_33 hf (opsW W (lp W i) (lk W i)) a FU [] Q (by omega) (by show _ < 10000; omega) en1 trivial p6
      rw [show nI ([] : List Int32).length = 0 from nI_0] at h
      exact h
    show ∃ P', FX4_tell_8_33_b3 _ _ _ _ _ = _
    unfold FX4_tell_8_33_b3 FX4_tell_8_33_b90 FX4_tell_8_33_b70
    rw [ms_ne (by decide), hL.1, hn.1, if_neg (by rw [nn_le (by omega) (by omega)]; omega), if_neg (by rw [li_le (by decide) (by omega)]; show ¬ 16 ≤ i; omega), r_ok (by omega) (by omega), b_some, ms_ne (by decide), show u 10 i = nI kw from ec]
    unfold lTell
    rw [ew]
    by_cases c : kw = w
    · subst c
      rw [if_pos rfl, r_ok (by omega) (by omega), b_some, r_ok (by omega) (by omega), b_some, ms_ne (by decide), ms_ne (by decide), show u 12 i = _ from eb, show u 13 i = _ from ee]
      by_cases z : ll W i = 0
      · have e0 : encL (opsW W (lp W i + lk W i) (ll W i)) = 0 := by rw [z]; rfl
        rw [e0, Nat.add_zero, if_pos rfl, if_pos ⟨rfl, Or.inl (by rw [p3, p2, z, Nat.add_zero])⟩, r_ok (by omega) (by omega), b_some, b_some, ms_ne (by decide), show u 11 i = _ from ea]
        obtain ⟨P', h⟩ := hrun P
        exact ⟨P', by rw [h]; rfl⟩
      · have e0 := encL_pos _ (opsW_ne W (lp W i + lk W i) z)
        have p7' := p7.resolve_left z
        have hrun2 : ∃ P', FX4_run_8_33 (nI (a + encL (opsW W (lp W i) (lk W i)))) (nI (a + encL (opsW W (lp W i) (lk W i)) + encL (opsW W (lp W i + lk W i) (ll W i)))) (mset u 14 P) = some ((evO f (opsW W (lp W i + lk W i) (ll W i)) []).headD 0, mset u 14 P') := by
          have h := c_run_33 hf (opsW W (lp W i + lk W i) (ll W i)) (a + encL (opsW W (lp W i) (lk W i))) FU [] P (by omega) (by show _ < 10000; omega) en2 trivial p7'
          rw [show nI ([] : List Int32).length = 0 from nI_0] at h
          exact h
        obtain ⟨P1, h1⟩ := hrun2
        have ne : ¬ W (932 + i) = W (916 + i) := by rw [p3, p2, nn_eq (by omega) (by omega)]; omega
        rw [if_neg (by rw [nn_eq (by omega) (by omega)]; omega), b_some, b_some, h1, b2_some]
        by_cases y : (evO f (opsW W (lp W i + lk W i) (ll W i)) []).headD 0 = 1
        · rw [if_pos y, if_pos ⟨rfl, Or.inr y⟩, r_ok (by omega) (by omega), b_some, r_ok (by omega) (by omega), b_some, ms_ne (by decide), ms_ne (by decide), show u 11 i = _ from ea, show u 12 i = _ from eb]
          obtain ⟨P', h⟩ := hrun P1
          exact ⟨P', by rw [h]; rfl⟩
        · rw [if_neg y, if_neg (by rintro ⟨-, h | h⟩ <;> contradiction), nI_1]
          exact ih (i + 1) F P1 (by omega) (by omega)
    · rw [if_neg (by rw [nn_eq (by omega) (by omega)]; exact c), if_neg (by rintro ⟨h, -⟩; rw [nn_eq (by omega) (by omega)] at h; omega), nI_1]
      exact ih (i + 1) F P (by omega) (by omega)
theorem c_tell_105 {u : Mem} {W : Wt} {f : Nat → Int32} (hf : ∀ s, 1 ≤ s → s ≤ 9 → u 105 (s - 1) = f s) (hL : LC 8 u W) (hW : LW W) {w : Nat} (hw : w < 4) (d : Int32) : ∀ (k i F : Nat) (P : Wt), i + k = nt (W 84) → k < F → ∃ P', FX4_tell_8_105_L3 F (nI w) d (nI i) (mset u 14 P) = some (lTell f W w d i k, mset u 14 P') := by
  have hn := hW.1
  intro k
  induction k with
  | zero =>
    intro i F P hi hF
    obtain ⟨F, rfl⟩ : ∃ F', F = F' + 1 := ⟨F - 1, by omega⟩
    refine ⟨P, ?_⟩
    show FX4_tell_8_105_b3 _ _ _ _ _ = _
    unfold FX4_tell_8_105_b3 FX4_tell_8_105_b96
    rw [ms_ne (by decide), hL.1, hn.1, if_pos (by rw [nn_le (by omega) (by omega)]; omega)]
    rfl
  | succ k ih =>
    intro i F P hi hF
    obtain ⟨F, rfl⟩ : ∃ F', F = F' + 1 := ⟨F - 1, by omega⟩
    obtain ⟨⟨kw, hk4, ew, ec⟩, a, ea, eb, ee, h4, en1, en2⟩ := hL.2 i (by omega)
    obtain ⟨_, p1, p2, p3, p4, p5, p6, p7⟩ := hW.2 i (by omega)
    have hrun : ∀ Q : Wt, ∃ P', FX4_run_8_105 (nI a) (nI (a + encL (opsW W (lp W i) (lk W i)))) (mset u 14 Q) = some ((evO f (opsW W (lp W i) (lk W i)) []).headD 0, mset u 14 P') := by
      intro Q
      have h := c_run_105 hf (opsW W (lp W i) (lk W i)) a FU [] Q (by omega) (by show _ < 10000; omega) en1 trivial p6
      rw [show nI ([] : List Int32).length = 0 from nI_0] at h
      exact h
    show ∃ P', FX4_tell_8_105_b3 _ _ _ _ _ = _
    unfold FX4_tell_8_105_b3 FX4_tell_8_105_b90 FX4_tell_8_105_b70
    rw [ms_ne (by decide), hL.1, hn.1, if_neg (by rw [nn_le (by omega) (by omega)]; omega), if_neg (by rw [li_le (by decide) (by omega)]; show ¬ 16 ≤ i; omega), r_ok (by omega) (by omega), b_some, ms_ne (by decide), show u 10 i = nI kw from ec]
    unfold lTell
    rw [ew]
    by_cases c : kw = w
    · subst c
      rw [if_pos rfl, r_ok (by omega) (by omega), b_some, r_ok (by omega) (by omega), b_some, ms_ne (by decide), ms_ne (by decide), show u 12 i = _ from eb, show u 13 i = _ from ee]
      by_cases z : ll W i = 0
      · have e0 : encL (opsW W (lp W i + lk W i) (ll W i)) = 0 := by rw [z]; rfl
        rw [e0, Nat.add_zero, if_pos rfl, if_pos ⟨rfl, Or.inl (by rw [p3, p2, z, Nat.add_zero])⟩, r_ok (by omega) (by omega), b_some, b_some, ms_ne (by decide), show u 11 i = _ from ea]
        obtain ⟨P', h⟩ := hrun P
        exact ⟨P', by rw [h]; rfl⟩
      · have e0 := encL_pos _ (opsW_ne W (lp W i + lk W i) z)
        have p7' := p7.resolve_left z
        have hrun2 : ∃ P', FX4_run_8_105 (nI (a + encL (opsW W (lp W i) (lk W i)))) (nI (a + encL (opsW W (lp W i) (lk W i)) + encL (opsW W (lp W i + lk W i) (ll W i)))) (mset u 14 P) = some ((evO f (opsW W (lp W i + lk W i) (ll W i)) []).headD 0, mset u 14 P') := by
          have h := c_run_105 hf (opsW W (lp W i + lk W i) (ll W i)) (a + encL (opsW W (lp W i) (lk W i))) FU [] P (by omega) (by show _ < 10000; omega) en2 trivial p7'
          rw [show nI ([] : List Int32).length = 0 from nI_0] at h
          exact h
        obtain ⟨P1, h1⟩ := hrun2
        have ne : ¬ W (932 + i) = W (916 + i) := by rw [p3, p2, nn_eq (by omega) (by omega)]; omega
        rw [if_neg (by rw [nn_eq (by omega) (by omega)]; omega), b_some, b_some, h1, b2_some]
        by_cases y : (evO f (opsW W (lp W i + lk W i) (ll W i)) []).headD 0 = 1
        · rw [if_pos y, if_pos ⟨rfl, Or.inr y⟩, r_ok (by omega) (by omega), b_some, r_ok (by omega) (by omega), b_some, ms_ne (by decide), ms_ne (by decide), show u 11 i = _ from ea, show u 12 i = _ from eb]
          obtain ⟨P', h⟩ := hrun P1
          exact ⟨P', by rw [h]; rfl⟩
        · rw [if_neg y, if_neg (by rintro ⟨-, h | h⟩ <;> contradiction), nI_1]
          exact ih (i + 1) F P1 (by omega) (by omega)
    · rw [if_neg (by rw [nn_eq (by omega) (by omega)]; exact c), if_neg (by rintro ⟨h, -⟩; rw [nn_eq (by omega) (by omega)] at h; omega), nI_1]
      exact ih (i + 1) F P (by omega) (by omega)
theorem m_tell {u : Mem} {W : Wt} {f : Nat → Int32} (hu : u 147 = W) (hf : ∀ s, 1 ≤ s → s ≤ 9 → u 156 s = f s) (hW : LW W) {w : Nat} (hw : w < 4) (d most : Int32) : ∀ (k i F : Nat) (P : Wt), i + k = nt (W 84) → k < F → ∃ P', FX12_says_146_L185 F (nI (20 + w)) d most (nI i) (mset u 155 P) = some (clp most (lTell f W w d i k), mset u 155 P') := by
  have hn := hW.1
  intro k
  induction k with
  | zero =>
    intro i F P hi hF
    obtain ⟨F, rfl⟩ : ∃ F', F = F' + 1 := ⟨F - 1, by omega⟩
    refine ⟨P, ?_⟩
    show FX12_says_146_b185 _ _ _ _ _ _ = _
    unfold FX12_says_146_b185
    rw [ms_ne (by decide), hu, hn.1, if_pos (by rw [nn_le (by omega) (by omega)]; omega), m_clp]
    rfl
  | succ k ih =>
    intro i F P hi hF
    obtain ⟨F, rfl⟩ : ∃ F', F = F' + 1 := ⟨F - 1, by omega⟩
    obtain ⟨⟨kw, hk4, ew⟩, p1, p2, p3, p4, p5, p6, p7⟩ := hW.2 i (by omega)
    have hrun : ∀ Q : Wt, ∃ P', FX12_comesTo_146 0 (nI (lp W i)) (nI (lp W i + lk W i)) (mset u 155 Q) = some ((evO f (opsW W (lp W i) (lk W i)) []).headD 0, mset u 155 P') := by
      intro Q
      have h := m_run hu hf (lk W i) (lp W i) FU [] Q (by omega) (by show _ < 10000; omega) (fun j hj => p5 j (by omega)) trivial p6
      rw [show nI ([] : List Int32).length = 0 from nI_0] at h
      exact h
    show ∃ P', FX12_says_146_b185 _ _ _ _ _ _ = _
    unfold FX12_says_146_b185 FX12_says_146_b258 FX12_isSo_146
    rw [ms_ne (by decide), hu, hn.1, if_neg (by rw [nn_le (by omega) (by omega)]; omega), li_add, r_ok (by show 948 + i < _; omega) (by omega), b_some, ms_ne (by decide), hu, show W ((OfNat.ofNat 948 : Nat) + i) = nI (20 + kw) from ew]
    unfold lTell
    rw [ew]
    by_cases c : kw = w
    · subst c
      rw [if_pos rfl, li_add, li_add, r_ok (by show 932 + i < _; omega) (by omega), b_some, r_ok (by show 916 + i < _; omega) (by omega), b_some, ms_ne (by decide), hu, show W ((OfNat.ofNat 932 : Nat) + i) = _ from p3, show W ((OfNat.ofNat 916 : Nat) + i) = _ from p2]
      by_cases z : ll W i = 0
      · rw [z, Nat.add_zero, if_pos rfl, b2_some, if_neg (by decide), if_pos ⟨rfl, Or.inl rfl⟩, li_add, r_ok (by show 900 + i < _; omega) (by omega), b_some, r_ok (by show 916 + i < _; omega) (by omega), b_some, ms_ne (by decide), hu, show W ((OfNat.ofNat 900 : Nat) + i) = _ from p1, show W ((OfNat.ofNat 916 : Nat) + i) = _ from p2]
        obtain ⟨P', h⟩ := hrun P
        exact ⟨P', by rw [h, b2_some, m_clp]⟩
      · have p7' := p7.resolve_left z
        have hrun2 : ∃ P', FX12_comesTo_146 0 (nI (lp W i + lk W i)) (nI (lp W i + lk W i + ll W i)) (mset u 155 P) = some ((evO f (opsW W (lp W i + lk W i) (ll W i)) []).headD 0, mset u 155 P') := by
          have h := m_run hu hf (ll W i) (lp W i + lk W i) FU [] P (by omega) (by show _ < 10000; omega) (fun j hj => by rw [Nat.add_assoc (lp W i)]; exact p5 (lk W i + j) (by omega)) trivial p7'
          rw [show nI ([] : List Int32).length = 0 from nI_0] at h
          exact h
        obtain ⟨P1, h1⟩ := hrun2
        rw [if_neg (by rw [nn_eq (by omega) (by omega)]; omega), b_some, b_some, h1, b2_some]
        have ne : ¬ nI (lp W i + lk W i + ll W i) = nI (lp W i + lk W i) := by rw [nn_eq (by omega) (by omega)]; omega
        by_cases y : (evO f (opsW W (lp W i + lk W i) (ll W i)) []).headD 0 = 1
        · rw [if_pos y, b2_some, if_neg (by decide), if_pos ⟨rfl, Or.inr y⟩, li_add, r_ok (by show 900 + i < _; omega) (by omega), b_some, r_ok (by show 916 + i < _; omega) (by omega), b_some, ms_ne (by decide), hu, show W ((OfNat.ofNat 900 : Nat) + i) = _ from p1, show W ((OfNat.ofNat 916 : Nat) + i) = _ from p2]
          obtain ⟨P', h⟩ := hrun P1
          exact ⟨P', by rw [h, b2_some, m_clp]⟩
        · rw [if_neg y, b2_some, if_pos rfl, if_neg (by rintro ⟨-, h | h⟩ <;> contradiction), nI_1]
          exact ih (i + 1) F P1 (by omega) (by omega)
    · rw [if_neg (by rw [nn_eq (by omega) (by omega)]; omega), if_neg (by rintro ⟨h, -⟩; rw [nn_eq (by omega) (by omega)] at h; omega), nI_1]
      exact ih (i + 1) F P (by omega) (by omega)

