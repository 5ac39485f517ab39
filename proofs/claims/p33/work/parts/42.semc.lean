/-! THE LAW: its steps as both hold them, and what they come to -/
def opsW (W : Wt) : Nat → Nat → List (Nat × Nat)
  | _, 0 => []
  | p, k + 1 => (nt (W (966 + 2 * p)), nt (W (966 + 2 * p + 1))) :: opsW W (p + 1) k
def cmp2 (s : Nat) (a b : Int32) : Int32 := if s = 23 then a + b else if s = 24 then a - b else if s = 25 then a * b else if s = 27 then (if a < b then 1 else 0) else if s = 28 then (if a = b then 1 else 0) else if s = 29 then (if b < a then 1 else 0) else if s = 31 then a &&& b else a ||| b
def ev1 (f : Nat → Int32) (o : Nat × Nat) (st : List Int32) : List Int32 :=
  if o.1 = 0 then nI o.2 :: st else if o.1 < 23 then f o.1 :: st else if o.1 = 26 then (st.headD 0 / nI o.2) :: st.tail else if o.1 = 30 then (1 - st.headD 0) :: st.tail else cmp2 o.1 (st.tail.headD 0) (st.headD 0) :: st.tail.tail
def evO (f : Nat → Int32) : List (Nat × Nat) → List Int32 → List Int32
  | [], st => st
  | o :: os, st => evO f os (ev1 f o st)
def wf1 (o : Nat × Nat) (d d' : Nat) : Prop := d ≤ 32 ∧ ((o.1 = 0 ∧ o.2 ≤ 9999 ∧ d < 32 ∧ d' = d + 1) ∨ (1 ≤ o.1 ∧ o.1 ≤ 9 ∧ d < 32 ∧ d' = d + 1) ∨ (o.1 = 26 ∧ 1 ≤ o.2 ∧ o.2 ≤ 9999 ∧ 1 ≤ d ∧ d < 32 ∧ d' = d) ∨ (o.1 = 30 ∧ 1 ≤ d ∧ d' = d) ∨ ((o.1 = 23 ∨ o.1 = 24 ∨ o.1 = 25 ∨ o.1 = 27 ∨ o.1 = 28 ∨ o.1 = 29 ∨ o.1 = 31 ∨ o.1 = 32) ∧ 2 ≤ d ∧ d' + 1 = d))
def wfO : List (Nat × Nat) → Nat → Nat → Prop
  | [], d, e => d = e
  | o :: os, d, e => ∃ d', wf1 o d d' ∧ wfO os d' e
def stk (P : Nat → Int32) : List Int32 → Prop
  | [] => True
  | a :: t => P t.length = a ∧ stk P t
theorem stk_up {P : Nat → Int32} {k : Nat} {x : Int32} : ∀ {t : List Int32}, t.length ≤ k → stk P t → stk (upd P k x) t
  | [], _, _ => trivial
  | a :: t, h, hs => ⟨by rw [up_ne (by have : (a :: t).length = t.length + 1 := rfl; omega)]; exact hs.1, stk_up (by have : (a :: t).length = t.length + 1 := rfl; omega) hs.2⟩
theorem stk_push {P : Nat → Int32} {t : List Int32} (x : Int32) (hs : stk P t) : stk (upd P t.length x) (x :: t) := ⟨up_eq _ _ _, stk_up (Nat.le_refl _) hs⟩
theorem mu_ms (u : Mem) (a k : Nat) (P : Wt) (x : Int32) : mupd (mset u a P) a k x = mset u a (upd P k x) := by
  funext b
  by_cases h : b = a
  · subst h; simp [mupd, mset]
  · simp [mupd, mset, h]
theorem ms_self (u : Mem) (a : Nat) : mset u a (u a) = u := by
  funext b
  by_cases h : b = a
  · subst h; simp [mset]
  · simp [mset, h]
theorem ms_ms (u : Mem) (a : Nat) (P Q : Wt) : mset (mset u a P) a Q = mset u a Q := by
  funext b
  by_cases h : b = a
  · subst h; simp [mset]
  · simp [mset, h]
theorem mu_eq (u : Mem) (a k : Nat) (x : Int32) : mupd u a k x = mset u a (upd (u a) k x) := by
  funext b
  by_cases h : b = a
  · subst h; simp [mupd, mset]
  · simp [mupd, mset, h]
/-- the model's row holds small numbers there -/
def okW (W : Wt) (p k : Nat) : Prop := ∀ j, j < k → ∃ s v, s < 100 ∧ v = nt (W (966 + 2 * (p + j) + 1)) ∧ W (966 + 2 * (p + j)) = nI s ∧ (s = 0 ∨ s = 26 → v < 10000 ∧ W (966 + 2 * (p + j) + 1) = nI v)
theorem okW_t {W : Wt} {p k : Nat} (h : okW W p (k + 1)) : okW W (p + 1) k := fun j hj => by
  have h1 := h (j + 1) (by omega)
  rw [show p + (j + 1) = p + 1 + j by omega] at h1
  exact h1
theorem ix0 (p : Nat) : (966 + (820 * (0 : Int32))) + (2 * nI p) = nI (966 + 2 * p) := by
  rw [show (966 + (820 * (0 : Int32))) = nI 966 by decide, show (2 : Int32) = nI 2 by decide, nI_mul, nI_add]
theorem ix1 (p : Nat) : ((966 + (820 * (0 : Int32))) + (2 * nI p)) + 1 = nI (966 + 2 * p + 1) := by
  rw [ix0, nI_1]
theorem s_cmp (s : Nat) (h : s = 23 ∨ s = 24 ∨ s = 25 ∨ s = 27 ∨ s = 28 ∨ s = 29 ∨ s = 31 ∨ s = 32) (a b : Int32) : FX12_both (nI s) a b = some (cmp2 s a b) := by
  unfold FX12_both FX12_both_b101 cmp2
  rcases h with h | h | h | h | h | h | h | h <;> subst h
  · rfl
  · rfl
  · rfl
  · show (if b ≤ a then some 0 else some 1) = some (if a < b then (1 : Int32) else 0)
    by_cases c : a < b
    · rw [if_pos c, if_neg (by rw [Int32.not_le]; exact c)]
    · rw [if_neg c, if_pos (by rw [← Int32.not_lt]; exact c)]
  · show (if a = b then some 1 else some 0) = some (if a = b then (1 : Int32) else 0)
    by_cases c : a = b
    · rw [if_pos c, if_pos c]
    · rw [if_neg c, if_neg c]
  · show (if a ≤ b then some 0 else some 1) = some (if b < a then (1 : Int32) else 0)
    by_cases c : b < a
    · rw [if_pos c, if_neg (by rw [Int32.not_le]; exact c)]
    · rw [if_neg c, if_pos (by rw [← Int32.not_lt]; exact c)]
  · rfl
  · rfl
set_option maxHeartbeats 1000000 in
theorem m_run {u : Mem} {W : Wt} {f : Nat → Int32} (hW : u 147 = W) (hf : ∀ s, 1 ≤ s → s ≤ 9 → u 156 s = f s) : ∀ (k p F : Nat) (st : List Int32) (P : Wt), p + k ≤ 400 → k < F → okW W p k → stk P st → wfO (opsW W p k) st.length 1 → ∃ P', FX12_comesTo_146_L6 F 0 (nI (p + k)) (nI st.length) (nI p) (mset u 155 P) = some ((evO f (opsW W p k) st).headD 0, mset u 155 P') := by
  intro k
  induction k with
  | zero =>
    intro p F st P hp hF hok hs hwf
    obtain ⟨F, rfl⟩ : ∃ F', F = F' + 1 := ⟨F - 1, by omega⟩
    have hl : st.length = 1 := hwf
    refine ⟨P, ?_⟩
    show FX12_comesTo_146_b6 _ 0 _ _ _ _ = _
    unfold FX12_comesTo_146_b6
    rw [if_pos (by rw [nn_le (by omega) (by omega)]; omega), ms_eq]
    match st, hl, hs with
    | [a], _, hs => rw [show P 0 = a from hs.1]; rfl
  | succ k ih =>
    intro p F st P hp hF hok hs hwf
    obtain ⟨F, rfl⟩ : ∃ F', F = F' + 1 := ⟨F - 1, by omega⟩
    obtain ⟨s, v, hs1, hv, e1, e2⟩ := hok 0 (by omega)
    simp only [Nat.add_zero] at hv e1 e2
    have hok' := okW_t hok
    rw [show p + (k + 1) = p + 1 + k by omega]
    have n1 : nt (W (966 + 2 * p)) = s := by rw [e1, nt_nI (by omega)]
    have n2 : nt (W (966 + 2 * p + 1)) = v := hv.symm
    have eo : opsW W p (k + 1) = (s, v) :: opsW W (p + 1) k := by rw [← n1, ← n2]; rfl
    rw [eo] at hwf ⊢
    obtain ⟨d', ⟨hd, hc⟩, hwf'⟩ := hwf
    show ∃ P', FX12_comesTo_146_b6 _ 0 _ _ _ _ = some ((evO f (opsW W (p + 1) k) (ev1 f (s, v) st)).headD 0, _)
    unfold FX12_comesTo_146_b6
    rw [if_neg (by rw [nn_le (by omega) (by omega)]; omega), ix1, ix0, r_ok (by omega) (by omega), r_ok (by omega) (by omega), b_some, b_some, ms_ne (by decide), hW, e1]
    unfold FX12_comesTo_146_b86 FX12_comesTo_146_b180
    have ne : st.length + 1 < 400 := by omega
    rcases hc with ⟨c, c2, c3, rfl⟩ | ⟨c, c2, c3, rfl⟩ | ⟨c, c1, c2, c3, c4, rfl⟩ | ⟨c, c3, rfl⟩ | ⟨c, c3, c4⟩
    · have c : s = 0 := c
      subst c
      obtain ⟨hv1, e2⟩ := e2 (Or.inl rfl)
      rw [e2, if_neg (by decide), if_pos (by decide), w_ok (by omega) (by omega), b_some, mu_ms, nI_1, nI_1]
      exact ih (p + 1) F (nI v :: st) _ (by omega) (by omega) hok' (stk_push _ hs) hwf'
    · have c : 1 ≤ s := c
      have c2 : s ≤ 9 := c2
      rw [if_neg (by rw [li_le (by decide) (by omega)]; show ¬ 23 ≤ s; omega), if_neg (nI_ne0 (by omega) (by omega)), r_ok (by omega) (by omega), b_some, ms_ne (by decide), w_ok (by omega) (by omega), b_some, mu_ms, nI_1, nI_1]
      have ee : ev1 f (s, v) st = u 156 s :: st := by
        unfold ev1
        rw [if_neg (by show ¬ s = 0; omega), if_pos (by show s < 23; omega), hf s c c2]
      rw [ee]
      exact ih (p + 1) F (u 156 s :: st) _ (by omega) (by omega) hok' (stk_push _ hs) hwf'
    · have c : s = 26 := c
      subst c
      obtain ⟨hv1, e2⟩ := e2 (Or.inr rfl)
      have c1 : 1 ≤ v := c1
      rw [e2]
      match st, hs, c3, c4, hd, hwf', ne with
      | a :: t, hs, c3, c4, hd, hwf', ne =>
        have hl : (a :: t).length = t.length + 1 := rfl
        rw [if_pos (by decide), if_pos (by decide), hl, nI_pred, r_ok (by omega) (by omega), b_some, ms_eq, hs.1]
        unfold dvI
        rw [if_neg (nI_ne0 (by omega) (by omega)), b_some, w_ok (by omega) (by omega), b_some, mu_ms, nI_1]
        exact ih (p + 1) F ((a / nI v) :: t) _ (by omega) (by omega) hok' (stk_push _ hs.2) hwf'
    · have c : s = 30 := c
      subst c
      match st, hs, c3, hd, hwf', ne with
      | a :: t, hs, c3, hd, hwf', ne =>
        have hl : (a :: t).length = t.length + 1 := rfl
        rw [if_pos (by decide), if_neg (by decide), if_pos (by decide), hl, nI_pred, r_ok (by omega) (by omega), b_some, ms_eq, hs.1, w_ok (by omega) (by omega), b_some, mu_ms, nI_1]
        exact ih (p + 1) F ((1 - a) :: t) _ (by omega) (by omega) hok' (stk_push _ hs.2) hwf'
    · have c : s = 23 ∨ s = 24 ∨ s = 25 ∨ s = 27 ∨ s = 28 ∨ s = 29 ∨ s = 31 ∨ s = 32 := c
      match st, hs, c3, c4, hd, hwf', ne with
      | a :: b :: t, hs, c3, c4, hd, hwf', ne =>
        have hl : (a :: b :: t).length = t.length + 2 := rfl
        have hl2 : (b :: t).length = t.length + 1 := rfl
        have e5 : nI (t.length + 2) + (-1) = nI (t.length + 1) := by
          have : nI (t.length + 2) = nI (t.length + 1) + 1 := (nI_1 _).symm
          rw [this, show (-1 : Int32) = 0 - 1 by decide, Int32.add_assoc, show (1 : Int32) + (0 - 1) = 0 by decide, Int32.add_zero]
        rw [if_pos (by rw [li_le (by decide) (by omega)]; show 23 ≤ s; omega), if_neg (by rw [eq_li (by decide) (by omega)]; show ¬ s = 26; omega), if_neg (by rw [eq_li (by decide) (by omega)]; show ¬ s = 30; omega), hl, e5, nI_pred, r_ok (by omega) (by omega), r_ok (by omega) (by omega), b_some, b_some, ms_eq, s_cmp s c, b_some, w_ok (by omega) (by omega), b_some, mu_ms, nI_1]
        have q1 : P (t.length + 1) = a := hs.1
        have q2 : P t.length = b := hs.2.1
        have ee : ev1 f (s, v) (a :: b :: t) = cmp2 s b a :: t := by
          unfold ev1
          rw [if_neg (by show ¬ s = 0; omega), if_neg (by show ¬ s < 23; omega), if_neg (by show ¬ s = 26; omega), if_neg (by show ¬ s = 30; omega)]
          rfl
        rw [ee, q1, q2]
        have hd' : d' = (cmp2 s b a :: t).length := by show d' = t.length + 1; omega
        rw [hd'] at hwf'
        exact ih (p + 1) F (cmp2 s b a :: t) _ (by omega) (by omega) hok' (stk_push _ hs.2.2) hwf'
/-! the class's steps -/
def cod (s : Nat) : Int32 := if s < 23 then -(nI s) else if s = 23 then -10 else if s = 24 then -11 else if s = 25 then -12 else if s = 27 then -14 else if s = 28 then -15 else if s = 29 then -16 else if s = 30 then -19 else if s = 31 then -17 else -18
def enc1 (o : Nat × Nat) : Nat := if o.1 = 26 then 2 else 1
def encL : List (Nat × Nat) → Nat
  | [] => 0
  | o :: os => enc1 o + encL os
def encAt (S : Nat → Int32) : Nat → List (Nat × Nat) → Prop
  | _, [] => True
  | a, o :: os => (if o.1 = 0 then S a = nI o.2 else if o.1 = 26 then S a = nI o.2 ∧ S (a + 1) = -13 else S a = cod o.1) ∧ encAt S (a + enc1 o) os
theorem nI_n9 {v : Nat} (h : v < 2147483648) : ¬ nI v < -9 := by
  rw [Int32.lt_iff_toInt_lt, nI_toInt h]
  have h2 : (-9 : Int32).toInt = -9 := by decide
  omega
theorem nm_dec : ∀ s, s < 10 → 1 ≤ s → (¬ (-(nI s)) < (-9 : Int32)) ∧ (-(nI s)) < (0 : Int32) ∧ ((-1 : Int32) - (-(nI s))) = nI (s - 1) := by decide +kernel
theorem cod_lo : ∀ s, s < 33 → 23 ≤ s → cod s < -9 := by decide +kernel
theorem cod_19 : ∀ s, s < 33 → 23 ≤ s → s ≠ 30 → cod s ≠ -19 := by decide +kernel
theorem c_bin_33 (s : Nat) (h : s = 23 ∨ s = 24 ∨ s = 25 ∨ s = 27 ∨ s = 28 ∨ s = 29 ∨ s = 31 ∨ s = 32) (k6 : Int32 → Int32 → Int32 → Mem → Option (Int32 × Mem)) (l2 l4 l5 a b : Int32) (u : Mem) : FX4_run_8_33_b178 k6 l2 l4 l5 (cod s) a b u = FX4_run_8_33_b358 k6 l2 l4 l5 (cmp2 s a b) u := by
  unfold FX4_run_8_33_b178 FX4_run_8_33_b327 FX4_run_8_33_b310 FX4_run_8_33_b293 FX4_run_8_33_b276
  rcases h with h | h | h | h | h | h | h | h <;> subst h
  · rfl
  · rfl
  · rfl
  · show (if b ≤ a then FX4_run_8_33_b358 k6 l2 l4 l5 0 u else FX4_run_8_33_b358 k6 l2 l4 l5 1 u) = FX4_run_8_33_b358 k6 l2 l4 l5 (if a < b then (1 : Int32) else 0) u
    by_cases c : a < b
    · rw [if_pos c, if_neg (by rw [Int32.not_le]; exact c)]
    · rw [if_neg c, if_pos (by rw [← Int32.not_lt]; exact c)]
  · show (if a = b then FX4_run_8_33_b358 k6 l2 l4 l5 1 u else FX4_run_8_33_b358 k6 l2 l4 l5 0 u) = FX4_run_8_33_b358 k6 l2 l4 l5 (if a = b then (1 : Int32) else 0) u
    by_cases c : a = b
    · rw [if_pos c, if_pos c]
    · rw [if_neg c, if_neg c]
  · show (if a ≤ b then FX4_run_8_33_b358 k6 l2 l4 l5 0 u else FX4_run_8_33_b358 k6 l2 l4 l5 1 u) = FX4_run_8_33_b358 k6 l2 l4 l5 (if b < a then (1 : Int32) else 0) u
    by_cases c : b < a
    · rw [if_pos c, if_neg (by rw [Int32.not_le]; exact c)]
    · rw [if_neg c, if_pos (by rw [← Int32.not_lt]; exact c)]
  · rfl
  · rfl
/-- a number, or a name, is laid down -/
theorem c_push_33 {u : Mem} {S : Nat → Int32} (hS : u 9 = S) (k6 : Int32 → Int32 → Int32 → Mem → Option (Int32 × Mem)) {a l b v : Nat} (P : Wt) (hl : l < 32) (hb : a < b) (hb4 : b ≤ 400) (hv : v ≤ 9999) (e : S a = nI v) : FX4_run_8_33_b6 k6 (nI b) (nI l) (nI a) (mset u 14 P) = k6 (nI b) (nI (l + 1)) (nI (a + 1)) (mset u 14 (upd P l (nI v))) := by
  unfold FX4_run_8_33_b6
  rw [if_neg (nI_pos (by omega)), if_neg (by rw [nn_le (by omega) (by omega)]; omega), if_neg (by rw [li_le (by decide) (by omega)]; show ¬ 400 ≤ a; omega), r_ok (by omega) (by omega), b_some, ms_ne (by decide), hS, e, if_neg (nI_n9 (by omega)), if_neg (nI_pos (by omega)), if_neg (by rw [li_le (by decide) (by omega)]; show ¬ 32 ≤ l; omega), if_neg (nI_pos (by omega))]
  unfold FX4_run_8_33_b95 FX4_run_8_33_b369
  rw [w_ok (by omega) (by omega), b_some, mu_ms, nI_1, nI_1]
theorem c_name_33 {u : Mem} {S : Nat → Int32} (hS : u 9 = S) (k6 : Int32 → Int32 → Int32 → Mem → Option (Int32 × Mem)) {a l b s : Nat} (P : Wt) (hl : l < 32) (hb : a < b) (hb4 : b ≤ 400) (h1 : 1 ≤ s) (h2 : s ≤ 9) (e : S a = -(nI s)) : FX4_run_8_33_b6 k6 (nI b) (nI l) (nI a) (mset u 14 P) = k6 (nI b) (nI (l + 1)) (nI (a + 1)) (mset u 14 (upd P l (u 33 (s - 1)))) := by
  obtain ⟨q1, q2, q3⟩ := nm_dec s (by omega) h1
  unfold FX4_run_8_33_b6
  rw [if_neg (nI_pos (by omega)), if_neg (by rw [nn_le (by omega) (by omega)]; omega), if_neg (by rw [li_le (by decide) (by omega)]; show ¬ 400 ≤ a; omega), r_ok (by omega) (by omega), b_some, ms_ne (by decide), hS, e, if_neg q1, if_neg (nI_pos (by omega)), if_neg (by rw [li_le (by decide) (by omega)]; show ¬ 32 ≤ l; omega), if_pos q2, q3, if_neg (by rw [li_le (by decide) (by omega)]; show ¬ 9 ≤ s - 1; omega), r_ok (by omega) (by omega), b_some, ms_ne (by decide)]
  unfold FX4_run_8_33_b95 FX4_run_8_33_b369
  rw [w_ok (by omega) (by omega), b_some, mu_ms, nI_1, nI_1]
/-- up to the sign -/
theorem c_sign_33 {u : Mem} {S : Nat → Int32} (hS : u 9 = S) (k6 : Int32 → Int32 → Int32 → Mem → Option (Int32 × Mem)) {a l b : Nat} {x : Int32} (P : Wt) (hb : a < b) (hb4 : b ≤ 400) (e : S a = x) (hx : x < -9) : FX4_run_8_33_b6 k6 (nI b) (nI l) (nI a) (mset u 14 P) = FX4_run_8_33_b102 k6 (nI b) (nI l) (nI a) x (mset u 14 P) := by
  unfold FX4_run_8_33_b6
  rw [if_neg (nI_pos (by omega)), if_neg (by rw [nn_le (by omega) (by omega)]; omega), if_neg (by rw [li_le (by decide) (by omega)]; show ¬ 400 ≤ a; omega), r_ok (by omega) (by omega), b_some, ms_ne (by decide), hS, e, if_pos hx]
theorem c_two_33 {u : Mem} (k6 : Int32 → Int32 → Int32 → Mem → Option (Int32 × Mem)) {a l b : Nat} {x : Int32} (P : Wt) (hl : l + 2 ≤ 32) (hx : x ≠ -19) : FX4_run_8_33_b102 k6 (nI b) (nI (l + 2)) (nI a) x (mset u 14 P) = FX4_run_8_33_b178 k6 (nI b) (nI (l + 1)) (nI a) x (P l) (P (l + 1)) (mset u 14 P) := by
  unfold FX4_run_8_33_b102 FX4_run_8_33_b116 FX4_run_8_33_b147
  rw [if_neg hx, if_neg (by rw [lt_li (by decide) (by omega)]; show ¬ l + 2 < 2; omega), if_pos (by rw [le_li (by decide) (by omega)]; exact hl), if_neg hx, nI_pred, nI_pred, r_ok (by omega) (by omega), b_some, if_neg hx, r_ok (by omega) (by omega), b_some, ms_eq]
set_option maxHeartbeats 1000000 in
theorem c_run_33 {u : Mem} {f : Nat → Int32} (hf : ∀ s, 1 ≤ s → s ≤ 9 → u 33 (s - 1) = f s) : ∀ (os : List (Nat × Nat)) (a F : Nat) (st : List Int32) (P : Wt), a + encL os ≤ 400 → encL os < F → encAt (u 9) a os → stk P st → wfO os st.length 1 → ∃ P', FX4_run_8_33_L6 F (nI (a + encL os)) (nI st.length) (nI a) (mset u 14 P) = some ((evO f os st).headD 0, mset u 14 P') := by
  intro os
  induction os with
  | nil =>
    intro a F st P hp hF hok hs hwf
    obtain ⟨F, rfl⟩ : ∃ F', F = F' + 1 := ⟨F - 1, by omega⟩
    have hl : st.length = 1 := hwf
    refine ⟨P, ?_⟩
    have ha : encL [] = 0 := rfl
    show FX4_run_8_33_b6 _ _ _ _ _ = _
    unfold FX4_run_8_33_b6 FX4_run_8_33_b375
    rw [ha, if_neg (nI_pos (by omega)), if_pos (by rw [nn_le (by omega) (by omega)]; omega), hl, if_neg (by decide), if_neg (by decide), show nI 1 - 1 = nI 0 by decide, r_ok (by omega) (by omega), b_some, ms_eq]
    match st, hl, hs with
    | [x], _, hs => rw [show P 0 = x from hs.1]; rfl
  | cons o os ih =>
    intro a F st P hp hF hok hs hwf
    obtain ⟨F, rfl⟩ : ∃ F', F = F' + 1 := ⟨F - 1, by omega⟩
    obtain ⟨d', ⟨hd, hc⟩, hwf'⟩ := hwf
    obtain ⟨h1, h2⟩ := hok
    obtain ⟨s, v⟩ := o
    have el : encL ((s, v) :: os) = enc1 (s, v) + encL os := rfl
    have ev : evO f ((s, v) :: os) st = evO f os (ev1 f (s, v) st) := rfl
    rw [ev]
    show ∃ P', FX4_run_8_33_b6 _ _ _ _ _ = some (_, _)
    rcases hc with ⟨c, c2, c3, rfl⟩ | ⟨c, c2, c3, rfl⟩ | ⟨c, c1, c2, c3, c4, rfl⟩ | ⟨c, c3, rfl⟩ | ⟨c, c3, c4⟩
    · have c : s = 0 := c
      subst c
      have e1 : enc1 (0, v) = 1 := rfl
      have h1 : u 9 a = nI v := h1
      rw [e1] at h2 el
      rw [el] at hp hF ⊢
      rw [c_push_33 rfl _ P c3 (by omega) hp c2 h1, ← Nat.add_assoc]
      exact ih (a + 1) F (nI v :: st) _ (by omega) (by omega) h2 (stk_push _ hs) hwf'
    · have c : 1 ≤ s := c
      have c2 : s ≤ 9 := c2
      have e1 : enc1 (s, v) = 1 := by unfold enc1; rw [if_neg (by show ¬ s = 26; omega)]
      have h1 : u 9 a = -(nI s) := by
        rw [if_neg (by show ¬ s = 0; omega), if_neg (by show ¬ s = 26; omega)] at h1
        rw [h1]; unfold cod; rw [if_pos (by show s < 23; omega)]
      have ee : ev1 f (s, v) st = u 33 (s - 1) :: st := by
        unfold ev1
        rw [if_neg (by show ¬ s = 0; omega), if_pos (by show s < 23; omega), hf s c c2]
      rw [e1] at h2 el
      rw [el] at hp hF ⊢
      rw [c_name_33 rfl _ P c3 (by omega) hp c c2 h1, ← Nat.add_assoc, ee]
      exact ih (a + 1) F (u 33 (s - 1) :: st) _ (by omega) (by omega) h2 (stk_push _ hs) hwf'
    · have c : s = 26 := c
      subst c
      have c1 : 1 ≤ v := c1
      have c2 : v ≤ 9999 := c2
      have e1 : enc1 (26, v) = 2 := rfl
      have h1 : u 9 a = nI v ∧ u 9 (a + 1) = -13 := h1
      rw [e1] at h2 el
      rw [el] at hp hF ⊢
      match st, hs, c3, c4, hd, hwf' with
      | x :: t, hs, c3, c4, hd, hwf' =>
        have hl : (x :: t).length = t.length + 1 := rfl
        have q1 : P t.length = x := hs.1
        obtain ⟨F, rfl⟩ : ∃ F', F = F' + 1 := ⟨F - 1, by omega⟩
        rw [c_push_33 rfl _ P c4 (by omega) hp c2 h1.1, hl]
        show ∃ P', FX4_run_8_33_b6 _ _ _ _ _ = some (_, _)
        rw [c_sign_33 rfl _ _ (by omega) hp h1.2 (by decide), c_two_33 _ _ (by omega) (by decide), up_eq, up_ne (by omega), q1]
        unfold FX4_run_8_33_b178 FX4_run_8_33_b276 FX4_run_8_33_b358 FX4_run_8_33_b369 dvI
        rw [if_neg (by decide), if_neg (by decide), if_neg (by decide), if_neg (by decide), if_neg (by decide), if_pos rfl, if_neg (nI_nle (by omega) (by omega)), if_neg (nI_ne0 (by omega) (by omega)), b_some, nI_pred, w_ok (by omega) (by omega), b_some, mu_ms, nI_1, show a + (2 + encL os) = a + 1 + 1 + encL os by omega]
        exact ih (a + 1 + 1) F ((x / nI v) :: t) _ (by omega) (by omega) h2 (stk_push _ (stk_up (by omega) hs.2)) hwf'
    · have c : s = 30 := c
      subst c
      have e1 : enc1 (30, v) = 1 := rfl
      have h1 : u 9 a = -19 := h1
      rw [e1] at h2 el
      rw [el] at hp hF ⊢
      match st, hs, c3, hd, hwf' with
      | x :: t, hs, c3, hd, hwf' =>
        have hl : (x :: t).length = t.length + 1 := rfl
        have q1 : P t.length = x := hs.1
        rw [c_sign_33 rfl _ _ (by omega) hp h1 (by decide), hl]
        unfold FX4_run_8_33_b102 FX4_run_8_33_b116 FX4_run_8_33_b147
        rw [if_pos rfl, if_neg (by rw [lt_li (by decide) (by omega)]; show ¬ t.length + 1 < 1; omega), if_pos (by rw [le_li (by decide) (by omega)]; exact hd), if_pos rfl, nI_pred, r_ok (by omega) (by omega), b_some, if_pos rfl, ms_eq, q1]
        unfold FX4_run_8_33_b178 FX4_run_8_33_b358 FX4_run_8_33_b369
        rw [if_neg (by decide), if_neg (by decide), if_neg (by decide), if_neg (by decide), if_neg (by decide), if_neg (by decide), if_neg (by decide), if_neg (by decide), if_neg (by decide), nI_pred, w_ok (by omega) (by omega), b_some, mu_ms, nI_1, ← Nat.add_assoc]
        exact ih (a + 1) F ((1 - x) :: t) _ (by omega) (by omega) h2 (stk_push _ hs.2) hwf'
    · have c : s = 23 ∨ s = 24 ∨ s = 25 ∨ s = 27 ∨ s = 28 ∨ s = 29 ∨ s = 31 ∨ s = 32 := c
      have e1 : enc1 (s, v) = 1 := by unfold enc1; rw [if_neg (by show ¬ s = 26; omega)]
      have h1 : u 9 a = cod s := by
        rw [if_neg (by show ¬ s = 0; omega), if_neg (by show ¬ s = 26; omega)] at h1
        exact h1
      rw [e1] at h2 el
      rw [el] at hp hF ⊢
      match st, hs, c3, c4, hd, hwf' with
      | y :: x :: t, hs, c3, c4, hd, hwf' =>
        have hl : (y :: x :: t).length = t.length + 2 := rfl
        have q1 : P (t.length + 1) = y := hs.1
        have q2 : P t.length = x := hs.2.1
        have ee : ev1 f (s, v) (y :: x :: t) = cmp2 s x y :: t := by
          unfold ev1
          rw [if_neg (by show ¬ s = 0; omega), if_neg (by show ¬ s < 23; omega), if_neg (by show ¬ s = 26; omega), if_neg (by show ¬ s = 30; omega)]
          rfl
        have hd' : d' = (cmp2 s x y :: t).length := by show d' = t.length + 1; have : (y :: x :: t).length = t.length + 2 := rfl; omega
        rw [hd'] at hwf'
        rw [c_sign_33 rfl _ _ (by omega) hp h1 (cod_lo s (by omega) (by omega)), hl, c_two_33 _ _ (by omega) (cod_19 s (by omega) (by omega) (by omega)), q1, q2, c_bin_33 s c, ee]
        unfold FX4_run_8_33_b358 FX4_run_8_33_b369
        rw [nI_pred, w_ok (by omega) (by omega), b_some, mu_ms, nI_1, ← Nat.add_assoc]
        exact ih (a + 1) F (cmp2 s x y :: t) _ (by omega) (by omega) h2 (stk_push _ hs.2.2) hwf'
theorem c_bin_105 (s : Nat) (h : s = 23 ∨ s = 24 ∨ s = 25 ∨ s = 27 ∨ s = 28 ∨ s = 29 ∨ s = 31 ∨ s = 32) (k6 : Int32 → Int32 → Int32 → Mem → Option (Int32 × Mem)) (l2 l4 l5 a b : Int32) (u : Mem) : FX4_run_8_105_b178 k6 l2 l4 l5 (cod s) a b u = FX4_run_8_105_b358 k6 l2 l4 l5 (cmp2 s a b) u := by
  unfold FX4_run_8_105_b178 FX4_run_8_105_b327 FX4_run_8_105_b310 FX4_run_8_105_b293 FX4_run_8_105_b276
  rcases h with h | h | h | h | h | h | h | h <;> subst h
  · rfl
  · rfl
  · rfl
  · show (if b ≤ a then FX4_run_8_105_b358 k6 l2 l4 l5 0 u else FX4_run_8_105_b358 k6 l2 l4 l5 1 u) = FX4_run_8_105_b358 k6 l2 l4 l5 (if a < b then (1 : Int32) else 0) u
    by_cases c : a < b
    · rw [if_pos c, if_neg (by rw [Int32.not_le]; exact c)]
    · rw [if_neg c, if_pos (by rw [← Int32.not_lt]; exact c)]
  · show (if a = b then FX4_run_8_105_b358 k6 l2 l4 l5 1 u else FX4_run_8_105_b358 k6 l2 l4 l5 0 u) = FX4_run_8_105_b358 k6 l2 l4 l5 (if a = b then (1 : Int32) else 0) u
    by_cases c : a = b
    · rw [if_pos c, if_pos c]
    · rw [if_neg c, if_neg c]
  · show (if a ≤ b then FX4_run_8_105_b358 k6 l2 l4 l5 0 u else FX4_run_8_105_b358 k6 l2 l4 l5 1 u) = FX4_run_8_105_b358 k6 l2 l4 l5 (if b < a then (1 : Int32) else 0) u
    by_cases c : b < a
    · rw [if_pos c, if_neg (by rw [Int32.not_le]; exact c)]
    · rw [if_neg c, if_pos (by rw [← Int32.not_lt]; exact c)]
  · rfl
  · rfl
/-- a number, or a name, is laid down -/
theorem c_push_105 {u : Mem} {S : Nat → Int32} (hS : u 9 = S) (k6 : Int32 → Int32 → Int32 → Mem → Option (Int32 × Mem)) {a l b v : Nat} (P : Wt) (hl : l < 32) (hb : a < b) (hb4 : b ≤ 400) (hv : v ≤ 9999) (e : S a = nI v) : FX4_run_8_105_b6 k6 (nI b) (nI l) (nI a) (mset u 14 P) = k6 (nI b) (nI (l + 1)) (nI (a + 1)) (mset u 14 (upd P l (nI v))) := by
  unfold FX4_run_8_105_b6
  rw [if_neg (nI_pos (by omega)), if_neg (by rw [nn_le (by omega) (by omega)]; omega), if_neg (by rw [li_le (by decide) (by omega)]; show ¬ 400 ≤ a; omega), r_ok (by omega) (by omega), b_some, ms_ne (by decide), hS, e, if_neg (nI_n9 (by omega)), if_neg (nI_pos (by omega)), if_neg (by rw [li_le (by decide) (by omega)]; show ¬ 32 ≤ l; omega), if_neg (nI_pos (by omega))]
  unfold FX4_run_8_105_b95 FX4_run_8_105_b369
  rw [w_ok (by omega) (by omega), b_some, mu_ms, nI_1, nI_1]
theorem c_name_105 {u : Mem} {S : Nat → Int32} (hS : u 9 = S) (k6 : Int32 → Int32 → Int32 → Mem → Option (Int32 × Mem)) {a l b s : Nat} (P : Wt) (hl : l < 32) (hb : a < b) (hb4 : b ≤ 400) (h1 : 1 ≤ s) (h2 : s ≤ 9) (e : S a = -(nI s)) : FX4_run_8_105_b6 k6 (nI b) (nI l) (nI a) (mset u 14 P) = k6 (nI b) (nI (l + 1)) (nI (a + 1)) (mset u 14 (upd P l (u 105 (s - 1)))) := by
  obtain ⟨q1, q2, q3⟩ := nm_dec s (by omega) h1
  unfold FX4_run_8_105_b6
  rw [if_neg (nI_pos (by omega)), if_neg (by rw [nn_le (by omega) (by omega)]; omega), if_neg (by rw [li_le (by decide) (by omega)]; show ¬ 400 ≤ a; omega), r_ok (by omega) (by omega), b_some, ms_ne (by decide), hS, e, if_neg q1, if_neg (nI_pos (by omega)), if_neg (by rw [li_le (by decide) (by omega)]; show ¬ 32 ≤ l; omega), if_pos q2, q3, if_neg (by rw [li_le (by decide) (by omega)]; show ¬ 9 ≤ s - 1; omega), r_ok (by omega) (by omega), b_some, ms_ne (by decide)]
  unfold FX4_run_8_105_b95 FX4_run_8_105_b369
  rw [w_ok (by omega) (by omega), b_some, mu_ms, nI_1, nI_1]
/-- up to the sign -/
theorem c_sign_105 {u : Mem} {S : Nat → Int32} (hS : u 9 = S) (k6 : Int32 → Int32 → Int32 → Mem → Option (Int32 × Mem)) {a l b : Nat} {x : Int32} (P : Wt) (hb : a < b) (hb4 : b ≤ 400) (e : S a = x) (hx : x < -9) : FX4_run_8_105_b6 k6 (nI b) (nI l) (nI a) (mset u 14 P) = FX4_run_8_105_b102 k6 (nI b) (nI l) (nI a) x (mset u 14 P) := by
  unfold FX4_run_8_105_b6
  rw [if_neg (nI_pos (by omega)), if_neg (by rw [nn_le (by omega) (by omega)]; omega), if_neg (by rw [li_le (by decide) (by omega)]; show ¬ 400 ≤ a; omega), r_ok (by omega) (by omega), b_some, ms_ne (by decide), hS, e, if_pos hx]
theorem c_two_105 {u : Mem} (k6 : Int32 → Int32 → Int32 → Mem → Option (Int32 × Mem)) {a l b : Nat} {x : Int32} (P : Wt) (hl : l + 2 ≤ 32) (hx : x ≠ -19) : FX4_run_8_105_b102 k6 (nI b) (nI (l + 2)) (nI a) x (mset u 14 P) = FX4_run_8_105_b178 k6 (nI b) (nI (l + 1)) (nI a) x (P l) (P (l + 1)) (mset u 14 P) := by
  unfold FX4_run_8_105_b102 FX4_run_8_105_b116 FX4_run_8_105_b147
  rw [if_neg hx, if_neg (by rw [lt_li (by decide) (by omega)]; show ¬ l + 2 < 2; omega), if_pos (by rw [le_li (by decide) (by omega)]; exact hl), if_neg hx, nI_pred, nI_pred, r_ok (by omega) (by omega), b_some, if_neg hx, r_ok (by omega) (by omega), b_some, ms_eq]
set_option maxHeartbeats 1000000 in
theorem c_run_105 {u : Mem} {f : Nat → Int32} (hf : ∀ s, 1 ≤ s → s ≤ 9 → u 105 (s - 1) = f s) : ∀ (os : List (Nat × Nat)) (a F : Nat) (st : List Int32) (P : Wt), a + encL os ≤ 400 → encL os < F → encAt (u 9) a os → stk P st → wfO os st.length 1 → ∃ P', FX4_run_8_105_L6 F (nI (a + encL os)) (nI st.length) (nI a) (mset u 14 P) = some ((evO f os st).headD 0, mset u 14 P') := by
  intro os
  induction os with
  | nil =>
    intro a F st P hp hF hok hs hwf
    obtain ⟨F, rfl⟩ : ∃ F', F = F' + 1 := ⟨F - 1, by omega⟩
    have hl : st.length = 1 := hwf
    refine ⟨P, ?_⟩
    have ha : encL [] = 0 := rfl
    show FX4_run_8_105_b6 _ _ _ _ _ = _
    unfold FX4_run_8_105_b6 FX4_run_8_105_b375
    rw [ha, if_neg (nI_pos (by omega)), if_pos (by rw [nn_le (by omega) (by omega)]; omega), hl, if_neg (by decide), if_neg (by decide), show nI 1 - 1 = nI 0 by decide, r_ok (by omega) (by omega), b_some, ms_eq]
    match st, hl, hs with
    | [x], _, hs => rw [show P 0 = x from hs.1]; rfl
  | cons o os ih =>
    intro a F st P hp hF hok hs hwf
    obtain ⟨F, rfl⟩ : ∃ F', F = F' + 1 := ⟨F - 1, by omega⟩
    obtain ⟨d', ⟨hd, hc⟩, hwf'⟩ := hwf
    obtain ⟨h1, h2⟩ := hok
    obtain ⟨s, v⟩ := o
    have el : encL ((s, v) :: os) = enc1 (s, v) + encL os := rfl
    have ev : evO f ((s, v) :: os) st = evO f os (ev1 f (s, v) st) := rfl
    rw [ev]
    show ∃ P', FX4_run_8_105_b6 _ _ _ _ _ = some (_, _)
    rcases hc with ⟨c, c2, c3, rfl⟩ | ⟨c, c2, c3, rfl⟩ | ⟨c, c1, c2, c3, c4, rfl⟩ | ⟨c, c3, rfl⟩ | ⟨c, c3, c4⟩
    · have c : s = 0 := c
      subst c
      have e1 : enc1 (0, v) = 1 := rfl
      have h1 : u 9 a = nI v := h1
      rw [e1] at h2 el
      rw [el] at hp hF ⊢
      rw [c_push_105 rfl _ P c3 (by omega) hp c2 h1, ← Nat.add_assoc]
      exact ih (a + 1) F (nI v :: st) _ (by omega) (by omega) h2 (stk_push _ hs) hwf'
    · have c : 1 ≤ s := c
      have c2 : s ≤ 9 := c2
      have e1 : enc1 (s, v) = 1 := by unfold enc1; rw [if_neg (by show ¬ s = 26; omega)]
      have h1 : u 9 a = -(nI s) := by
        rw [if_neg (by show ¬ s = 0; omega), if_neg (by show ¬ s = 26; omega)] at h1
        rw [h1]; unfold cod; rw [if_pos (by show s < 23; omega)]
      have ee : ev1 f (s, v) st = u 105 (s - 1) :: st := by
        unfold ev1
        rw [if_neg (by show ¬ s = 0; omega), if_pos (by show s < 23; omega), hf s c c2]
      rw [e1] at h2 el
      rw [el] at hp hF ⊢
      rw [c_name_105 rfl _ P c3 (by omega) hp c c2 h1, ← Nat.add_assoc, ee]
      exact ih (a + 1) F (u 105 (s - 1) :: st) _ (by omega) (by omega) h2 (stk_push _ hs) hwf'
    · have c : s = 26 := c
      subst c
      have c1 : 1 ≤ v := c1
      have c2 : v ≤ 9999 := c2
      have e1 : enc1 (26, v) = 2 := rfl
      have h1 : u 9 a = nI v ∧ u 9 (a + 1) = -13 := h1
      rw [e1] at h2 el
      rw [el] at hp hF ⊢
      match st, hs, c3, c4, hd, hwf' with
      | x :: t, hs, c3, c4, hd, hwf' =>
        have hl : (x :: t).length = t.length + 1 := rfl
        have q1 : P t.length = x := hs.1
        obtain ⟨F, rfl⟩ : ∃ F', F = F' + 1 := ⟨F - 1, by omega⟩
        rw [c_push_105 rfl _ P c4 (by omega) hp c2 h1.1, hl]
        show ∃ P', FX4_run_8_105_b6 _ _ _ _ _ = some (_, _)
        rw [c_sign_105 rfl _ _ (by omega) hp h1.2 (by decide), c_two_105 _ _ (by omega) (by decide), up_eq, up_ne (by omega), q1]
        unfold FX4_run_8_105_b178 FX4_run_8_105_b276 FX4_run_8_105_b358 FX4_run_8_105_b369 dvI
        rw [if_neg (by decide), if_neg (by decide), if_neg (by decide), if_neg (by decide), if_neg (by decide), if_pos rfl, if_neg (nI_nle (by omega) (by omega)), if_neg (nI_ne0 (by omega) (by omega)), b_some, nI_pred, w_ok (by omega) (by omega), b_some, mu_ms, nI_1, show a + (2 + encL os) = a + 1 + 1 + encL os by omega]
        exact ih (a + 1 + 1) F ((x / nI v) :: t) _ (by omega) (by omega) h2 (stk_push _ (stk_up (by omega) hs.2)) hwf'
    · have c : s = 30 := c
      subst c
      have e1 : enc1 (30, v) = 1 := rfl
      have h1 : u 9 a = -19 := h1
      rw [e1] at h2 el
      rw [el] at hp hF ⊢
      match st, hs, c3, hd, hwf' with
      | x :: t, hs, c3, hd, hwf' =>
        have hl : (x :: t).length = t.length + 1 := rfl
        have q1 : P t.length = x := hs.1
        rw [c_sign_105 rfl _ _ (by omega) hp h1 (by decide), hl]
        unfold FX4_run_8_105_b102 FX4_run_8_105_b116 FX4_run_8_105_b147
        rw [if_pos rfl, if_neg (by rw [lt_li (by decide) (by omega)]; show ¬ t.length + 1 < 1; omega), if_pos (by rw [le_li (by decide) (by omega)]; exact hd), if_pos rfl, nI_pred, r_ok (by omega) (by omega), b_some, if_pos rfl, ms_eq, q1]
        unfold FX4_run_8_105_b178 FX4_run_8_105_b358 FX4_run_8_105_b369
        rw [if_neg (by decide), if_neg (by decide), if_neg (by decide), if_neg (by decide), if_neg (by decide), if_neg (by decide), if_neg (by decide), if_neg (by decide), if_neg (by decide), nI_pred, w_ok (by omega) (by omega), b_some, mu_ms, nI_1, ← Nat.add_assoc]
        exact ih (a + 1) F ((1 - x) :: t) _ (by omega) (by omega) h2 (stk_push _ hs.2) hwf'
    · have c : s = 23 ∨ s = 24 ∨ s = 25 ∨ s = 27 ∨ s = 28 ∨ s = 29 ∨ s = 31 ∨ s = 32 := c
      have e1 : enc1 (s, v) = 1 := by unfold enc1; rw [if_neg (by show ¬ s = 26; omega)]
      have h1 : u 9 a = cod s := by
        rw [if_neg (by show ¬ s = 0; omega), if_neg (by show ¬ s = 26; omega)] at h1
        exact h1
      rw [e1] at h2 el
      rw [el] at hp hF ⊢
      match st, hs, c3, c4, hd, hwf' with
      | y :: x :: t, hs, c3, c4, hd, hwf' =>
        have hl : (y :: x :: t).length = t.length + 2 := rfl
        have q1 : P (t.length + 1) = y := hs.1
        have q2 : P t.length = x := hs.2.1
        have ee : ev1 f (s, v) (y :: x :: t) = cmp2 s x y :: t := by
          unfold ev1
          rw [if_neg (by show ¬ s = 0; omega), if_neg (by show ¬ s < 23; omega), if_neg (by show ¬ s = 26; omega), if_neg (by show ¬ s = 30; omega)]
          rfl
        have hd' : d' = (cmp2 s x y :: t).length := by show d' = t.length + 1; have : (y :: x :: t).length = t.length + 2 := rfl; omega
        rw [hd'] at hwf'
        rw [c_sign_105 rfl _ _ (by omega) hp h1 (cod_lo s (by omega) (by omega)), hl, c_two_105 _ _ (by omega) (cod_19 s (by omega) (by omega) (by omega)), q1, q2, c_bin_105 s c, ee]
        unfold FX4_run_8_105_b358 FX4_run_8_105_b369
        rw [nI_pred, w_ok (by omega) (by omega), b_some, mu_ms, nI_1, ← Nat.add_assoc]
        exact ih (a + 1) F (cmp2 s x y :: t) _ (by omega) (by omega) h2 (stk_push _ hs.2.2) hwf'

