/-! the meaning: lemmas on numbers, reads, loops -/
abbrev Wt : Type := Nat → Int32
theorem b_some {α β : Type} (a : α) (f : α → Option β) : (some a).bind f = f a := rfl
theorem b2_some {β : Type} (a : Int32) (u : Mem) (f : Int32 → Mem → Option β) : bnd2 (some (a, u)) f = f a u := rfl
theorem r_ok {u : Mem} {a n k : Nat} (h : k < n) (hn : n < 2147483648) : rdA u a n (nI k) = some (u a k) := by
  unfold rdA; rw [if_neg (nI_in h (by omega)), nI_clamp (by omega)]
theorem w_ok {u : Mem} {a n k : Nat} {x : Int32} (h : k < n) (hn : n < 2147483648) : wrA u a n (nI k) x = some (mupd u a k x) := by
  unfold wrA; rw [if_neg (nI_in h (by omega)), nI_clamp (by omega)]
theorem r_li {u : Mem} {a n k : Nat} (h : (OfNat.ofNat k : Nat) < n) (hn : n < 2147483648) : rdA u a n (OfNat.ofNat k : Int32) = some (u a (OfNat.ofNat k : Nat)) := r_ok (k := k) h hn
theorem w_li {u : Mem} {a n k : Nat} {x : Int32} (h : (OfNat.ofNat k : Nat) < n) (hn : n < 2147483648) : wrA u a n (OfNat.ofNat k : Int32) x = some (mupd u a (OfNat.ofNat k : Nat) x) := w_ok (k := k) h hn
theorem m_eq (u : Mem) (a k : Nat) (x : Int32) : mupd u a k x a = upd (u a) k x := by simp [mupd]
theorem m_ne {u : Mem} {a k : Nat} {x : Int32} {b : Nat} (h : b ≠ a) : mupd u a k x b = u b := by simp [mupd, h]
theorem ms_eq (u : Mem) (a : Nat) (f : Wt) : mset u a f a = f := by simp [mset]
theorem ms_ne {u : Mem} {a : Nat} {f : Wt} {b : Nat} (h : b ≠ a) : mset u a f b = u b := by simp [mset, h]
theorem up_eq (f : Wt) (k : Nat) (x : Int32) : upd f k x k = x := by simp [upd]
theorem up_ne {f : Wt} {k j : Nat} {x : Int32} (h : j ≠ k) : upd f k x j = f j := by simp [upd, h]
theorem li_add (k m : Nat) : (OfNat.ofNat k : Int32) + nI m = nI ((OfNat.ofNat k : Nat) + m) := nI_add k m
theorem add_li (k m : Nat) : nI m + (OfNat.ofNat k : Int32) = nI (m + (OfNat.ofNat k : Nat)) := nI_add m k
theorem nI_mul (a b : Nat) : nI a * nI b = nI (a * b) := (Int32.ofNat_mul a b).symm
theorem li_mul (k m : Nat) : (OfNat.ofNat k : Int32) * nI m = nI ((OfNat.ofNat k : Nat) * m) := nI_mul k m
theorem mul_li (k m : Nat) : nI m * (OfNat.ofNat k : Int32) = nI (m * (OfNat.ofNat k : Nat)) := nI_mul m k
theorem nI_sub {a b : Nat} (h : b ≤ a) : nI a - nI b = nI (a - b) := by
  have h1 : nI a = nI (a - b) + nI b := by rw [nI_add]; congr 1; omega
  rw [h1, Int32.add_sub_cancel]
theorem sub_li {k m : Nat} (h : (OfNat.ofNat k : Nat) ≤ m) : nI m - (OfNat.ofNat k : Int32) = nI (m - (OfNat.ofNat k : Nat)) := nI_sub (b := k) h
theorem li_sub {k m : Nat} (h : m ≤ (OfNat.ofNat k : Nat)) : (OfNat.ofNat k : Int32) - nI m = nI ((OfNat.ofNat k : Nat) - m) := nI_sub (a := k) h
theorem li_le {k m : Nat} (hk : (OfNat.ofNat k : Nat) < 2147483648) (hm : m < 2147483648) : ((OfNat.ofNat k : Int32) ≤ nI m) = ((OfNat.ofNat k : Nat) ≤ m) := propext (nI_leI (a := k) hk hm)
theorem le_li {k m : Nat} (hk : (OfNat.ofNat k : Nat) < 2147483648) (hm : m < 2147483648) : (nI m ≤ (OfNat.ofNat k : Int32)) = (m ≤ (OfNat.ofNat k : Nat)) := propext (nI_leI (b := k) hm hk)
theorem li_lt {k m : Nat} (hk : (OfNat.ofNat k : Nat) < 2147483648) (hm : m < 2147483648) : ((OfNat.ofNat k : Int32) < nI m) = ((OfNat.ofNat k : Nat) < m) := propext (nI_ltI (a := k) hk hm)
theorem lt_li {k m : Nat} (hk : (OfNat.ofNat k : Nat) < 2147483648) (hm : m < 2147483648) : (nI m < (OfNat.ofNat k : Int32)) = (m < (OfNat.ofNat k : Nat)) := propext (nI_ltI (b := k) hm hk)
theorem eq_li {k m : Nat} (hk : (OfNat.ofNat k : Nat) < 2147483648) (hm : m < 2147483648) : (nI m = (OfNat.ofNat k : Int32)) = (m = (OfNat.ofNat k : Nat)) := propext (nI_eq (b := k) hm hk)
theorem li_eq {k m : Nat} (hk : (OfNat.ofNat k : Nat) < 2147483648) (hm : m < 2147483648) : ((OfNat.ofNat k : Int32) = nI m) = ((OfNat.ofNat k : Nat) = m) := propext (nI_eq (a := k) hk hm)
theorem nn_le {a b : Nat} (ha : a < 2147483648) (hb : b < 2147483648) : (nI a ≤ nI b) = (a ≤ b) := propext (nI_leI ha hb)
theorem nn_lt {a b : Nat} (ha : a < 2147483648) (hb : b < 2147483648) : (nI a < nI b) = (a < b) := propext (nI_ltI ha hb)
theorem nn_eq {a b : Nat} (ha : a < 2147483648) (hb : b < 2147483648) : (nI a = nI b) = (a = b) := propext (nI_eq ha hb)
theorem nI_m1 {m : Nat} (h : m < 2147483648) : nI m ≠ -1 := by
  intro e
  have h1 := nI_toInt h
  rw [e] at h1
  have h2 : (-1 : Int32).toInt = -1 := by decide
  omega
theorem nn_m1 {m : Nat} (h : m < 2147483648) : (nI m = -1) = False := eq_false (nI_m1 h)
theorem b1_ne (p : Prop) [Decidable p] : ((if p then (1 : Int32) else 0) = 0) = ¬ p := by
  by_cases h : p <;> simp [h]
theorem b1_eq (p : Prop) [Decidable p] : ((if p then (1 : Int32) else 0) = 1) = p := by
  by_cases h : p <;> simp [h]
theorem i_le (a b : Int32) : (a ≤ b) = ¬ (b < a) := by rw [Int32.not_lt]
def fo {α : Type} : Nat → (Nat → α → α) → α → α
  | 0, _, a => a
  | n + 1, f, a => f n (fo n f a)
theorem fo_0 {α : Type} (f : Nat → α → α) (a : α) : fo 0 f a = a := rfl
theorem fo_s {α : Type} (n : Nat) (f : Nat → α → α) (a : α) : fo (n + 1) f a = f n (fo n f a) := rfl
theorem fo_congr {α : Type} {f g : Nat → α → α} {a : α} : ∀ {n : Nat}, (∀ i s, i < n → f i s = g i s) → fo n f a = fo n g a
  | 0, _ => rfl
  | n + 1, h => by rw [fo_s, fo_s, fo_congr (fun i s hi => h i s (by omega)), h n _ (by omega)]
theorem fo_inv {α : Type} {f : Nat → α → α} {a : α} (P : Nat → α → Prop) (h0 : P 0 a) : ∀ (n : Nat), (∀ i s, i < n → P i s → P (i + 1) (f i s)) → P n (fo n f a)
  | 0, _ => h0
  | n + 1, h => h n _ (by omega) (fo_inv P h0 n (fun i s hi => h i s (by omega)))
/-- a loop of values: its states are known -/
theorem lp_v {S R : Type} (L : Nat → Int32 → S → Option R) (n : Nat) (st : Nat → S) (o : Option R) (hs : ∀ i F, i < n → L (F + 1) (nI i) (st i) = L F (nI (i + 1)) (st (i + 1))) (he : ∀ F, L (F + 1) (nI n) (st n) = o) : ∀ F, n < F → L F (nI 0) (st 0) = o := by
  have h : ∀ (k F i : Nat), i + k = n → k < F → L F (nI i) (st i) = o := by
    intro k
    induction k with
    | zero =>
      intro F i hi hF
      obtain ⟨F', rfl⟩ : ∃ F', F = F' + 1 := ⟨F - 1, by omega⟩
      have hi' : i = n := by omega
      rw [hi']; exact he F'
    | succ k ih =>
      intro F i hi hF
      obtain ⟨F', rfl⟩ : ∃ F', F = F' + 1 := ⟨F - 1, by omega⟩
      rw [hs i F' (by omega)]
      exact ih F' (i + 1) (by omega) (by omega)
  intro F hF
  exact h n F 0 (by omega) hF
/-- a loop with an invariant, that may be left early -/
theorem lp_r {S R : Type} (L : Nat → Int32 → S → Option R) (n : Nat) (I : Nat → S → Prop) (Q : Option R → Prop) (hs : ∀ i s, i < n → I i s → (∃ s', I (i + 1) s' ∧ ∀ F, L (F + 1) (nI i) s = L F (nI (i + 1)) s') ∨ (∀ F, Q (L (F + 1) (nI i) s))) (he : ∀ s, I n s → ∀ F, Q (L (F + 1) (nI n) s)) : ∀ (F i : Nat) (s : S), i ≤ n → n - i < F → I i s → Q (L F (nI i) s) := by
  have h : ∀ (k F i : Nat) (s : S), i + k = n → k < F → I i s → Q (L F (nI i) s) := by
    intro k
    induction k with
    | zero =>
      intro F i s hi hF hI
      obtain ⟨F', rfl⟩ : ∃ F', F = F' + 1 := ⟨F - 1, by omega⟩
      have hi' : i = n := by omega
      rw [hi'] at hI ⊢; exact he s hI F'
    | succ k ih =>
      intro F i s hi hF hI
      obtain ⟨F', rfl⟩ : ∃ F', F = F' + 1 := ⟨F - 1, by omega⟩
      rcases hs i s (by omega) hI with ⟨s', hI', e⟩ | hq
      · rw [e F']; exact ih F' (i + 1) s' (by omega) (by omega) hI'
      · exact hq F'
  intro F i s hi hF hI
  exact h (n - i) F i s (by omega) (by omega) hI
/-- two loops, side by side -/
theorem lp_2 {S T R R' : Type} (L : Nat → Int32 → S → Option R) (M : Nat → Int32 → T → Option R') (n : Nat) (I : Nat → S → T → Prop) (Q : Option R → Option R' → Prop) (hs : ∀ i s t, i < n → I i s t → (∃ s' t', I (i + 1) s' t' ∧ (∀ F, L (F + 1) (nI i) s = L F (nI (i + 1)) s') ∧ ∀ F, M (F + 1) (nI i) t = M F (nI (i + 1)) t') ∨ (∀ F F', Q (L (F + 1) (nI i) s) (M (F' + 1) (nI i) t))) (he : ∀ s t, I n s t → ∀ F F', Q (L (F + 1) (nI n) s) (M (F' + 1) (nI n) t)) : ∀ (F F' i : Nat) (s : S) (t : T), i ≤ n → n - i < F → n - i < F' → I i s t → Q (L F (nI i) s) (M F' (nI i) t) := by
  have h : ∀ (k F F' i : Nat) (s : S) (t : T), i + k = n → k < F → k < F' → I i s t → Q (L F (nI i) s) (M F' (nI i) t) := by
    intro k
    induction k with
    | zero =>
      intro F F' i s t hi hF hF' hI
      obtain ⟨F1, rfl⟩ : ∃ F1, F = F1 + 1 := ⟨F - 1, by omega⟩
      obtain ⟨F2, rfl⟩ : ∃ F2, F' = F2 + 1 := ⟨F' - 1, by omega⟩
      have hi' : i = n := by omega
      rw [hi'] at hI ⊢; exact he s t hI F1 F2
    | succ k ih =>
      intro F F' i s t hi hF hF' hI
      obtain ⟨F1, rfl⟩ : ∃ F1, F = F1 + 1 := ⟨F - 1, by omega⟩
      obtain ⟨F2, rfl⟩ : ∃ F2, F' = F2 + 1 := ⟨F' - 1, by omega⟩
      rcases hs i s t (by omega) hI with ⟨s', t', hI', e, e'⟩ | hq
      · rw [e F1, e' F2]; exact ih F1 F2 (i + 1) s' t' (by omega) (by omega) (by omega) hI'
      · exact hq F1 F2
  intro F F' i s t hi hF hF' hI
  exact h (n - i) F F' i s t (by omega) (by omega) (by omega) hI
/-- a number of a row, or none -/
theorem nI_ex (n : Nat) (p : Int32) : (∃ k, k < n ∧ p = nI k) ∨ (p < 0 ∨ (n < 2147483648 → nI n ≤ p)) := by
  by_cases h : p < 0
  · exact Or.inr (Or.inl h)
  · obtain ⟨j, hj, rfl⟩ := nI_of h
    by_cases h1 : j < n
    · exact Or.inl ⟨j, h1, rfl⟩
    · exact Or.inr (Or.inr (fun hn => by rw [nn_le hn hj]; omega))
theorem lt0_n {p : Int32} (h : p < 0) {m : Nat} (hm : m < 2147483648) : p < nI m := by
  rw [Int32.lt_iff_toInt_lt] at h ⊢
  rw [nI_toInt hm]
  have h2 : (0 : Int32).toInt = 0 := by decide
  omega
theorem nI_shm {k : Nat} (h : k < 32) : nI k &&& 31 = nI k := by
  have : ∀ j, j < 32 → nI j &&& 31 = nI j := by decide +kernel
  exact this k h
/-- bits -/
def tb (s : Int32) (k : Nat) : Bool := s.toBitVec.getLsbD k
theorem tb_or (a b : Int32) (k : Nat) : tb (a ||| b) k = (tb a k || tb b k) := by simp [tb]
theorem tb_and (a b : Int32) (k : Nat) : tb (a &&& b) k = (tb a k && tb b k) := by simp [tb]
theorem tb_xor (a b : Int32) (k : Nat) : tb (a ^^^ b) k = (tb a k ^^ tb b k) := by simp [tb]
theorem tb_0 (k : Nat) : tb 0 k = false := by simp [tb]
theorem tb_m1 {k : Nat} (h : k < 32) : tb (-1) k = true := by
  have : ∀ j, j < 32 → tb (-1) j = true := by decide +kernel
  exact this k h
theorem tb_1s {j k : Nat} (hj : j < 32) (hk : k < 32) : tb (1 <<< nI j) k = decide (k = j) := by
  have : ∀ j, j < 32 → ∀ k, k < 32 → tb (1 <<< nI j) k = decide (k = j) := by decide +kernel
  exact this j hj k hk
theorem tb_ext {a b : Int32} (h : ∀ k, k < 32 → tb a k = tb b k) : a = b := by
  apply Int32.toBitVec_inj.mp
  apply BitVec.eq_of_getLsbD_eq
  intro i hi
  exact h i hi
theorem tb_shr {s : Int32} {k j : Nat} (hj : j + k < 32) : tb (s >>> nI k) j = tb s (k + j) := by
  have h1 : ∀ k, k < 32 → ((nI k).toBitVec.smod 32).toNat = k := by decide +kernel
  unfold tb
  rw [Int32.toBitVec_shiftRight, BitVec.sshiftRight', h1 k (by omega), BitVec.getLsbD_sshiftRight]
  have h2 : ¬ 32 ≤ j := by omega
  have h3 : k + j < 32 := by omega
  simp [h2, h3]
theorem tb_one (i : Nat) : tb 1 i = decide (i = 0) := by
  by_cases h : i < 32
  · have : ∀ i, i < 32 → tb 1 i = decide (i = 0) := by decide +kernel
    exact this i h
  · have h2 : tb 1 i = false := BitVec.getLsbD_of_ge _ _ (by omega)
    rw [h2]; symm; apply decide_eq_false; omega
theorem bit1 (s : Int32) {k : Nat} (h : k < 32) : ((s >>> (nI k &&& 31)) &&& 1) = if tb s k = true then 1 else 0 := by
  rw [nI_shm h]
  apply tb_ext
  intro i hi
  rw [tb_and, tb_one]
  by_cases h0 : i = 0
  · subst h0
    rw [tb_shr (by omega)]
    cases h1 : tb s k <;> simp [h1, tb_0, tb_one]
  · cases h1 : tb s k <;> simp [h0, tb_0, tb_one]
theorem bit_1 (s : Int32) {k : Nat} (h : k < 32) : (((s >>> (nI k &&& 31)) &&& 1) = 1) = (tb s k = true) := by
  rw [bit1 s h, b1_eq]
theorem bit_0 (s : Int32) {k : Nat} (h : k < 32) : (((s >>> (nI k &&& 31)) &&& 1) = 0) = ¬ (tb s k = true) := by
  rw [bit1 s h, b1_ne]
theorem tb_nI (j : Nat) {k : Nat} (h : k < 32) : tb (nI j) k = j.testBit k := by
  have e : (nI j).toBitVec = BitVec.ofNat 32 j := rfl
  unfold tb
  rw [e, BitVec.getLsbD_ofNat]
  simp [h]
def pc (s : Int32) : Nat := fo 16 (fun k c => c + if tb s k = true then 1 else 0) 0
theorem pc_le (s : Int32) : pc s ≤ 16 := by
  refine fo_inv (fun i c => c ≤ i) (Nat.le_refl _) 16 (fun i c _ h => ?_)
  show c + _ ≤ i + 1
  split <;> omega

