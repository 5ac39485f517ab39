/-! march -/
def pk (s : Int32) (k : Nat) : Nat := fo k (fun k c => c + if tb s k = true then 1 else 0) 0
theorem pk_up {j n : Nat} (hj : j < 2 ^ n) : ∀ (d : Nat), n + d ≤ 32 → pk (nI j) (n + d) = pk (nI j) n
  | 0, _ => rfl
  | d + 1, h => by
    show pk (nI j) (n + d) + (if tb (nI j) (n + d) = true then 1 else 0) = _
    rw [pk_up hj d (by omega), tb_nI j (by omega), Nat.testBit_lt_two_pow (Nat.lt_of_lt_of_le hj (Nat.pow_le_pow_right (by omega) (by omega)))]
    rfl
theorem pc_pk {j n : Nat} (hn : n ≤ 16) (hj : j < 2 ^ n) : pc (nI j) = pk (nI j) n := by
  have h := pk_up hj (16 - n) (by omega)
  rw [show n + (16 - n) = 16 by omega] at h
  exact h
def mv (led : Nat) (row : Int32) : Nat → Nat → Nat → Option Nat
  | 0, br, left => if left = 0 then some br else none
  | k + 1, br, left => if tb row k = true then (if min left led = 0 then none else if 5 * min left led ≤ br then mv led row k (br - 5 * min left led) (left - min left led) else none) else mv led row k (min (br + 10) 99) left
def cvB (led : Nat) (row : Int32) : Nat → Nat → Nat → Option Nat
  | 0, br, _ => some br
  | k + 1, br, left => if tb row k = true then (if 5 * min left led ≤ br then cvB led row k (br - 5 * min left led) (left - min left led) else none) else cvB led row k (min (br + 10) 99) left
def ov : Option Nat → Int32
  | none => -1
  | some x => nI x
theorem ceil_s {left led : Nat} (h1 : 0 < left) (h2 : 0 < led) : (left + led - 1) / led = (left - min left led + led - 1) / led + 1 := by
  have e : left + led - 1 = left - 1 + led := by omega
  rw [e, Nat.add_div_right _ h2]
  congr 1
  by_cases c : left ≤ led
  · rw [Nat.min_eq_left c, Nat.sub_self, Nat.zero_add, Nat.div_eq_of_lt (by omega), Nat.div_eq_of_lt (by omega)]
  · rw [Nat.min_eq_right (by omega), show left - led + led - 1 = left - 1 by omega]
theorem mv_cvB {led : Nat} (hl : 0 < led) (row : Int32) : ∀ (k br left : Nat), mv led row k br left = if pk row k = (left + led - 1) / led then cvB led row k br left else none
  | 0, br, left => by
    show (if left = 0 then some br else none) = if 0 = (left + led - 1) / led then some br else none
    by_cases c : left = 0
    · rw [if_pos c, if_pos]
      rw [c, Nat.zero_add, Nat.div_eq_of_lt (by omega)]
    · rw [if_neg c, if_neg]
      rw [ceil_s (left := left) (led := led) (by omega) hl]
      intro h; exact absurd h.symm (Nat.succ_ne_zero _)
  | k + 1, br, left => by
    have hp : pk row (k + 1) = pk row k + if tb row k = true then 1 else 0 := rfl
    unfold mv cvB
    rw [hp]
    by_cases c : tb row k = true
    · simp only [if_pos c]
      by_cases z : left = 0
      · rw [if_pos (by rw [z]; omega), if_neg]
        rw [z, Nat.zero_add, Nat.div_eq_of_lt (by omega)]; omega
      · rw [if_neg (by omega)]
        by_cases y : 5 * min left led ≤ br
        · rw [if_pos y, if_pos y, mv_cvB hl row k, ceil_s (left := left) (led := led) (by omega) hl]
          by_cases x : pk row k = (left - min left led + led - 1) / led
          · rw [if_pos x, if_pos (by rw [x])]
          · rw [if_neg x, if_neg (fun h => x (Nat.succ.inj h))]
        · rw [if_neg y, if_neg y, ite_self]
    · simp only [if_neg c, Nat.add_zero]
      exact mv_cvB hl row k _ _
theorem lesser_n {a b : Nat} (ha : a < 2147483648) (hb : b < 2147483648) : FX12_lesser (nI a) (nI b) = some (nI (min a b)) := by
  unfold FX12_lesser
  by_cases c : b ≤ a
  · rw [if_pos (by rw [nn_le hb ha]; exact c), Nat.min_eq_right c]
  · rw [if_neg (by rw [nn_le hb ha]; exact c), Nat.min_eq_left (by omega)]
theorem nI_0le {k : Nat} (h : k < 2147483648) : (0 : Int32) ≤ nI k := by rw [show (0 : Int32) = nI 0 from nI_0.symm, nn_le (by omega) h]; omega
theorem neg_sub {a b : Nat} (h : a < b) (ha : a < 1000000) (hb : b < 1000000) : ¬ (0 : Int32) ≤ nI a - nI b := by
  rw [Int32.le_iff_toInt_le, nI_subI ha hb]
  have h2 : (0 : Int32).toInt = 0 := by decide
  rw [h2]; omega
theorem m_marched {u : Mem} {W : Wt} (hu : u 147 = W) {m led n : Nat} (hm : m < 12) (hn : n ≤ 12) (hl : W (114 + m) = nI led) (hl9 : led ≤ 9) (row : Int32) : ∀ (k i F br left : Nat), k + i = n → k < F → br ≤ 99 → left ≤ 15 → FX12_marched_146_L16 F (nI m) (nI n) row (nI br) (nI left) (nI i) u = some (ov (mv led row k br left)) := by
  intro k
  induction k with
  | zero =>
    intro i F br left hi hF hb hle
    obtain ⟨f, rfl⟩ : ∃ f, F = f + 1 := ⟨F - 1, by omega⟩
    show FX12_marched_146_b16 _ _ _ _ _ _ _ _ = _
    unfold FX12_marched_146_b16 mv
    rw [if_pos (by rw [nn_le (by omega) (by omega)]; omega)]
    by_cases c : left = 0
    · rw [if_pos (by rw [c]; rfl), if_pos c]; rfl
    · rw [if_neg (by rw [show (0 : Int32) = nI 0 from nI_0.symm, nn_eq (by omega) (by omega)]; exact c), if_neg c]; rfl
  | succ k ih =>
    intro i F br left hi hF hb hle
    obtain ⟨f, rfl⟩ : ∃ f, F = f + 1 := ⟨F - 1, by omega⟩
    show FX12_marched_146_b16 _ _ _ _ _ _ _ _ = _
    unfold FX12_marched_146_b16 mv FX12_marched_146_b95
    have e1 : (nI n - 1) - nI i = nI k := by
      rw [show nI n - 1 = nI (n - 1) from sub_li (k := 1) (by show 1 ≤ n; omega), nI_sub (by omega), show n - 1 - i = k by omega]
    rw [if_neg (by rw [nn_le (by omega) (by omega)]; omega), e1]
    by_cases c : tb row k = true
    · rw [if_neg (by rw [bit_0 _ (by omega)]; exact fun h => h c), if_pos c, rl (by show 114 + m < _; omega) (by omega)]
      show ((FX12_lesser (nI left) (u 147 (114 + m))).bind _) = _
      rw [hu, hl, lesser_n (by omega) (by omega), b_some]
      have hmin : min left led ≤ 9 := by omega
      have hsl : min left led ≤ left := Nat.min_le_left _ _
      generalize min left led = s at hmin hsl
      by_cases z : s = 0
      · rw [if_pos (by rw [z]; rfl), if_pos z]; rfl
      · rw [if_neg (by rw [show (0 : Int32) = nI 0 from nI_0.symm, nn_eq (by omega) (by omega)]; exact z), if_neg z, li_mul]
        show (if 0 ≤ nI br - nI (5 * s) then _ else _) = _
        by_cases y : 5 * s ≤ br
        · rw [if_pos y, nI_sub y, nI_sub hsl, if_pos (nI_0le (by omega)), show nI i + 1 = nI (i + 1) from nI_1 i]
          exact ih (i + 1) f _ _ (by omega) (by omega) (by omega) (by omega)
        · rw [if_neg y, if_neg (neg_sub (by omega) (by omega) (by omega))]; rfl
    · rw [if_pos (by rw [bit_0 _ (by omega)]; exact c), if_neg c, add_li, show (99 : Int32) = nI 99 by decide]
      show ((FX12_lesser (nI 99) (nI (br + 10))).bind _) = _
      rw [lesser_n (by omega) (by omega), b_some, Nat.min_comm, show nI i + 1 = nI (i + 1) from nI_1 i]
      exact ih (i + 1) f _ _ (by omega) (by omega) (by omega) hle
theorem c_behind {u : Mem} {W : Wt} (hC : CR 23 u W) {m led : Nat} (hm : m < 12) (hl : W (114 + m) = nI led) (hl9 : led ≤ 9) (row : Int32) : ∀ (k F br left : Nat), k ≤ 12 → k + 1 < F → br ≤ 99 → left ≤ 15 → FX7_breathBehind_106_L19 F (nI m) row (nI br) (nI left) (nI k - 1) u = some (ov (cvB led row k br left)) := by
  intro k
  induction k with
  | zero =>
    intro F br left hk hF hb hle
    obtain ⟨f, rfl⟩ : ∃ f, F = f + 1 := ⟨F - 1, by omega⟩
    show FX7_breathBehind_106_b19 _ _ _ _ _ _ _ = _
    unfold FX7_breathBehind_106_b19 FX7_breathBehind_106_b92 cvB
    rw [if_pos (by decide), if_pos (nI_0le (by omega))]; rfl
  | succ k ih =>
    intro F br left hk hF hb hle
    obtain ⟨f, rfl⟩ : ∃ f, F = f + 1 := ⟨F - 1, by omega⟩
    have e1 : nI (k + 1) - 1 = nI k := by
      rw [show nI (k + 1) - 1 = nI (k + 1 - 1) from sub_li (k := 1) (by show 1 ≤ k + 1; omega), Nat.add_sub_cancel]
    rw [e1]
    show FX7_breathBehind_106_b19 _ _ _ _ _ _ _ = _
    unfold FX7_breathBehind_106_b19 FX7_breathBehind_106_b86 cvB
    rw [if_neg (nI_pos (by omega)), if_neg (nI_pos (by omega)), holds_b _ (by omega), b_some, ← Int32.sub_eq_add_neg]
    by_cases c : tb row k = true
    · rw [if_pos c, if_pos c, if_neg z1, rb hm (by omega), gle hC hm, hl]
      have es : (if nI led < nI left then nI led else nI left) = nI (min left led) := by rw [nI_min (by omega) (by omega), Nat.min_comm]
      rw [es]
      have hmin : min left led ≤ 9 := by omega
      have hsl : min left led ≤ left := Nat.min_le_left _ _
      generalize min left led = s at hmin hsl
      rw [li_mul, nI_sub hsl]
      show FX7_breathBehind_106_L19 f (nI m) row (nI br - nI (5 * s)) _ _ u = _
      by_cases y : 5 * s ≤ br
      · rw [if_pos y, nI_sub y]
        exact ih f _ _ (by omega) (by omega) (by omega) (by omega)
      · rw [if_neg y]
        obtain ⟨g, rfl⟩ : ∃ g, f = g + 1 := ⟨f - 1, by omega⟩
        show FX7_breathBehind_106_b19 _ _ _ _ _ _ _ = _
        unfold FX7_breathBehind_106_b19 FX7_breathBehind_106_b92
        have ng := neg_sub (a := br) (b := 5 * s) (by omega) (by omega) (by omega)
        rw [if_neg ng, if_pos (show nI br - nI (5 * s) < 0 by rw [← Int32.not_le]; exact ng), ite_self]; rfl
    · rw [if_neg c, if_neg c, if_pos rfl, add_li]
      have es : (if nI (br + 10) < 99 then nI (br + 10) else 99) = nI (min (br + 10) 99) := nI_min (x := 99) (y := br + 10) (by omega) (by omega) |>.trans (by rw [Nat.min_comm])
      show FX7_breathBehind_106_L19 f (nI m) row (if nI (br + 10) < 99 then nI (br + 10) else 99) _ _ u = _
      rw [es]
      exact ih f _ _ (by omega) (by omega) (by omega) hle
/-! turned -/
theorem shl_0 : ∀ i, i < 32 → (0 : Int32) <<< (nI i &&& 31) = 0 := by decide +kernel
def tnC (row : Int32) (n i : Nat) : Int32 := fo i (fun i s => s ||| if tb row i = true then 1 <<< nI (n - 1 - i) else 0) 0
def tnM (row : Int32) (n i : Nat) : Int32 := fo i (fun i s => s ||| if tb row (n - 1 - i) = true then 1 <<< nI i else 0) 0
theorem tnC_tb (row : Int32) {n : Nat} (hn : n ≤ 12) {k : Nat} (hk : k < 32) : ∀ i, i ≤ n → tb (tnC row n i) k = (decide (k < n ∧ n ≤ k + i) && tb row (n - 1 - k))
  | 0, h => by
    show tb 0 k = _
    rw [tb_0, decide_eq_false (by omega)]; rfl
  | i + 1, h => by
    show tb (tnC row n i ||| _) k = _
    rw [tb_or, tnC_tb row hn hk i (by omega)]
    by_cases z : k = n - 1 - i
    · rw [show n - 1 - k = i by omega, decide_eq_false (by omega), decide_eq_true (show k < n ∧ n ≤ k + (i + 1) by omega)]
      by_cases c : tb row i = true
      · rw [if_pos c, tb_1s (by omega) hk, decide_eq_true z, c]; rfl
      · rw [if_neg c, tb_0, eq_false_of_ne_true c]; rfl
    · have : tb (if tb row i = true then (1 : Int32) <<< nI (n - 1 - i) else 0) k = false := by
        split
        · rw [tb_1s (by omega) hk, decide_eq_false z]
        · rw [tb_0]
      rw [this, Bool.or_false]
      congr 1
      exact decide_eq_decide.mpr (by omega)
theorem tnM_tb (row : Int32) {n : Nat} (hn : n ≤ 12) {k : Nat} (hk : k < 32) : ∀ i, i ≤ n → tb (tnM row n i) k = (decide (k < i) && tb row (n - 1 - k))
  | 0, h => by
    show tb 0 k = _
    rw [tb_0, decide_eq_false (by omega)]; rfl
  | i + 1, h => by
    show tb (tnM row n i ||| _) k = _
    rw [tb_or, tnM_tb row hn hk i (by omega)]
    by_cases z : k = i
    · rw [z, decide_eq_false (by omega), decide_eq_true (by omega)]
      by_cases c : tb row (n - 1 - i) = true
      · rw [if_pos c, tb_1s (by omega) (by omega), c, decide_eq_true rfl]; rfl
      · rw [if_neg c, tb_0, eq_false_of_ne_true c]; rfl
    · have : tb (if tb row (n - 1 - i) = true then (1 : Int32) <<< nI i else 0) k = false := by
        split
        · rw [tb_1s (by omega) hk, decide_eq_false z]
        · rw [tb_0]
      rw [this, Bool.or_false]
      congr 1
      exact decide_eq_decide.mpr (by omega)
theorem tn_eq (row : Int32) {n : Nat} (hn : n ≤ 12) : tnC row n n = tnM row n n := tb_ext fun k hk => by
  rw [tnC_tb row hn hk n (Nat.le_refl n), tnM_tb row hn hk n (Nat.le_refl n)]
  congr 1
  exact decide_eq_decide.mpr (by omega)
theorem c_turned (row : Int32) {n : Nat} (hn : n ≤ 12) : FX7_turned row (nI n) = some (tnC row n n) := by
  have hh : FX7_turned_L4 FU row (nI n) 0 (nI 0) = some (tnC row n n) := by
    refine lp_v (fun F i s => FX7_turned_L4 F row (nI n) s i) n (fun i => tnC row n i) _ (fun i F hi => ?_) (fun F => ?_) FU (by show n < 10000; omega)
    · show FX7_turned_b4 _ _ _ _ _ = FX7_turned_L4 F row (nI n) (tnC row n i ||| if tb row i = true then 1 <<< nI (n - 1 - i) else 0) (nI (i + 1))
      unfold FX7_turned_b4 FX7_turned_b29
      have e1 : (nI n - 1) - nI i = nI (n - 1 - i) := by rw [show nI n - 1 = nI (n - 1) from sub_li (k := 1) (by show 1 ≤ n; omega), nI_sub (by omega)]
      rw [if_neg (by rw [nn_le (by omega) (by omega)]; omega), holds_b _ (by omega), b_some, e1, nI_shm (by omega), nI_1]
      by_cases c : tb row i = true
      · rw [if_pos c, if_pos c, if_neg z1]
      · rw [if_neg c, if_neg c, if_pos rfl]
    · show FX7_turned_b4 _ _ _ _ _ = _
      unfold FX7_turned_b4
      rw [if_pos (by rw [nn_le (by omega) (by omega)]; omega)]
  rw [nI_0] at hh; exact hh
theorem m_turned (row : Int32) {n : Nat} (hn : n ≤ 12) : FX12_turned row (nI n) = some (tnM row n n) := by
  have hh : FX12_turned_L4 FU row (nI n) 0 (nI 0) = some (tnM row n n) := by
    refine lp_v (fun F i s => FX12_turned_L4 F row (nI n) s i) n (fun i => tnM row n i) _ (fun i F hi => ?_) (fun F => ?_) FU (by show n < 10000; omega)
    · show FX12_turned_b4 _ _ _ _ _ = FX12_turned_L4 F row (nI n) (tnM row n i ||| if tb row (n - 1 - i) = true then 1 <<< nI i else 0) (nI (i + 1))
      unfold FX12_turned_b4
      have e1 : (nI n - 1) - nI i = nI (n - 1 - i) := by rw [show nI n - 1 = nI (n - 1) from sub_li (k := 1) (by show 1 ≤ n; omega), nI_sub (by omega)]
      rw [if_neg (by rw [nn_le (by omega) (by omega)]; omega), e1, bit1 _ (by omega), nI_1]
      by_cases c : tb row (n - 1 - i) = true
      · rw [if_pos c, if_pos c, nI_shm (by omega)]
      · rw [if_neg c, if_neg c, shl_0 _ (by omega)]
    · show FX12_turned_b4 _ _ _ _ _ = _
      unfold FX12_turned_b4
      rw [if_pos (by rw [nn_le (by omega) (by omega)]; omega)]
  rw [nI_0] at hh; exact hh
/-! the best row -/
def bsM (val : Nat → Int32) : Nat → Int32 × Int32
  | 0 => (-1, -1)
  | j + 1 => if (bsM val j).1 < val j then (val j, nI j) else bsM val j
theorem bsM_ok {val : Nat → Int32} (hv : ∀ j, -1 ≤ val j) : ∀ i, i ≤ 4096 → (-1 ≤ (bsM val i).1) ∧ ((bsM val i).1 = -1 ↔ (bsM val i).2 = -1)
  | 0, _ => ⟨show (-1 : Int32) ≤ -1 by decide, fun _ => rfl, fun _ => rfl⟩
  | j + 1, h => by
    obtain ⟨a, b⟩ := bsM_ok hv j (by omega)
    unfold bsM
    by_cases c : (bsM val j).1 < val j
    · rw [if_pos c]
      refine ⟨hv j, fun e => ?_, fun e => absurd e (nI_m1 (by omega))⟩
      have e : val j = -1 := e
      rw [e] at c
      exact absurd (Int32.lt_of_le_of_lt a c) (by decide)
    · rw [if_neg c]; exact ⟨a, b⟩
theorem mv_le (led : Nat) (row : Int32) : ∀ (k br left x : Nat), br ≤ 99 → mv led row k br left = some x → x ≤ 99
  | 0, br, left, x, hb, h => by
    unfold mv at h
    split at h
    · injection h with h; omega
    · exact absurd h (by simp)
  | k + 1, br, left, x, hb, h => by
    unfold mv at h
    split at h
    · split at h
      · exact absurd h (by simp)
      · split at h
        · exact mv_le led row k _ _ x (by omega) h
        · exact absurd h (by simp)
    · exact mv_le led row k _ _ x (by omega) h
theorem ov_ge {led : Nat} {row : Int32} {k br left : Nat} (hb : br ≤ 99) : -1 ≤ ov (mv led row k br left) := by
  cases h : mv led row k br left with
  | none => exact Int32.le_refl _
  | some x =>
    have := mv_le led row k br left x hb h
    exact Int32.le_trans (by decide) (nI_0le (k := x) (by omega))
def bmR (val : Nat → Int32) (n : Nat) (p : Int32) : Int32 := if p = 0 then (bsM val (2 ^ n)).1 else if (bsM val (2 ^ n)).2 = -1 then (bsM val (2 ^ n)).1 else tnM (bsM val (2 ^ n)).2 n n
theorem p2_4k {n : Nat} (hn : n ≤ 12) : 2 ^ n ≤ 4096 := Nat.le_trans (Nat.pow_le_pow_right (by omega) hn) (by decide)
theorem c_bestMarch {u : Mem} {W : Wt} (hC : CR 23 u W) (hT : OkT W) {m led n D br : Nat} (hm : m < nmen W) (hm12 : m < 12) (hl0 : 0 < led) (hl : W (114 + m) = nI led) (hl9 : led ≤ 9) (hbr : W (4 + m) = nI br) (hb : br ≤ 99) (hD : D ≤ 15) (hn : n ≤ 12) (p : Int32) : FX7_bestMarch_106 (nI m) (nI D) (nI n) p u = some (bmR (fun j => ov (mv led (nI j) n br D)) n p) := by
  unfold FX7_bestMarch_106
  have hp := p2_4k hn
  rw [c_has (ru_men hC.1) hT hm, b_some, if_neg z1, rb hm12 (by omega), gle hC hm12, hl, if_pos (by rw [show (0 : Int32) = nI 0 from nI_0.symm, nn_lt (by omega) (by omega)]; exact hl0), rb hm12 (by omega), rb hm12 (by omega), gle hC hm12, hl, nI_add, show nI (D + led) - 1 = nI (D + led - 1) from sub_li (k := 1) (by show 1 ≤ D + led; omega), dv_n (by omega) hl0 (by omega)]
  have hv : ∀ j, -1 ≤ ov (mv led (nI j) n br D) := fun j => ov_ge hb
  refine lp_v (S := Int32 × Int32) (fun F i s => FX7_bestMarch_106_L59 F (nI m) (nI D) (nI n) p (nI ((D + led - 1) / led)) s.1 s.2 i u) (2 ^ n) (fun i => bsM (fun j => ov (mv led (nI j) n br D)) i) _ (fun i F hi => ?_) (fun F => ?_) FU (by show _ < 10000; omega)
  · generalize hs : bsM (fun j => ov (mv led (nI j) n br D)) i = s
    have key : bsM (fun j => ov (mv led (nI j) n br D)) (i + 1) = if s.1 < ov (mv led (nI i) n br D) then (ov (mv led (nI i) n br D), nI i) else s := by rw [← hs]; rfl
    show FX7_bestMarch_106_b59 _ _ _ _ _ _ _ _ _ _ = FX7_bestMarch_106_L59 F (nI m) (nI D) (nI n) p (nI ((D + led - 1) / led)) (bsM (fun j => ov (mv led (nI j) n br D)) (i + 1)).1 (bsM (fun j => ov (mv led (nI j) n br D)) (i + 1)).2 (nI (i + 1)) u
    have hi4 : i < 4096 := by omega
    have hG : (D + led - 1) / led ≤ D + led - 1 := Nat.div_le_self _ _
    have hpc := pc_le (nI i)
    have e0 : ∀ x, x = ov (mv led (nI i) n br D) → FX7_bestMarch_106_b90 (FX7_bestMarch_106_L59 F) (nI m) (nI D) (nI n) p (nI ((D + led - 1) / led)) s.1 s.2 (nI i) x u = FX7_bestMarch_106_L59 F (nI m) (nI D) (nI n) p (nI ((D + led - 1) / led)) (bsM (fun j => ov (mv led (nI j) n br D)) (i + 1)).1 (bsM (fun j => ov (mv led (nI j) n br D)) (i + 1)).2 (nI (i + 1)) u := by
      rintro x rfl
      unfold FX7_bestMarch_106_b90 FX7_bestMarch_106_b107
      rw [key, nI_1]
      by_cases c : s.1 < ov (mv led (nI i) n br D)
      · rw [if_pos c, if_neg (by rw [Int32.not_le]; exact c)]
      · rw [if_neg c, if_pos (by rw [← Int32.not_lt]; exact c)]
    unfold FX7_bestMarch_106_b59
    rw [one_shl (by omega), if_neg (by rw [nn_le (by omega) (by omega)]; omega), bc_4k hi4, b_some, pc_pk (by omega) hi]
    rw [pc_pk (by omega) hi] at hpc
    have hmc := mv_cvB hl0 (nI i) n br D
    by_cases c : pk (nI i) n = (D + led - 1) / led
    · rw [if_pos (by rw [c])]
      rw [if_pos c] at hmc
      unfold FX7_breathBehind_106
      rw [rb hm12 (by omega), gbr_23 hC hm12, hbr, c_behind hC hm12 hl hl9 (nI i) n FU br D hn (by show _ < 10000; omega) hb hD, b_some]
      exact e0 _ (by rw [hmc])
    · rw [if_neg (by rw [nn_eq (by omega) (by omega)]; exact c)]
      rw [if_neg c] at hmc
      exact e0 _ (by rw [hmc]; rfl)
  · show FX7_bestMarch_106_b59 _ _ _ _ _ _ _ _ _ _ = _
    unfold FX7_bestMarch_106_b59 FX7_bestMarch_106_b124 bmR
    rw [one_shl (by omega), if_pos (Int32.le_refl _)]
    by_cases c : p = 0
    · rw [if_pos c, if_pos c]
    · rw [if_neg c, if_neg c]
      by_cases d : (bsM (fun j => ov (mv led (nI j) n br D)) (2 ^ n)).2 = -1
      · rw [if_pos d, if_pos d]
      · rw [if_neg d, if_neg d, c_turned _ hn, b_some, tn_eq _ hn]
theorem m_march {u : Mem} {W : Wt} (hu : u 147 = W) {m led n D br : Nat} (hm12 : m < 12) (hl : W (114 + m) = nI led) (hl9 : led ≤ 9) (hbr : W (4 + m) = nI br) (hb : br ≤ 99) (hD : D ≤ 15) (hn : n ≤ 12) (p : Int32) : FX12_march_146_L49 FU (nI m) (nI D) (nI n) p (-1) (-1) 0 u = some (bmR (fun j => ov (mv led (nI j) n br D)) n p) := by
  have hp := p2_4k hn
  have hv : ∀ j, -1 ≤ ov (mv led (nI j) n br D) := fun j => ov_ge hb
  refine lp_v (S := Int32 × Int32) (fun F i s => FX12_march_146_L49 F (nI m) (nI D) (nI n) p s.1 s.2 i u) (2 ^ n) (fun i => bsM (fun j => ov (mv led (nI j) n br D)) i) _ (fun i F hi => ?_) (fun F => ?_) FU (by show _ < 10000; omega)
  · generalize hs : bsM (fun j => ov (mv led (nI j) n br D)) i = s
    have key : bsM (fun j => ov (mv led (nI j) n br D)) (i + 1) = if s.1 < ov (mv led (nI i) n br D) then (ov (mv led (nI i) n br D), nI i) else s := by rw [← hs]; rfl
    show FX12_march_146_b49 _ _ _ _ _ _ _ _ _ = FX12_march_146_L49 F (nI m) (nI D) (nI n) p (bsM (fun j => ov (mv led (nI j) n br D)) (i + 1)).1 (bsM (fun j => ov (mv led (nI j) n br D)) (i + 1)).2 (nI (i + 1)) u
    unfold FX12_march_146_b49 FX12_march_146_b86 FX12_marched_146
    rw [one_shl (by omega), if_neg (by rw [nn_le (by omega) (by omega)]; omega), rl (by show 4 + m < _; omega) (by omega)]
    show ((FX12_marched_146_L16 FU (nI m) (nI n) (nI i) (u 147 (4 + m)) (nI D) 0 u).bind _) = _
    have h0 := m_marched hu hm12 hn hl hl9 (nI i) n 0 FU br D rfl (by show n < 10000; omega) hb hD
    rw [nI_0] at h0
    rw [hu, hbr, h0, b_some, key, nI_1]
    by_cases c : s.1 < ov (mv led (nI i) n br D)
    · rw [if_pos c, if_pos c]
    · rw [if_neg c, if_neg c]
  · obtain ⟨-, o⟩ := bsM_ok hv (2 ^ n) hp
    show FX12_march_146_b49 _ _ _ _ _ _ _ _ _ = _
    unfold FX12_march_146_b49 FX12_march_146_b103 bmR
    rw [one_shl (by omega), if_pos (Int32.le_refl _)]
    by_cases c : p = 0
    · rw [if_pos c, if_pos c, ite_self]
    · rw [if_neg c, if_neg c]
      by_cases d : (bsM (fun j => ov (mv led (nI j) n br D)) (2 ^ n)).2 = -1
      · rw [if_pos d, if_pos (o.mpr d)]
      · rw [if_neg d, if_neg (fun h => d (o.mp h)), m_turned _ hn, b_some]
theorem A_march (p q r t : Int32) : A1 (FX11_march_0 p q r t) (FX12_march_146 p q r t) := by
  intro v w h
  obtain ⟨a, b, -⟩ := h
  obtain ⟨hn, hn12⟩ := OkT_n a.1
  unfold FX11_march_0 FX12_march_146 FX11_march_0_b37
  by_cases c : ∃ m, m < nmen (w 147) ∧ p = nI m
  · obtain ⟨m, hm, rfl⟩ := c
    have hm12 : m < 12 := by omega
    rw [c_has (ru_men b.1.1) a.1 hm, b_some, m_isMan rfl a.1 hm, b_some, if_neg z1, if_neg z1, m_in, b_some, m_in, b_some, m_in, b_some]
    by_cases d1 : 0 ≤ q ∧ q ≤ 15
    · rw [if_neg (show ¬ q < 0 by rw [Int32.not_lt]; exact d1.1), if_neg (show ¬ 16 ≤ q by rw [Int32.not_le, lt16_le15 q]; exact d1.2), if_pos d1, if_neg z1]
      by_cases d2 : 1 ≤ r ∧ r ≤ 12
      · rw [if_neg (show ¬ r < 1 by rw [Int32.not_lt]; exact d2.1), if_neg (show ¬ 12 < r by rw [Int32.not_lt]; exact d2.2), if_pos d2, if_neg z1, if_neg z1]
        by_cases d3 : 0 ≤ t ∧ t ≤ 1
        · rw [if_neg (show ¬ t < 0 by rw [Int32.not_lt]; exact d3.1), if_pos d3.2, if_pos d3, if_neg z1]
          rw [show (15 : Int32) = nI 15 by decide, in_n (by decide)] at d1
          obtain ⟨D, hD, rfl⟩ := d1
          have d4 : 0 ≤ r ∧ r ≤ nI 12 := ⟨Int32.le_trans (by decide) d2.1, d2.2⟩
          rw [in_n (by decide)] at d4
          obtain ⟨n, hn', rfl⟩ := d4
          obtain ⟨led, hl9, hl0, hl⟩ := OkT_le a.1 m hm12
          obtain ⟨br, hb, hbr⟩ := OkD_br a.2.1 m hm12
          rw [c_bestMarch b.1 a.1 hm hm12 (hl0 hm) hl hl9 hbr hb hD hn' t, b_some]
          exact ⟨_, rfl, m_march rfl hm12 hl hl9 hbr hb hD hn' t⟩
        · rw [if_neg d3, if_pos rfl]
          refine ⟨-1, ?_, rfl⟩
          by_cases x : t < 0
          · rw [if_pos x]
          · rw [if_neg x, if_neg (fun y => d3 ⟨by rw [← Int32.not_lt]; exact x, y⟩)]
      · rw [if_neg d2, if_pos rfl]
        refine ⟨-1, ?_, rfl⟩
        by_cases x : r < 1
        · rw [if_pos x]
        · rw [if_neg x, if_pos (by rw [← Int32.not_le]; exact fun y => d2 ⟨by rw [← Int32.not_lt]; exact x, y⟩)]
    · rw [if_neg d1, if_pos rfl]
      refine ⟨-1, ?_, rfl⟩
      by_cases x : q < 0
      · rw [if_pos x]
      · rw [if_neg x, if_pos (by rw [← Int32.not_lt, lt16_le15 q]; exact fun y => d1 ⟨by rw [← Int32.not_lt]; exact x, y⟩)]
  · rw [c_hasN (ru_men b.1.1) a.1 c, b_some, m_isManN rfl a.1 c, b_some, if_pos rfl, if_pos rfl, if_pos rfl]
    exact ⟨-1, rfl, rfl⟩
