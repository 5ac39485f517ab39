/-! the class cuts its tape -/
def TP (b : Nat → Nat) (n : Nat) (T : Wt) : Prop := n ≤ 400 ∧ ∀ i, i < n → T i = nI (b i) ∧ b i < 256
theorem c_isLt : ∀ x, x < 256 → FX6_isLetter (nI x) = some (if isLt x = true then 1 else 0) := by decide +kernel
theorem c_isDg : ∀ x, x < 256 → FX6_isDigit (nI x) = some (if isDg x = true then 1 else 0) := by decide +kernel
theorem c_isSg : ∀ x, x < 256 → (S_idx 4 ((((nI x) : Int32).toUInt32 % 65536).toInt32)).map (fun y => decide (y < 0)) = some (!(sgn x)) := by decide +kernel
theorem lt_nb : ∀ x, x < 256 → isLt x = true → ¬ isBl x = true := by decide +kernel
theorem dg_nb : ∀ x, x < 256 → isDg x = true → ¬ isBl x = true := by decide +kernel
theorem ltE {a b : Nat} {β : Type} (x y : Option β) (ha : a < 2147483648) (hb : b < 2147483648) (h : a ≤ b) : (if nI a ≤ nI b then x else y) = x := if_pos (by rw [nn_le ha hb]; exact h)
theorem ltN {a b : Nat} {β : Type} (x y : Option β) (ha : a < 2147483648) (hb : b < 2147483648) (h : b < a) : (if nI a ≤ nI b then x else y) = y := if_neg (by rw [nn_le ha hb]; omega)
theorem c400 {β : Type} (x y : Option β) {i : Nat} (h : i < 400) : (if (400 : Int32) ≤ nI i then x else y) = y := if_neg (by rw [li_le (by decide) (by omega)]; show ¬ 400 ≤ i; omega)
theorem pos_i (i : Nat) (h : i < 2147483648) : (if (0 : Int32) < nI i then nI i else 0) = nI i := by
  by_cases c : (0 : Int32) < nI i
  · rw [if_pos c]
  · rw [if_neg c]
    rw [show (0 : Int32) = nI 0 from nI_0.symm, nn_lt (by omega) h] at c
    rw [show i = 0 by omega]; exact nI_0.symm
theorem c_endOfWord {b : Nat → Nat} {n : Nat} {u : Mem} (hT : TP b n (u 35)) {i : Nat} (hi : i ≤ n) : FX6_endOfWord_34 (nI i) (nI n) u = some (nI (ed isLt b n i)) := by
  obtain ⟨hn, hb⟩ := hT
  have key : ∀ (k i F : Nat), i + k = n → k < F → FX6_endOfWord_34_L6 F (nI n) (nI i) u = some (nI (rnP isLt b n k i)) := by
    intro k
    induction k with
    | zero =>
      intro i F hi hF
      obtain ⟨f, rfl⟩ : ∃ f, F = f + 1 := ⟨F - 1, by omega⟩
      show FX6_endOfWord_34_b6 _ _ _ _ = _
      unfold FX6_endOfWord_34_b6 FX6_endOfWord_34_b36
      rw [ltE _ _ (by omega) (by omega) (by omega)]; rfl
    | succ k ih =>
      intro i F hi hF
      obtain ⟨f, rfl⟩ : ∃ f, F = f + 1 := ⟨F - 1, by omega⟩
      obtain ⟨h1, h2⟩ := hb i (by omega)
      show FX6_endOfWord_34_b6 _ _ _ _ = _
      unfold FX6_endOfWord_34_b6 FX6_endOfWord_34_b36 rnP
      rw [ltN _ _ (by omega) (by omega) (by omega), c400 _ _ (by omega), rb (by omega) (by omega), h1, c_isLt _ h2, b_some, decide_eq_true (show i < n by omega), Bool.true_and, nI_1]
      by_cases c : isLt (b i) = true
      · rw [if_pos c, if_neg z1, if_pos c]; exact ih (i + 1) f (by omega) (by omega)
      · rw [if_neg c, if_pos rfl, if_neg c]
  unfold FX6_endOfWord_34 ed
  rw [pos_i i (by omega)]
  exact key (n - i) i FU (by omega) (by show _ < 10000; omega)
theorem c_endOfDigits {b : Nat → Nat} {n : Nat} {u : Mem} (hT : TP b n (u 35)) {i : Nat} (hi : i ≤ n) : FX6_endOfDigits_34 (nI i) (nI n) u = some (nI (ed isDg b n i)) := by
  obtain ⟨hn, hb⟩ := hT
  have key : ∀ (k i F : Nat), i + k = n → k < F → FX6_endOfDigits_34_L6 F (nI n) (nI i) u = some (nI (rnP isDg b n k i)) := by
    intro k
    induction k with
    | zero =>
      intro i F hi hF
      obtain ⟨f, rfl⟩ : ∃ f, F = f + 1 := ⟨F - 1, by omega⟩
      show FX6_endOfDigits_34_b6 _ _ _ _ = _
      unfold FX6_endOfDigits_34_b6 FX6_endOfDigits_34_b36
      rw [ltE _ _ (by omega) (by omega) (by omega)]; rfl
    | succ k ih =>
      intro i F hi hF
      obtain ⟨f, rfl⟩ : ∃ f, F = f + 1 := ⟨F - 1, by omega⟩
      obtain ⟨h1, h2⟩ := hb i (by omega)
      show FX6_endOfDigits_34_b6 _ _ _ _ = _
      unfold FX6_endOfDigits_34_b6 FX6_endOfDigits_34_b36 rnP
      rw [ltN _ _ (by omega) (by omega) (by omega), c400 _ _ (by omega), rb (by omega) (by omega), h1, c_isDg _ h2, b_some, decide_eq_true (show i < n by omega), Bool.true_and, nI_1]
      by_cases c : isDg (b i) = true
      · rw [if_pos c, if_neg z1, if_pos c]; exact ih (i + 1) f (by omega) (by omega)
      · rw [if_neg c, if_pos rfl, if_neg c]
  unfold FX6_endOfDigits_34 ed
  rw [pos_i i (by omega)]
  exact key (n - i) i FU (by omega) (by show _ < 10000; omega)
theorem c_val {b : Nat → Nat} {n : Nat} {u : Mem} (hT : TP b n (u 35)) {s : Nat} (hs : s ≤ n) : FX6_value_34 (nI s) (nI (ed isDg b n s)) u = some (nI (vl b n s)) := by
  obtain ⟨hn, hb⟩ := hT
  obtain ⟨e1, e2, e3, e4⟩ := ed_ok (p := isDg) (b := b) hs
  have key : ∀ (k i v F : Nat), i + k = s + 4 → k < F → s ≤ i → i ≤ ed isDg b n s → FX6_value_34_L9 F (nI s) (nI (ed isDg b n s)) (nI v) (nI i) u = some (nI (vlF b n k i v)) := by
    intro k
    induction k with
    | zero =>
      intro i v F hi hF h1 h2
      obtain ⟨f, rfl⟩ : ∃ f, F = f + 1 := ⟨F - 1, by omega⟩
      show FX6_value_34_b9 _ _ _ _ _ _ = _
      unfold FX6_value_34_b9 FX6_value_34_b53
      rw [show nI s + 4 = nI (s + 4) from add_li 4 s, ltE (a := s + 4) (b := i) _ _ (by omega) (by omega) (by omega), ite_self]; rfl
    | succ k ih =>
      intro i v F hi hF h1 h2
      obtain ⟨f, rfl⟩ : ∃ f, F = f + 1 := ⟨F - 1, by omega⟩
      show FX6_value_34_b9 _ _ _ _ _ _ = _
      unfold FX6_value_34_b9 FX6_value_34_b53 vlF
      by_cases c : i = ed isDg b n s
      · rw [ltE _ _ (by omega) (by omega) (by omega), if_neg]
        rw [Bool.and_eq_true, decide_eq_true_eq]
        rintro ⟨h3, h4⟩
        rw [c] at h3 h4
        exact e4 h3 h4
      · have hd := e3 i h1 (by omega)
        obtain ⟨g1, g2⟩ := hb i (by omega)
        have h48 : 48 ≤ b i := by
          have hd2 := hd
          unfold isDg at hd2
          rw [Bool.and_eq_true, decide_eq_true_eq] at hd2
          exact hd2.1
        rw [ltN _ _ (by omega) (by omega) (by omega), show nI s + 4 = nI (s + 4) from add_li 4 s, ltN _ _ (by omega) (by omega) (by omega), c400 _ _ (by omega), rb (by omega) (by omega), g1, decide_eq_true (show i < n by omega), hd, Bool.true_and, if_pos rfl, mul_li, nI_add, sub_li (by show 48 ≤ _; omega), nI_1]
        rw [show v * (OfNat.ofNat 10 : Nat) + b i - (OfNat.ofNat 48 : Nat) = 10 * v + (b i - 48) by show v * 10 + b i - 48 = _; omega]
        exact ih (i + 1) _ f (by omega) (by omega) (by omega) (by omega)
  unfold FX6_value_34 vl
  rw [pos_i s (by omega)]
  have h0 := key 4 s 0 FU (by omega) (by decide) (Nat.le_refl _) e1
  rw [nI_0] at h0
  exact h0
/-! words in a list -/
def jnW : List (List Nat) → List Nat
  | [] => []
  | w :: ws => w ++ 32 :: jnW ws
def psW : List (List Nat) → Nat → Nat
  | _, 0 => 0
  | [], _ + 1 => 0
  | w :: ws, j + 1 => w.length + 1 + psW ws j
def kwI : List (List Nat) → Nat → List Nat → Int32
  | [], _, _ => -1
  | w :: ws, j, c => if c = w then nI j else kwI ws (j + 1) c
theorem kwI_F : ∀ (ws : List (List Nat)) (j : Nat) (c : List Nat), 256 + kwI ws j c = nI (kwF ws j c)
  | [], _, _ => by show (256 : Int32) + -1 = nI 255; decide
  | w :: ws, j, c => by
    unfold kwI kwF
    split
    · exact li_add 256 j
    · exact kwI_F ws (j + 1) c
def wdJ (k j : Nat) : List Nat := (woL k).getD j []
def lnW (k : Nat) : Nat := (jnW (woL k)).length - 1
def okJ (k : Nat) : Bool := decide (∀ j, j < (woL k).length → (psW (woL k) j + (wdJ k j).length ≤ lnW k ∧ (∀ x, x < (wdJ k j).length → (S_chr k (nI (psW (woL k) j + x)) = some (nI ((wdJ k j).getD x 0)) ∧ ¬ (wdJ k j).getD x 0 = 32 ∧ (wdJ k j).getD x 0 < 256)) ∧ (psW (woL k) j + (wdJ k j).length = lnW k ∨ (psW (woL k) j + (wdJ k j).length < lnW k ∧ S_chr k (nI (psW (woL k) j + (wdJ k j).length)) = some 32)) ∧ psW (woL k) (j + 1) = psW (woL k) j + (wdJ k j).length + 1))
theorem okJ_t : ∀ k, k < 4 → okJ k = true ∧ S_len k = some (nI (lnW k)) ∧ psW (woL k) (woL k).length = lnW k + 1 ∧ lnW k < 100 := by decide +kernel
theorem c_same_0 {b : Nat → Nat} {n : Nat} {u : Mem} (hT : TP b n (u 35)) {j s e : Nat} (hj : j < (woL 0).length) (he : e ≤ n) (hl : (wdJ 0 j).length = e - s) (hse : s ≤ e) : FX6_same_34_2000000 (nI (psW (woL 0) j)) (nI s) (nI e) u = some (if ct b s (e - s) = wdJ 0 j then 1 else 0) := by
  obtain ⟨hn, hb⟩ := hT
  obtain ⟨o1, o2, o3, o4⟩ := okJ_t 0 (by decide)
  obtain ⟨q1, q2, -, -⟩ := (of_decide_eq_true o1) j hj
  have key : ∀ (m x F : Nat), x + m = e - s → m < F → (∀ y, y < x → b (s + y) = (wdJ 0 j).getD y 0) → FX6_same_34_2000000_L3 F (nI (psW (woL 0) j)) (nI s) (nI e) (nI x) u = some (if ct b s (e - s) = wdJ 0 j then 1 else 0) := by
    intro m
    induction m with
    | zero =>
      intro x F hx hF hy
      obtain ⟨f, rfl⟩ : ∃ f, F = f + 1 := ⟨F - 1, by omega⟩
      show FX6_same_34_2000000_b3 _ _ _ _ _ _ = _
      unfold FX6_same_34_2000000_b3
      rw [nI_add, ltE _ _ (by omega) (by omega) (by omega), if_pos ((ct_eq b (e - s) s _ hl).mpr (fun y h => hy y (by omega)))]
    | succ m ih =>
      intro x F hx hF hy
      obtain ⟨f, rfl⟩ : ∃ f, F = f + 1 := ⟨F - 1, by omega⟩
      obtain ⟨p1, p2, p3⟩ := q2 x (by omega)
      obtain ⟨g1, g2⟩ := hb (s + x) (by omega)
      show FX6_same_34_2000000_b3 _ _ _ _ _ _ = _
      unfold FX6_same_34_2000000_b3 FX6_same_34_2000000_b38
      rw [nI_add, nI_add, ltN _ _ (by omega) (by omega) (by omega), o2, b_some, ltN _ _ (by omega) (by omega) (by omega), c400 _ _ (by omega), if_neg z1, p1, b_some, rb (by omega) (by omega), g1, nI_1]
      by_cases c : (wdJ 0 j).getD x 0 = b (s + x)
      · rw [if_pos (by rw [c])]
        exact ih (x + 1) f (by omega) (by omega) (fun y h => by
          by_cases e : y = x
          · rw [e]; exact c.symm
          · exact hy y (by omega))
      · rw [if_neg (by rw [nn_eq (by omega) (by omega)]; exact c), if_neg]
        intro h
        exact c (((ct_eq b (e - s) s _ hl).mp h) x (by omega)).symm
  unfold FX6_same_34_2000000
  have h0 := key (e - s) 0 FU (by omega) (by show _ < 10000; omega) (fun y h => by omega)
  rw [nI_0] at h0
  exact h0
theorem c_kw_0 {b : Nat → Nat} {n : Nat} {u : Mem} (hT : TP b n (u 35)) {s e : Nat} (he : e ≤ n) (hse : s ≤ e) : FX6_keyword_34_2000000 (nI s) (nI e) u = some (kwI (woL 0) 0 (ct b s (e - s))) := by
  have hn := hT.1
  obtain ⟨o1, o2, o3, o4⟩ := okJ_t 0 (by decide)
  have key : ∀ (m j F : Nat), j + m = (woL 0).length → lnW 0 + 2 - psW (woL 0) j < F → FX6_keyword_34_2000000_L9 F (nI s) (nI e) (nI j) (nI (psW (woL 0) j)) (nI (psW (woL 0) j)) u = some (kwI ((woL 0).drop j) j (ct b s (e - s))) := by
    intro m
    induction m with
    | zero =>
      intro j F hj hF
      obtain ⟨f, rfl⟩ : ∃ f, F = f + 1 := ⟨F - 1, by omega⟩
      have ej : j = (woL 0).length := by omega
      rw [ej, o3, List.drop_length]
      show FX6_keyword_34_2000000_b9 _ _ _ _ _ _ _ = _
      unfold FX6_keyword_34_2000000_b9
      rw [o2, b_some, if_pos (by rw [nn_lt (by omega) (by omega)]; omega)]; rfl
    | succ m ih =>
      intro j F hj hF
      have hjl : j < (woL 0).length := by omega
      obtain ⟨q1, q2, q3, q4⟩ := (of_decide_eq_true o1) j hjl
      have ed0 : (woL 0).drop j = wdJ 0 j :: (woL 0).drop (j + 1) := by
        rw [List.drop_eq_getElem_cons hjl]
        unfold wdJ
        rw [List.getD_eq_getElem?_getD, List.getElem?_eq_getElem hjl]; rfl
      have skip : ∀ (y x G : Nat), x + y = (wdJ 0 j).length → FX6_keyword_34_2000000_L9 (G + y) (nI s) (nI e) (nI j) (nI (psW (woL 0) j)) (nI (psW (woL 0) j + x)) u = FX6_keyword_34_2000000_L9 G (nI s) (nI e) (nI j) (nI (psW (woL 0) j)) (nI (psW (woL 0) j + (wdJ 0 j).length)) u := by
        intro y
        induction y with
        | zero => intro x G hx; rw [show x = (wdJ 0 j).length by omega]; rfl
        | succ y ihy =>
          intro x G hx
          obtain ⟨p1, p2, p3⟩ := q2 x (by omega)
          show FX6_keyword_34_2000000_b9 _ _ _ _ _ _ _ = _
          unfold FX6_keyword_34_2000000_b9 FX6_keyword_34_2000000_b73
          rw [o2, b_some, if_neg (by rw [nn_lt (by omega) (by omega)]; omega), b_some, if_neg (by rw [nn_eq (by omega) (by omega)]; omega), p1, b_some, if_neg (by rw [eq_li (by decide) (by omega)]; exact p2), nI_1]
          exact ihy (x + 1) G (by omega)
      obtain ⟨G, hG⟩ : ∃ G, F = (G + 1) + (wdJ 0 j).length := ⟨F - 1 - (wdJ 0 j).length, by omega⟩
      rw [hG, ed0]
      refine Eq.trans (skip (wdJ 0 j).length 0 (G + 1) (by omega)) ?_
      have tst : FX6_keyword_34_2000000_L9 (G + 1) (nI s) (nI e) (nI j) (nI (psW (woL 0) j)) (nI (psW (woL 0) j + (wdJ 0 j).length)) u = FX6_keyword_34_2000000_b38 (FX6_keyword_34_2000000_L9 G) (nI s) (nI e) (nI j) (nI (psW (woL 0) j)) (nI (psW (woL 0) j + (wdJ 0 j).length)) u := by
        show FX6_keyword_34_2000000_b9 _ _ _ _ _ _ _ = _
        unfold FX6_keyword_34_2000000_b9
        rw [o2, b_some, if_neg (by rw [nn_lt (by omega) (by omega)]; omega), b_some]
        rcases q3 with h | ⟨h1, h2⟩
        · rw [if_pos (by rw [h])]
        · rw [if_neg (by rw [nn_eq (by omega) (by omega)]; omega), h2, b_some, if_pos rfl]
      rw [tst]
      unfold FX6_keyword_34_2000000_b38 FX6_keyword_34_2000000_b64 FX6_keyword_34_2000000_b73 kwI
      have ihn := ih (j + 1) G (by omega) (by omega)
      rw [q4] at ihn
      rw [nI_sub (by omega), nI_sub hse, nI_1, nI_1, ihn, show psW (woL 0) j + (wdJ 0 j).length - psW (woL 0) j = (wdJ 0 j).length by omega]
      by_cases c : (wdJ 0 j).length = e - s
      · rw [if_pos (by rw [c]), c_same_0 hT hjl he c hse, b_some]
        by_cases d : ct b s (e - s) = wdJ 0 j
        · rw [if_pos d, if_neg z1, if_pos d]
        · rw [if_neg d, if_pos rfl, if_neg d]
      · rw [if_neg (by rw [nn_eq (by omega) (by omega)]; exact c), if_neg]
        intro h
        have := ct_len b (e - s) s
        rw [h] at this
        exact c this
  unfold FX6_keyword_34_2000000
  have h0 := key (woL 0).length 0 FU (by omega) (by show _ < 10000; omega)
  have p0 : psW (woL 0) 0 = 0 := rfl
  rw [p0, nI_0, List.drop_zero] at h0
  exact h0
theorem c_same_1 {b : Nat → Nat} {n : Nat} {u : Mem} (hT : TP b n (u 35)) {j s e : Nat} (hj : j < (woL 1).length) (he : e ≤ n) (hl : (wdJ 1 j).length = e - s) (hse : s ≤ e) : FX6_same_34_2000001 (nI (psW (woL 1) j)) (nI s) (nI e) u = some (if ct b s (e - s) = wdJ 1 j then 1 else 0) := by
  obtain ⟨hn, hb⟩ := hT
  obtain ⟨o1, o2, o3, o4⟩ := okJ_t 1 (by decide)
  obtain ⟨q1, q2, -, -⟩ := (of_decide_eq_true o1) j hj
  have key : ∀ (m x F : Nat), x + m = e - s → m < F → (∀ y, y < x → b (s + y) = (wdJ 1 j).getD y 0) → FX6_same_34_2000001_L3 F (nI (psW (woL 1) j)) (nI s) (nI e) (nI x) u = some (if ct b s (e - s) = wdJ 1 j then 1 else 0) := by
    intro m
    induction m with
    | zero =>
      intro x F hx hF hy
      obtain ⟨f, rfl⟩ : ∃ f, F = f + 1 := ⟨F - 1, by omega⟩
      show FX6_same_34_2000001_b3 _ _ _ _ _ _ = _
      unfold FX6_same_34_2000001_b3
      rw [nI_add, ltE _ _ (by omega) (by omega) (by omega), if_pos ((ct_eq b (e - s) s _ hl).mpr (fun y h => hy y (by omega)))]
    | succ m ih =>
      intro x F hx hF hy
      obtain ⟨f, rfl⟩ : ∃ f, F = f + 1 := ⟨F - 1, by omega⟩
      obtain ⟨p1, p2, p3⟩ := q2 x (by omega)
      obtain ⟨g1, g2⟩ := hb (s + x) (by omega)
      show FX6_same_34_2000001_b3 _ _ _ _ _ _ = _
      unfold FX6_same_34_2000001_b3 FX6_same_34_2000001_b38
      rw [nI_add, nI_add, ltN _ _ (by omega) (by omega) (by omega), o2, b_some, ltN _ _ (by omega) (by omega) (by omega), c400 _ _ (by omega), if_neg z1, p1, b_some, rb (by omega) (by omega), g1, nI_1]
      by_cases c : (wdJ 1 j).getD x 0 = b (s + x)
      · rw [if_pos (by rw [c])]
        exact ih (x + 1) f (by omega) (by omega) (fun y h => by
          by_cases e : y = x
          · rw [e]; exact c.symm
          · exact hy y (by omega))
      · rw [if_neg (by rw [nn_eq (by omega) (by omega)]; exact c), if_neg]
        intro h
        exact c (((ct_eq b (e - s) s _ hl).mp h) x (by omega)).symm
  unfold FX6_same_34_2000001
  have h0 := key (e - s) 0 FU (by omega) (by show _ < 10000; omega) (fun y h => by omega)
  rw [nI_0] at h0
  exact h0
theorem c_kw_1 {b : Nat → Nat} {n : Nat} {u : Mem} (hT : TP b n (u 35)) {s e : Nat} (he : e ≤ n) (hse : s ≤ e) : FX6_keyword_34_2000001 (nI s) (nI e) u = some (kwI (woL 1) 0 (ct b s (e - s))) := by
  have hn := hT.1
  obtain ⟨o1, o2, o3, o4⟩ := okJ_t 1 (by decide)
  have key : ∀ (m j F : Nat), j + m = (woL 1).length → lnW 1 + 2 - psW (woL 1) j < F → FX6_keyword_34_2000001_L9 F (nI s) (nI e) (nI j) (nI (psW (woL 1) j)) (nI (psW (woL 1) j)) u = some (kwI ((woL 1).drop j) j (ct b s (e - s))) := by
    intro m
    induction m with
    | zero =>
      intro j F hj hF
      obtain ⟨f, rfl⟩ : ∃ f, F = f + 1 := ⟨F - 1, by omega⟩
      have ej : j = (woL 1).length := by omega
      rw [ej, o3, List.drop_length]
      show FX6_keyword_34_2000001_b9 _ _ _ _ _ _ _ = _
      unfold FX6_keyword_34_2000001_b9
      rw [o2, b_some, if_pos (by rw [nn_lt (by omega) (by omega)]; omega)]; rfl
    | succ m ih =>
      intro j F hj hF
      have hjl : j < (woL 1).length := by omega
      obtain ⟨q1, q2, q3, q4⟩ := (of_decide_eq_true o1) j hjl
      have ed0 : (woL 1).drop j = wdJ 1 j :: (woL 1).drop (j + 1) := by
        rw [List.drop_eq_getElem_cons hjl]
        unfold wdJ
        rw [List.getD_eq_getElem?_getD, List.getElem?_eq_getElem hjl]; rfl
      have skip : ∀ (y x G : Nat), x + y = (wdJ 1 j).length → FX6_keyword_34_2000001_L9 (G + y) (nI s) (nI e) (nI j) (nI (psW (woL 1) j)) (nI (psW (woL 1) j + x)) u = FX6_keyword_34_2000001_L9 G (nI s) (nI e) (nI j) (nI (psW (woL 1) j)) (nI (psW (woL 1) j + (wdJ 1 j).length)) u := by
        intro y
        induction y with
        | zero => intro x G hx; rw [show x = (wdJ 1 j).length by omega]; rfl
        | succ y ihy =>
          intro x G hx
          obtain ⟨p1, p2, p3⟩ := q2 x (by omega)
          show FX6_keyword_34_2000001_b9 _ _ _ _ _ _ _ = _
          unfold FX6_keyword_34_2000001_b9 FX6_keyword_34_2000001_b73
          rw [o2, b_some, if_neg (by rw [nn_lt (by omega) (by omega)]; omega), b_some, if_neg (by rw [nn_eq (by omega) (by omega)]; omega), p1, b_some, if_neg (by rw [eq_li (by decide) (by omega)]; exact p2), nI_1]
          exact ihy (x + 1) G (by omega)
      obtain ⟨G, hG⟩ : ∃ G, F = (G + 1) + (wdJ 1 j).length := ⟨F - 1 - (wdJ 1 j).length, by omega⟩
      rw [hG, ed0]
      refine Eq.trans (skip (wdJ 1 j).length 0 (G + 1) (by omega)) ?_
      have tst : FX6_keyword_34_2000001_L9 (G + 1) (nI s) (nI e) (nI j) (nI (psW (woL 1) j)) (nI (psW (woL 1) j + (wdJ 1 j).length)) u = FX6_keyword_34_2000001_b38 (FX6_keyword_34_2000001_L9 G) (nI s) (nI e) (nI j) (nI (psW (woL 1) j)) (nI (psW (woL 1) j + (wdJ 1 j).length)) u := by
        show FX6_keyword_34_2000001_b9 _ _ _ _ _ _ _ = _
        unfold FX6_keyword_34_2000001_b9
        rw [o2, b_some, if_neg (by rw [nn_lt (by omega) (by omega)]; omega), b_some]
        rcases q3 with h | ⟨h1, h2⟩
        · rw [if_pos (by rw [h])]
        · rw [if_neg (by rw [nn_eq (by omega) (by omega)]; omega), h2, b_some, if_pos rfl]
      rw [tst]
      unfold FX6_keyword_34_2000001_b38 FX6_keyword_34_2000001_b64 FX6_keyword_34_2000001_b73 kwI
      have ihn := ih (j + 1) G (by omega) (by omega)
      rw [q4] at ihn
      rw [nI_sub (by omega), nI_sub hse, nI_1, nI_1, ihn, show psW (woL 1) j + (wdJ 1 j).length - psW (woL 1) j = (wdJ 1 j).length by omega]
      by_cases c : (wdJ 1 j).length = e - s
      · rw [if_pos (by rw [c]), c_same_1 hT hjl he c hse, b_some]
        by_cases d : ct b s (e - s) = wdJ 1 j
        · rw [if_pos d, if_neg z1, if_pos d]
        · rw [if_neg d, if_pos rfl, if_neg d]
      · rw [if_neg (by rw [nn_eq (by omega) (by omega)]; exact c), if_neg]
        intro h
        have := ct_len b (e - s) s
        rw [h] at this
        exact c this
  unfold FX6_keyword_34_2000001
  have h0 := key (woL 1).length 0 FU (by omega) (by show _ < 10000; omega)
  have p0 : psW (woL 1) 0 = 0 := rfl
  rw [p0, nI_0, List.drop_zero] at h0
  exact h0
theorem c_same_2 {b : Nat → Nat} {n : Nat} {u : Mem} (hT : TP b n (u 35)) {j s e : Nat} (hj : j < (woL 2).length) (he : e ≤ n) (hl : (wdJ 2 j).length = e - s) (hse : s ≤ e) : FX6_same_34_2000002 (nI (psW (woL 2) j)) (nI s) (nI e) u = some (if ct b s (e - s) = wdJ 2 j then 1 else 0) := by
  obtain ⟨hn, hb⟩ := hT
  obtain ⟨o1, o2, o3, o4⟩ := okJ_t 2 (by decide)
  obtain ⟨q1, q2, -, -⟩ := (of_decide_eq_true o1) j hj
  have key : ∀ (m x F : Nat), x + m = e - s → m < F → (∀ y, y < x → b (s + y) = (wdJ 2 j).getD y 0) → FX6_same_34_2000002_L3 F (nI (psW (woL 2) j)) (nI s) (nI e) (nI x) u = some (if ct b s (e - s) = wdJ 2 j then 1 else 0) := by
    intro m
    induction m with
    | zero =>
      intro x F hx hF hy
      obtain ⟨f, rfl⟩ : ∃ f, F = f + 1 := ⟨F - 1, by omega⟩
      show FX6_same_34_2000002_b3 _ _ _ _ _ _ = _
      unfold FX6_same_34_2000002_b3
      rw [nI_add, ltE _ _ (by omega) (by omega) (by omega), if_pos ((ct_eq b (e - s) s _ hl).mpr (fun y h => hy y (by omega)))]
    | succ m ih =>
      intro x F hx hF hy
      obtain ⟨f, rfl⟩ : ∃ f, F = f + 1 := ⟨F - 1, by omega⟩
      obtain ⟨p1, p2, p3⟩ := q2 x (by omega)
      obtain ⟨g1, g2⟩ := hb (s + x) (by omega)
      show FX6_same_34_2000002_b3 _ _ _ _ _ _ = _
      unfold FX6_same_34_2000002_b3 FX6_same_34_2000002_b38
      rw [nI_add, nI_add, ltN _ _ (by omega) (by omega) (by omega), o2, b_some, ltN _ _ (by omega) (by omega) (by omega), c400 _ _ (by omega), if_neg z1, p1, b_some, rb (by omega) (by omega), g1, nI_1]
      by_cases c : (wdJ 2 j).getD x 0 = b (s + x)
      · rw [if_pos (by rw [c])]
        exact ih (x + 1) f (by omega) (by omega) (fun y h => by
          by_cases e : y = x
          · rw [e]; exact c.symm
          · exact hy y (by omega))
      · rw [if_neg (by rw [nn_eq (by omega) (by omega)]; exact c), if_neg]
        intro h
        exact c (((ct_eq b (e - s) s _ hl).mp h) x (by omega)).symm
  unfold FX6_same_34_2000002
  have h0 := key (e - s) 0 FU (by omega) (by show _ < 10000; omega) (fun y h => by omega)
  rw [nI_0] at h0
  exact h0
theorem c_kw_2 {b : Nat → Nat} {n : Nat} {u : Mem} (hT : TP b n (u 35)) {s e : Nat} (he : e ≤ n) (hse : s ≤ e) : FX6_keyword_34_2000002 (nI s) (nI e) u = some (kwI (woL 2) 0 (ct b s (e - s))) := by
  have hn := hT.1
  obtain ⟨o1, o2, o3, o4⟩ := okJ_t 2 (by decide)
  have key : ∀ (m j F : Nat), j + m = (woL 2).length → lnW 2 + 2 - psW (woL 2) j < F → FX6_keyword_34_2000002_L9 F (nI s) (nI e) (nI j) (nI (psW (woL 2) j)) (nI (psW (woL 2) j)) u = some (kwI ((woL 2).drop j) j (ct b s (e - s))) := by
    intro m
    induction m with
    | zero =>
      intro j F hj hF
      obtain ⟨f, rfl⟩ : ∃ f, F = f + 1 := ⟨F - 1, by omega⟩
      have ej : j = (woL 2).length := by omega
      rw [ej, o3, List.drop_length]
      show FX6_keyword_34_2000002_b9 _ _ _ _ _ _ _ = _
      unfold FX6_keyword_34_2000002_b9
      rw [o2, b_some, if_pos (by rw [nn_lt (by omega) (by omega)]; omega)]; rfl
    | succ m ih =>
      intro j F hj hF
      have hjl : j < (woL 2).length := by omega
      obtain ⟨q1, q2, q3, q4⟩ := (of_decide_eq_true o1) j hjl
      have ed0 : (woL 2).drop j = wdJ 2 j :: (woL 2).drop (j + 1) := by
        rw [List.drop_eq_getElem_cons hjl]
        unfold wdJ
        rw [List.getD_eq_getElem?_getD, List.getElem?_eq_getElem hjl]; rfl
      have skip : ∀ (y x G : Nat), x + y = (wdJ 2 j).length → FX6_keyword_34_2000002_L9 (G + y) (nI s) (nI e) (nI j) (nI (psW (woL 2) j)) (nI (psW (woL 2) j + x)) u = FX6_keyword_34_2000002_L9 G (nI s) (nI e) (nI j) (nI (psW (woL 2) j)) (nI (psW (woL 2) j + (wdJ 2 j).length)) u := by
        intro y
        induction y with
        | zero => intro x G hx; rw [show x = (wdJ 2 j).length by omega]; rfl
        | succ y ihy =>
          intro x G hx
          obtain ⟨p1, p2, p3⟩ := q2 x (by omega)
          show FX6_keyword_34_2000002_b9 _ _ _ _ _ _ _ = _
          unfold FX6_keyword_34_2000002_b9 FX6_keyword_34_2000002_b73
          rw [o2, b_some, if_neg (by rw [nn_lt (by omega) (by omega)]; omega), b_some, if_neg (by rw [nn_eq (by omega) (by omega)]; omega), p1, b_some, if_neg (by rw [eq_li (by decide) (by omega)]; exact p2), nI_1]
          exact ihy (x + 1) G (by omega)
      obtain ⟨G, hG⟩ : ∃ G, F = (G + 1) + (wdJ 2 j).length := ⟨F - 1 - (wdJ 2 j).length, by omega⟩
      rw [hG, ed0]
      refine Eq.trans (skip (wdJ 2 j).length 0 (G + 1) (by omega)) ?_
      have tst : FX6_keyword_34_2000002_L9 (G + 1) (nI s) (nI e) (nI j) (nI (psW (woL 2) j)) (nI (psW (woL 2) j + (wdJ 2 j).length)) u = FX6_keyword_34_2000002_b38 (FX6_keyword_34_2000002_L9 G) (nI s) (nI e) (nI j) (nI (psW (woL 2) j)) (nI (psW (woL 2) j + (wdJ 2 j).length)) u := by
        show FX6_keyword_34_2000002_b9 _ _ _ _ _ _ _ = _
        unfold FX6_keyword_34_2000002_b9
        rw [o2, b_some, if_neg (by rw [nn_lt (by omega) (by omega)]; omega), b_some]
        rcases q3 with h | ⟨h1, h2⟩
        · rw [if_pos (by rw [h])]
        · rw [if_neg (by rw [nn_eq (by omega) (by omega)]; omega), h2, b_some, if_pos rfl]
      rw [tst]
      unfold FX6_keyword_34_2000002_b38 FX6_keyword_34_2000002_b64 FX6_keyword_34_2000002_b73 kwI
      have ihn := ih (j + 1) G (by omega) (by omega)
      rw [q4] at ihn
      rw [nI_sub (by omega), nI_sub hse, nI_1, nI_1, ihn, show psW (woL 2) j + (wdJ 2 j).length - psW (woL 2) j = (wdJ 2 j).length by omega]
      by_cases c : (wdJ 2 j).length = e - s
      · rw [if_pos (by rw [c]), c_same_2 hT hjl he c hse, b_some]
        by_cases d : ct b s (e - s) = wdJ 2 j
        · rw [if_pos d, if_neg z1, if_pos d]
        · rw [if_neg d, if_pos rfl, if_neg d]
      · rw [if_neg (by rw [nn_eq (by omega) (by omega)]; exact c), if_neg]
        intro h
        have := ct_len b (e - s) s
        rw [h] at this
        exact c this
  unfold FX6_keyword_34_2000002
  have h0 := key (woL 2).length 0 FU (by omega) (by show _ < 10000; omega)
  have p0 : psW (woL 2) 0 = 0 := rfl
  rw [p0, nI_0, List.drop_zero] at h0
  exact h0
theorem c_same_3 {b : Nat → Nat} {n : Nat} {u : Mem} (hT : TP b n (u 35)) {j s e : Nat} (hj : j < (woL 3).length) (he : e ≤ n) (hl : (wdJ 3 j).length = e - s) (hse : s ≤ e) : FX6_same_34_2000003 (nI (psW (woL 3) j)) (nI s) (nI e) u = some (if ct b s (e - s) = wdJ 3 j then 1 else 0) := by
  obtain ⟨hn, hb⟩ := hT
  obtain ⟨o1, o2, o3, o4⟩ := okJ_t 3 (by decide)
  obtain ⟨q1, q2, -, -⟩ := (of_decide_eq_true o1) j hj
  have key : ∀ (m x F : Nat), x + m = e - s → m < F → (∀ y, y < x → b (s + y) = (wdJ 3 j).getD y 0) → FX6_same_34_2000003_L3 F (nI (psW (woL 3) j)) (nI s) (nI e) (nI x) u = some (if ct b s (e - s) = wdJ 3 j then 1 else 0) := by
    intro m
    induction m with
    | zero =>
      intro x F hx hF hy
      obtain ⟨f, rfl⟩ : ∃ f, F = f + 1 := ⟨F - 1, by omega⟩
      show FX6_same_34_2000003_b3 _ _ _ _ _ _ = _
      unfold FX6_same_34_2000003_b3
      rw [nI_add, ltE _ _ (by omega) (by omega) (by omega), if_pos ((ct_eq b (e - s) s _ hl).mpr (fun y h => hy y (by omega)))]
    | succ m ih =>
      intro x F hx hF hy
      obtain ⟨f, rfl⟩ : ∃ f, F = f + 1 := ⟨F - 1, by omega⟩
      obtain ⟨p1, p2, p3⟩ := q2 x (by omega)
      obtain ⟨g1, g2⟩ := hb (s + x) (by omega)
      show FX6_same_34_2000003_b3 _ _ _ _ _ _ = _
      unfold FX6_same_34_2000003_b3 FX6_same_34_2000003_b38
      rw [nI_add, nI_add, ltN _ _ (by omega) (by omega) (by omega), o2, b_some, ltN _ _ (by omega) (by omega) (by omega), c400 _ _ (by omega), if_neg z1, p1, b_some, rb (by omega) (by omega), g1, nI_1]
      by_cases c : (wdJ 3 j).getD x 0 = b (s + x)
      · rw [if_pos (by rw [c])]
        exact ih (x + 1) f (by omega) (by omega) (fun y h => by
          by_cases e : y = x
          · rw [e]; exact c.symm
          · exact hy y (by omega))
      · rw [if_neg (by rw [nn_eq (by omega) (by omega)]; exact c), if_neg]
        intro h
        exact c (((ct_eq b (e - s) s _ hl).mp h) x (by omega)).symm
  unfold FX6_same_34_2000003
  have h0 := key (e - s) 0 FU (by omega) (by show _ < 10000; omega) (fun y h => by omega)
  rw [nI_0] at h0
  exact h0
theorem c_kw_3 {b : Nat → Nat} {n : Nat} {u : Mem} (hT : TP b n (u 35)) {s e : Nat} (he : e ≤ n) (hse : s ≤ e) : FX6_keyword_34_2000003 (nI s) (nI e) u = some (kwI (woL 3) 0 (ct b s (e - s))) := by
  have hn := hT.1
  obtain ⟨o1, o2, o3, o4⟩ := okJ_t 3 (by decide)
  have key : ∀ (m j F : Nat), j + m = (woL 3).length → lnW 3 + 2 - psW (woL 3) j < F → FX6_keyword_34_2000003_L9 F (nI s) (nI e) (nI j) (nI (psW (woL 3) j)) (nI (psW (woL 3) j)) u = some (kwI ((woL 3).drop j) j (ct b s (e - s))) := by
    intro m
    induction m with
    | zero =>
      intro j F hj hF
      obtain ⟨f, rfl⟩ : ∃ f, F = f + 1 := ⟨F - 1, by omega⟩
      have ej : j = (woL 3).length := by omega
      rw [ej, o3, List.drop_length]
      show FX6_keyword_34_2000003_b9 _ _ _ _ _ _ _ = _
      unfold FX6_keyword_34_2000003_b9
      rw [o2, b_some, if_pos (by rw [nn_lt (by omega) (by omega)]; omega)]; rfl
    | succ m ih =>
      intro j F hj hF
      have hjl : j < (woL 3).length := by omega
      obtain ⟨q1, q2, q3, q4⟩ := (of_decide_eq_true o1) j hjl
      have ed0 : (woL 3).drop j = wdJ 3 j :: (woL 3).drop (j + 1) := by
        rw [List.drop_eq_getElem_cons hjl]
        unfold wdJ
        rw [List.getD_eq_getElem?_getD, List.getElem?_eq_getElem hjl]; rfl
      have skip : ∀ (y x G : Nat), x + y = (wdJ 3 j).length → FX6_keyword_34_2000003_L9 (G + y) (nI s) (nI e) (nI j) (nI (psW (woL 3) j)) (nI (psW (woL 3) j + x)) u = FX6_keyword_34_2000003_L9 G (nI s) (nI e) (nI j) (nI (psW (woL 3) j)) (nI (psW (woL 3) j + (wdJ 3 j).length)) u := by
        intro y
        induction y with
        | zero => intro x G hx; rw [show x = (wdJ 3 j).length by omega]; rfl
        | succ y ihy =>
          intro x G hx
          obtain ⟨p1, p2, p3⟩ := q2 x (by omega)
          show FX6_keyword_34_2000003_b9 _ _ _ _ _ _ _ = _
          unfold FX6_keyword_34_2000003_b9 FX6_keyword_34_2000003_b73
          rw [o2, b_some, if_neg (by rw [nn_lt (by omega) (by omega)]; omega), b_some, if_neg (by rw [nn_eq (by omega) (by omega)]; omega), p1, b_some, if_neg (by rw [eq_li (by decide) (by omega)]; exact p2), nI_1]
          exact ihy (x + 1) G (by omega)
      obtain ⟨G, hG⟩ : ∃ G, F = (G + 1) + (wdJ 3 j).length := ⟨F - 1 - (wdJ 3 j).length, by omega⟩
      rw [hG, ed0]
      refine Eq.trans (skip (wdJ 3 j).length 0 (G + 1) (by omega)) ?_
      have tst : FX6_keyword_34_2000003_L9 (G + 1) (nI s) (nI e) (nI j) (nI (psW (woL 3) j)) (nI (psW (woL 3) j + (wdJ 3 j).length)) u = FX6_keyword_34_2000003_b38 (FX6_keyword_34_2000003_L9 G) (nI s) (nI e) (nI j) (nI (psW (woL 3) j)) (nI (psW (woL 3) j + (wdJ 3 j).length)) u := by
        show FX6_keyword_34_2000003_b9 _ _ _ _ _ _ _ = _
        unfold FX6_keyword_34_2000003_b9
        rw [o2, b_some, if_neg (by rw [nn_lt (by omega) (by omega)]; omega), b_some]
        rcases q3 with h | ⟨h1, h2⟩
        · rw [if_pos (by rw [h])]
        · rw [if_neg (by rw [nn_eq (by omega) (by omega)]; omega), h2, b_some, if_pos rfl]
      rw [tst]
      unfold FX6_keyword_34_2000003_b38 FX6_keyword_34_2000003_b64 FX6_keyword_34_2000003_b73 kwI
      have ihn := ih (j + 1) G (by omega) (by omega)
      rw [q4] at ihn
      rw [nI_sub (by omega), nI_sub hse, nI_1, nI_1, ihn, show psW (woL 3) j + (wdJ 3 j).length - psW (woL 3) j = (wdJ 3 j).length by omega]
      by_cases c : (wdJ 3 j).length = e - s
      · rw [if_pos (by rw [c]), c_same_3 hT hjl he c hse, b_some]
        by_cases d : ct b s (e - s) = wdJ 3 j
        · rw [if_pos d, if_neg z1, if_pos d]
        · rw [if_neg d, if_pos rfl, if_neg d]
      · rw [if_neg (by rw [nn_eq (by omega) (by omega)]; exact c), if_neg]
        intro h
        have := ct_len b (e - s) s
        rw [h] at this
        exact c this
  unfold FX6_keyword_34_2000003
  have h0 := key (woL 3).length 0 FU (by omega) (by show _ < 10000; omega)
  have p0 : psW (woL 3) 0 = 0 := rfl
  rw [p0, nI_0, List.drop_zero] at h0
  exact h0

