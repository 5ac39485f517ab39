/-! ask, treaty -/
theorem pc_n {z : Int32} {j b : Nat} (hb : b ≤ 16) (hj : j < 2 ^ b) (e : z = nI j) : pc z ≤ b := by
  have hf : ∀ k, b ≤ k → k < 16 → tb z k = false := fun k h1 h2 => by
    rw [e, tb_nI j (by omega)]
    apply Nat.testBit_lt_two_pow
    have : 2 ^ b ≤ 2 ^ k := Nat.pow_le_pow_right (by omega) h1
    omega
  have h : ∀ n, n ≤ 16 → fo n (fun k c => c + if tb z k = true then 1 else 0) 0 ≤ min n b := by
    intro n
    induction n with
    | zero => intro _; exact Nat.zero_le _
    | succ n ih =>
      intro hn
      have := ih (by omega)
      rw [fo_s]
      by_cases c : n < b
      · show _ + (if tb z n = true then 1 else 0) ≤ _
        split <;> omega
      · show _ + (if tb z n = true then 1 else 0) ≤ _
        rw [hf n (by omega) (by omega), if_neg (by decide)]
        omega
  have := h 16 (Nat.le_refl _)
  unfold pc
  omega
theorem one_shl {m : Nat} (h : m < 16) : (1 : Int32) <<< (nI m &&& 31) = nI (2 ^ m) := by
  have : ∀ m, m < 16 → (1 : Int32) <<< (nI m &&& 31) = nI (2 ^ m) := by decide +kernel
  exact this m h
theorem sLeft_n {W : Wt} (hT : OkT W) : ∃ j, j < 2 ^ 12 ∧ sLeft W = nI j := by
  obtain ⟨hn, hn12⟩ := OkT_n hT
  refine fo_inv (fun _ s => ∃ j, j < 2 ^ 12 ∧ s = nI j) ⟨0, by omega, nI_0.symm⟩ _ (fun i s hi hs => ?_)
  obtain ⟨j, hj, e⟩ := hs
  show ∃ j, j < 2 ^ 12 ∧ (s ||| if lvB W (W (114 + i)) = true then 1 <<< (nI i &&& 31) else 0) = nI j
  by_cases c : lvB W (W (114 + i)) = true
  · rw [if_pos c, one_shl (by omega)]
    exact or_n (b := 12) (by omega) hj (Nat.pow_lt_pow_right (by omega) (by omega)) e rfl
  · rw [if_neg c]
    exact or_n (b := 12) (by omega) hj (k := 0) (by omega) e nI_0.symm
def slw (W : Wt) (S l : Int32) : Int32 := fo (nmen W) (fun m s => s + if tb S m = true ∧ W (114 + m) ≤ l then 1 else 0) 0
theorem slw_n {W : Wt} (hT : OkT W) (S l : Int32) : ∃ k, k ≤ 12 ∧ slw W S l = nI k := by
  obtain ⟨hn, hn12⟩ := OkT_n hT
  have : ∃ k, k ≤ nmen W ∧ slw W S l = nI k := by
    refine fo_inv (fun i s => ∃ k, k ≤ i ∧ s = nI k) ⟨0, by omega, nI_0.symm⟩ _ (fun i s hi hs => ?_)
    obtain ⟨j, hj, e⟩ := hs
    show ∃ k, k ≤ i + 1 ∧ (s + if tb S i = true ∧ W (114 + i) ≤ l then 1 else 0) = nI k
    split
    · exact ⟨j + 1, by omega, by rw [e, nI_1]⟩
    · exact ⟨j, by omega, by rw [e, Int32.add_zero]⟩
  obtain ⟨k, hk, e⟩ := this
  exact ⟨k, by omega, e⟩
def gtB (W : Wt) (S l : Int32) : Int32 := if slw W S l < nI (pc S) - slw W S l then nI (pc S) - slw W S l else slw W S l
theorem gtB_lt {W : Wt} (hT : OkT W) {S : Int32} (hp : pc S ≤ 12) (l : Int32) : gtB W S l < 13 := by
  obtain ⟨k, hk, e⟩ := slw_n hT S l
  unfold gtB
  rw [e]
  split
  · rw [Int32.lt_iff_toInt_lt, nI_subI (by omega) (by omega)]
    have : (13 : Int32).toInt = 13 := by decide
    omega
  · rw [lt_li (by decide) (by omega)]; show k < 13; omega
def askB (W : Wt) (S : Int32) : Nat → Nat
  | 0 => 1
  | i + 1 => if gtB W S (nI (i + 2)) < gtB W S (nI (askB W S i)) then i + 2 else askB W S i
def askS (W : Wt) (x : Int32) : Nat → Int32 × Int32
  | 0 => (-1, 13)
  | i + 1 => (nI (askB W x i), gtB W x (nI (askB W x i)))
theorem m_gtB {u : Mem} {W : Wt} (hu : u 147 = W) (hT : OkT W) (S l : Int32) : FX12_greaterBy_146 l S u = some (gtB W S l) := by
  obtain ⟨hn, hn12⟩ := OkT_n hT
  refine lp_v (fun F i s => FX12_greaterBy_146_L5 F l S s i u) (nmen W) (fun i => fo i (fun m s => s + if tb S m = true ∧ W (114 + m) ≤ l then 1 else 0) 0) _ (fun i F hi => ?_) (fun F => ?_) FU (by show _ < 10000; omega)
  · show FX12_greaterBy_146_b5 _ _ _ _ _ _ = _
    unfold FX12_greaterBy_146_b5 FX12_greaterBy_146_b47
    rw [hu, hn, if_neg (nle hi (by omega)), rl (by show 114 + i < _; omega) (by omega), hu, fo_s, nI_1]
    show (if ((S >>> (nI i &&& 31)) &&& 1) = 1 then (if l < W (114 + i) then _ else _) else _) = _
    by_cases c1 : tb S i = true
    · rw [if_pos (show ((S >>> (nI i &&& 31)) &&& 1) = 1 by rw [bit_1 _ (by omega)]; exact c1)]
      by_cases c2 : W (114 + i) ≤ l
      · rw [if_neg (by rw [Int32.not_lt]; exact c2), if_pos ⟨c1, c2⟩]
      · rw [if_pos (by rw [← Int32.not_le]; exact c2), if_neg (fun h => c2 h.2)]
    · rw [if_neg (show ¬ ((S >>> (nI i &&& 31)) &&& 1) = 1 by rw [bit_1 _ (by omega)]; exact c1), if_neg (fun h => c1 h.1)]
  · show FX12_greaterBy_146_b5 _ _ _ _ _ _ = _
    unfold FX12_greaterBy_146_b5
    rw [hu, hn, if_pos (yle (by omega)), m_count, b_some]
    show (FX12_greater (slw W S l) (nI (pc S) - slw W S l)).bind _ = _
    unfold FX12_greater gtB
    by_cases c : slw W S l < nI (pc S) - slw W S l
    · rw [if_pos c, if_pos (Int32.le_of_lt c), b_some]
    · rw [if_neg c]
      by_cases c2 : slw W S l ≤ nI (pc S) - slw W S l
      · rw [if_pos c2, b_some]
        exact congrArg some (Int32.le_antisymm (by rw [← Int32.not_lt]; exact c) c2)
      · rw [if_neg c2, b_some]
theorem A_ask : A1 FX11_ask_0 FX12_ask_146 := by
  intro v w h
  obtain ⟨a, b, -⟩ := h
  obtain ⟨hn, hn12⟩ := OkT_n a.1
  obtain ⟨j, hj, ej⟩ := sLeft_n a.1
  have hp : pc (sLeft (w 147)) ≤ 12 := pc_n (by omega) hj ej
  unfold FX11_ask_0 FX7_firstAsked_106 FX12_ask_146
  rw [c_left b.1 a.1, m_left rfl a.1, b_some, b_some, m_count, b_some]
  have eb : FJ6_bitCount_0f7a4 (sLeft (w 147)) = some (nI (pc (sLeft (w 147)))) := by rw [ej]; exact bc_4k hj
  rw [eb, b_some]
  by_cases c2 : (2 : Int32) ≤ nI (pc (sLeft (w 147)))
  · rw [if_pos c2, if_pos c2]
    refine ⟨nI (askB (w 147) (sLeft (w 147)) 8), ?_, ?_⟩
    · have inner : ∀ (k18 : Int32 → Int32 → Int32 → Int32 → Mem → Option Int32) (be le l : Int32), FX7_firstAsked_106_L31 k18 FU (sLeft (w 147)) be le l 0 0 v = FX7_firstAsked_106_b90 k18 (sLeft (w 147)) be le l (slw (w 147) (sLeft (w 147)) l) v := by
        intro k18 be le l
        refine lp_v (fun F i s => FX7_firstAsked_106_L31 k18 F (sLeft (w 147)) be le l s i v) (nmen (w 147)) (fun i => fo i (fun m s => s + if tb (sLeft (w 147)) m = true ∧ w 147 (114 + m) ≤ l then 1 else 0) 0) _ (fun i F hi => ?_) (fun F => ?_) FU (by show _ < 10000; omega)
        · show FX7_firstAsked_106_b31 _ _ _ _ _ _ _ _ _ = _
          unfold FX7_firstAsked_106_b31 FX7_firstAsked_106_b81
          rw [if_neg (n12 (by omega)), gmen b.1, hn, if_neg (nle hi (by omega)), holds_b _ (by omega), b_some, rb (by omega) (by omega), gle b.1 (by omega), fo_s, nI_1]
          by_cases c1 : tb (sLeft (w 147)) i = true
          · rw [if_pos c1, if_neg z1]
            by_cases c3 : w 147 (114 + i) ≤ l
            · rw [if_neg (by rw [Int32.not_lt]; exact c3), if_pos ⟨c1, c3⟩]
            · rw [if_pos (by rw [← Int32.not_le]; exact c3), if_neg (fun h => c3 h.2)]
          · rw [if_neg c1, if_pos rfl, if_neg (fun h => c1 h.1)]
        · show FX7_firstAsked_106_b31 _ _ _ _ _ _ _ _ _ = _
          unfold FX7_firstAsked_106_b31
          rw [gmen b.1, hn, two_ends _ _ (yle (by omega))]
          rfl
      have hh : FX7_firstAsked_106_L18 FU (sLeft (w 147)) (-1) 13 (nI 0 + 1) v = some (nI (askB (w 147) (sLeft (w 147)) 8)) := by
        refine lp_v (S := Int32 × Int32) (fun F i s => FX7_firstAsked_106_L18 F (sLeft (w 147)) s.1 s.2 (i + 1) v) 9 (fun i => askS (w 147) (sLeft (w 147)) i) _ (fun i F hi => ?_) (fun F => ?_) FU (by decide)
        · show FX7_firstAsked_106_b18 _ _ _ _ _ _ = _
          unfold FX7_firstAsked_106_b18
          rw [nI_1, nI_1, if_neg (by rw [li_lt (by decide) (by omega)]; show ¬ 9 < i + 1; omega), inner]
          unfold FX7_firstAsked_106_b90 FX7_firstAsked_106_b116
          rw [eb, b_some, nI_1]
          show (if _ ≤ gtB (w 147) (sLeft (w 147)) (nI (i + 1)) then FX7_firstAsked_106_L18 F (sLeft (w 147)) _ _ (nI (i + 1 + 1)) v else FX7_firstAsked_106_L18 F (sLeft (w 147)) (nI (i + 1)) (gtB (w 147) (sLeft (w 147)) (nI (i + 1))) (nI (i + 1 + 1)) v) = _
          cases i with
          | zero =>
            show (if (13 : Int32) ≤ _ then _ else _) = _
            rw [if_neg (by rw [Int32.not_le]; exact gtB_lt a.1 hp _)]
            rfl
          | succ k =>
            show (if gtB (w 147) (sLeft (w 147)) (nI (askB (w 147) (sLeft (w 147)) k)) ≤ gtB (w 147) (sLeft (w 147)) (nI (k + 2)) then FX7_firstAsked_106_L18 F (sLeft (w 147)) (nI (askB (w 147) (sLeft (w 147)) k)) (gtB (w 147) (sLeft (w 147)) (nI (askB (w 147) (sLeft (w 147)) k))) (nI (k + 1 + 1 + 1)) v else FX7_firstAsked_106_L18 F (sLeft (w 147)) (nI (k + 2)) (gtB (w 147) (sLeft (w 147)) (nI (k + 2))) (nI (k + 1 + 1 + 1)) v) = FX7_firstAsked_106_L18 F (sLeft (w 147)) (nI (if gtB (w 147) (sLeft (w 147)) (nI (k + 2)) < gtB (w 147) (sLeft (w 147)) (nI (askB (w 147) (sLeft (w 147)) k)) then k + 2 else askB (w 147) (sLeft (w 147)) k)) (gtB (w 147) (sLeft (w 147)) (nI (if gtB (w 147) (sLeft (w 147)) (nI (k + 2)) < gtB (w 147) (sLeft (w 147)) (nI (askB (w 147) (sLeft (w 147)) k)) then k + 2 else askB (w 147) (sLeft (w 147)) k))) (nI (k + 1 + 1 + 1)) v
            by_cases y : gtB (w 147) (sLeft (w 147)) (nI (k + 2)) < gtB (w 147) (sLeft (w 147)) (nI (askB (w 147) (sLeft (w 147)) k))
            · rw [if_pos y, if_neg (by rw [Int32.not_le]; exact y)]
            · rw [if_neg y, if_pos (by rw [← Int32.not_lt]; exact y)]
        · show FX7_firstAsked_106_b18 _ _ _ _ _ _ = _
          unfold FX7_firstAsked_106_b18
          rw [if_pos (by decide)]
          rfl
      rw [nI_0, show (0 : Int32) + 1 = 1 by decide] at hh
      rw [hh, b_some]
    · have hh : FX12_ask_146_L19 FU (sLeft (w 147)) 1 (nI 0 + 2) w = some (nI (askB (w 147) (sLeft (w 147)) 8)) := by
        refine lp_v (fun F i s => FX12_ask_146_L19 F (sLeft (w 147)) s (i + 2) w) 8 (fun i => nI (askB (w 147) (sLeft (w 147)) i)) _ (fun i F hi => ?_) (fun F => ?_) FU (by decide)
        · show FX12_ask_146_b19 _ _ _ _ _ = FX12_ask_146_L19 F (sLeft (w 147)) (nI (if gtB (w 147) (sLeft (w 147)) (nI (i + 2)) < gtB (w 147) (sLeft (w 147)) (nI (askB (w 147) (sLeft (w 147)) i)) then i + 2 else askB (w 147) (sLeft (w 147)) i)) (nI (i + 1) + 2) w
          unfold FX12_ask_146_b19 FX12_ask_146_b42
          rw [show nI i + 2 = nI (i + 2) from nI_add i 2, show nI (i + 1) + 2 = nI (i + 2 + 1) from (nI_add (i + 1) 2).trans (by congr 1), if_neg (by rw [li_lt (by decide) (by omega)]; show ¬ 9 < i + 2; omega), m_gtB rfl a.1, b_some, m_gtB rfl a.1, b_some, nI_1]
          by_cases y : gtB (w 147) (sLeft (w 147)) (nI (i + 2)) < gtB (w 147) (sLeft (w 147)) (nI (askB (w 147) (sLeft (w 147)) i))
          · rw [if_pos y, if_neg (by rw [Int32.not_le]; exact y)]
          · rw [if_neg y, if_pos (by rw [← Int32.not_lt]; exact y)]
        · show FX12_ask_146_b19 _ _ _ _ _ = _
          unfold FX12_ask_146_b19
          rw [if_pos (by decide)]
      rw [nI_0, show (0 : Int32) + 2 = 2 by decide] at hh
      exact hh
  · rw [if_neg c2, if_neg c2, b_some]
    exact ⟨-1, rfl, rfl⟩
theorem sWt1_n {W : Wt} (hT : OkT W) (f : Int32) : ∃ j, j ≤ 99 ∧ sWt1 W f = nI j := by
  refine fo_inv (fun _ s => ∃ j, j ≤ 99 ∧ s = nI j) ⟨1, by omega, rfl⟩ _ (fun i s hi hs => ?_)
  show ∃ j, j ≤ 99 ∧ (if W (190 + 2 * i) = f then W (190 + 2 * i + 1) else s) = nI j
  split
  · obtain ⟨k, j, _, hj, _, e⟩ := OkT_we hT i hi
    exact ⟨j, hj, e⟩
  · exact hs
theorem sWt_n {W : Wt} (hT : OkT W) (z : Int32) : ∃ j, j ≤ 792 ∧ sWt W z = nI j := by
  have : ∃ j, j ≤ 99 * 8 ∧ sWt W z = nI j := by
    refine fo_inv (fun i s => ∃ j, j ≤ 99 * i ∧ s = nI j) ⟨0, by omega, nI_0.symm⟩ 8 (fun i s hi hs => ?_)
    obtain ⟨j, hj, e⟩ := hs
    show ∃ j, j ≤ 99 * (i + 1) ∧ (s + if tb z i = true then sWt1 W (nI i) else 0) = nI j
    split
    · obtain ⟨k, hk, e2⟩ := sWt1_n hT (nI i)
      exact ⟨j + k, by omega, by rw [e, e2, nI_add]⟩
    · exact ⟨j, by omega, by rw [e, Int32.add_zero]⟩
  exact this
def peace (W : Wt) (z : Int32) : Bool := decide (sWt W (sKn W 0 &&& (z ^^^ (-1))) < W 79 ∨ sWt W (sKn W 1 &&& (z ^^^ (-1))) < W 79)
theorem c_peace {u : Mem} {W : Wt} (hC : CR 23 u W) (hT : OkT W) (z : Int32) : FX7_endsWar_106 z u = some (if peace W z = true then 1 else 0) := by
  unfold FX7_endsWar_106 peace
  rw [c_known_32 hC hT, b_some, c_wOf hC, b_some, c_known_32 hC hT, b_some, c_wOf hC, b_some, gkeep hC]
  by_cases c0 : sWt W (sKn W 0 &&& (z ^^^ (-1))) < W 79
  · rw [if_pos c0, if_pos (by rw [decide_eq_true_eq]; exact Or.inl c0)]
  · by_cases c1 : sWt W (sKn W 1 &&& (z ^^^ (-1))) < W 79
    · rw [if_neg c0, if_neg (by rw [Int32.not_le]; exact c1), if_pos (by rw [decide_eq_true_eq]; exact Or.inr c1)]
    · rw [if_neg c0, if_pos (by rw [← Int32.not_lt]; exact c1), if_neg (by rw [decide_eq_true_eq]; exact fun h => h.elim c0 c1)]
theorem m_peace {u : Mem} {W : Wt} (hu : u 147 = W) (hT : OkT W) (z : Int32) : FX12_makesPeace_146 z u = some (if peace W z = true then 1 else 0) := by
  unfold FX12_makesPeace_146 peace
  rw [m_known hu hT, b_some, m_wt hu hT, b_some, m_known hu hT, b_some, m_wt hu hT, b_some, hu]
  by_cases c0 : sWt W (sKn W 0 &&& (z ^^^ (-1))) < W 79
  · rw [if_pos c0, if_pos (by rw [decide_eq_true_eq]; exact Or.inl c0)]
  · by_cases c1 : sWt W (sKn W 1 &&& (z ^^^ (-1))) < W 79
    · rw [if_neg c0, if_neg (by rw [Int32.not_le]; exact c1), if_pos (by rw [decide_eq_true_eq]; exact Or.inr c1)]
    · rw [if_neg c0, if_pos (by rw [← Int32.not_lt]; exact c1), if_neg (by rw [decide_eq_true_eq]; exact fun h => h.elim c0 c1)]
def tyC (W : Wt) (i : Nat) : Bool := decide (nI i &&& ((sKn W 0 ||| sKn W 1) ^^^ (-1)) = 0) && peace W (nI i)
def tyB (W : Wt) (i : Nat) (b : Int32) : Bool := decide (b = -1 ∨ sWt W (nI i) < sWt W b ∨ (sWt W (nI i) = sWt W b ∧ pc (nI i) < pc b))
def tyT (W : Wt) : Nat → Int32
  | 0 => -1
  | i + 1 => if tyC W i = true ∧ tyB W i (tyT W i) = true then nI i else tyT W i
theorem tyT_ok (W : Wt) : ∀ i, tyT W i = -1 ∨ ∃ k, k < i ∧ tyT W i = nI k
  | 0 => Or.inl rfl
  | i + 1 => by
    unfold tyT; split
    · exact Or.inr ⟨i, by omega, rfl⟩
    · rcases tyT_ok W i with e | ⟨k, hk, e⟩
      · exact Or.inl e
      · exact Or.inr ⟨k, by omega, e⟩
theorem c_treaty {u : Mem} {W : Wt} (hC : CR 23 u W) (hT : OkT W) (p : Int32) : FX7_bestTreaty_106 p u = some (if p = 0 then (if tyT W 256 = -1 then -1 else sWt W (tyT W 256)) else tyT W 256) := by
  unfold FX7_bestTreaty_106
  rw [c_known_32 hC hT, b_some, c_known_32 hC hT, b_some]
  refine lp_v (S := Int32 × Int32) (fun F i s => FX7_bestTreaty_106_L26 F p (sKn W 0 ||| sKn W 1) s.1 s.2 i u) 256 (fun i => (tyT W i, if tyT W i = -1 then -1 else sWt W (tyT W i))) _ (fun i F hi => ?_) (fun F => ?_) FU (by decide)
  · show FX7_bestTreaty_106_b26 _ _ _ _ _ _ _ = FX7_bestTreaty_106_L26 F p (sKn W 0 ||| sKn W 1) (tyT W (i + 1)) (if tyT W (i + 1) = -1 then -1 else sWt W (tyT W (i + 1))) (nI (i + 1)) u
    have key : tyT W (i + 1) = if tyC W i = true ∧ tyB W i (tyT W i) = true then nI i else tyT W i := rfl
    unfold FX7_bestTreaty_106_b26 FX7_bestTreaty_106_b83 FX7_bestTreaty_106_b109 FX7_bestTreaty_106_b116
    dsimp only
    rw [if_neg (by rw [li_le (by decide) (by omega)]; show ¬ 256 ≤ i; omega), c_peace hC hT, b_some, c_wOf hC, b_some, bc_dec i hi, b_some, nI_1]
    by_cases c1 : nI i &&& ((sKn W 0 ||| sKn W 1) ^^^ (-1)) = 0
    · rw [if_pos c1]
      by_cases c2 : peace W (nI i) = true
      · rw [if_pos c2, if_neg z1]
        have cc : tyC W i = true := by unfold tyC; rw [c2, decide_eq_true c1]; rfl
        have yes : tyB W i (tyT W i) = true → FX7_bestTreaty_106_L26 F p (sKn W 0 ||| sKn W 1) (tyT W (i + 1)) (if tyT W (i + 1) = -1 then -1 else sWt W (tyT W (i + 1))) (nI (i + 1)) u = FX7_bestTreaty_106_L26 F p (sKn W 0 ||| sKn W 1) (nI i) (sWt W (nI i)) (nI (i + 1)) u := fun c => by
          rw [key, if_pos ⟨cc, c⟩, if_neg (nI_m1 (by omega))]
        have no : ¬ tyB W i (tyT W i) = true → FX7_bestTreaty_106_L26 F p (sKn W 0 ||| sKn W 1) (tyT W (i + 1)) (if tyT W (i + 1) = -1 then -1 else sWt W (tyT W (i + 1))) (nI (i + 1)) u = FX7_bestTreaty_106_L26 F p (sKn W 0 ||| sKn W 1) (tyT W i) (if tyT W i = -1 then -1 else sWt W (tyT W i)) (nI (i + 1)) u := fun c => by
          rw [key, if_neg (fun h => c h.2)]
        rcases tyT_ok W i with e | ⟨k, hk, e⟩
        · rw [yes (by unfold tyB; rw [decide_eq_true_eq]; exact Or.inl e), e]
          obtain ⟨y, hy⟩ : ∃ y, FJ6_bitCount_0f7a4 (-1) = some y := ⟨_, rfl⟩
          rw [hy, b_some, if_pos rfl]
          simp only [if_pos, ite_self]
        · have pi := pc_le (nI i)
          have pk := pc_le (nI k)
          rw [e] at yes no ⊢
          rw [if_neg (nI_m1 (by omega))] at no
          rw [bc_dec k (by omega), b_some]
          simp only [if_neg (show ¬ nI k = -1 from nI_m1 (by omega))]
          by_cases c4 : sWt W (nI i) < sWt W (nI k)
          · rw [yes (by unfold tyB; rw [decide_eq_true_eq]; exact Or.inr (Or.inl c4))]
            simp only [if_neg (show ¬ nI k = -1 from nI_m1 (by omega)), if_pos c4, ite_self]
          · by_cases c5 : sWt W (nI i) = sWt W (nI k)
            · by_cases c6 : pc (nI i) < pc (nI k)
              · rw [yes (by unfold tyB; rw [decide_eq_true_eq]; exact Or.inr (Or.inr ⟨c5, c6⟩)), if_neg (by rw [nn_le (by omega) (by omega)]; omega), if_neg c4, if_pos c5, if_neg z1]
              · rw [no (by
                  unfold tyB; rw [decide_eq_true_eq]
                  rintro (h | h | ⟨-, h⟩)
                  · exact nI_m1 (by omega) h
                  · exact c4 h
                  · exact c6 h), if_pos (by rw [nn_le (by omega) (by omega)]; omega), if_neg c4, if_pos c5, if_pos trivial]
            · rw [no (by
                unfold tyB; rw [decide_eq_true_eq]
                rintro (h | h | ⟨h, -⟩)
                · exact nI_m1 (by omega) h
                · exact c4 h
                · exact c5 h)]
              simp only [if_neg (show ¬ nI k = -1 from nI_m1 (by omega)), if_neg c4, if_neg c5, ite_self]
      · have nn : ¬ (tyC W i = true ∧ tyB W i (tyT W i) = true) := fun h => by have h1 := h.1; unfold tyC at h1; rw [Bool.and_eq_true] at h1; exact c2 h1.2
        rw [if_neg c2, if_pos rfl, key, if_neg nn]
    · have nn : ¬ (tyC W i = true ∧ tyB W i (tyT W i) = true) := fun h => by have h1 := h.1; unfold tyC at h1; rw [Bool.and_eq_true, decide_eq_true_eq] at h1; exact c1 h1.1
      rw [if_neg c1, key, if_neg nn]
  · show FX7_bestTreaty_106_b26 _ _ _ _ _ _ _ = _
    unfold FX7_bestTreaty_106_b26
    rw [if_pos (by decide)]
    split <;> rfl
theorem m_treaty {u : Mem} {W : Wt} (hu : u 147 = W) (hT : OkT W) {p : Int32} (hp : p = 0 ∨ p = 1) : FX12_treaty_146_L28 FU p (sKn W 0 ||| sKn W 1) (-1) 0 u = some (if p = 0 then (if tyT W 256 = -1 then -1 else sWt W (tyT W 256)) else tyT W 256) := by
  refine lp_v (fun F i s => FX12_treaty_146_L28 F p (sKn W 0 ||| sKn W 1) s i u) 256 (fun i => tyT W i) _ (fun i F hi => ?_) (fun F => ?_) FU (by decide)
  · show FX12_treaty_146_b28 _ _ _ _ _ _ = FX12_treaty_146_L28 F p (sKn W 0 ||| sKn W 1) (tyT W (i + 1)) (nI (i + 1)) u
    have key : tyT W (i + 1) = if tyC W i = true ∧ tyB W i (tyT W i) = true then nI i else tyT W i := rfl
    unfold FX12_treaty_146_b28 FX12_treaty_146_b78 FX12_treaty_146_b102 FX12_treaty_146_b105
    rw [if_neg (by rw [li_le (by decide) (by omega)]; show ¬ 256 ≤ i; omega), m_peace hu hT, b_some, m_wt hu hT, b_some, m_wt hu hT, b_some, m_count, b_some, m_count, b_some, nI_1]
    by_cases c1 : nI i &&& ((sKn W 0 ||| sKn W 1) ^^^ (-1)) = 0
    · rw [if_pos c1]
      by_cases c2 : peace W (nI i) = true
      · rw [if_pos c2, if_neg z1]
        have cc : tyC W i = true := by unfold tyC; rw [c2, decide_eq_true c1]; rfl
        rcases tyT_ok W i with e | ⟨k, hk, e⟩
        · rw [key, if_pos (show tyC W i = true ∧ tyB W i (tyT W i) = true from ⟨cc, by unfold tyB; rw [decide_eq_true_eq]; exact Or.inl e⟩), if_pos e, if_pos (by decide)]
        · have pi := pc_le (nI i)
          have pk := pc_le (nI k)
          obtain ⟨x, hx, ex⟩ := sWt_n hT (nI i)
          obtain ⟨y, hy, ey⟩ := sWt_n hT (nI k)
          have p1 : (nI x - nI y < 0) = (x < y) := by
            rw [Int32.lt_iff_toInt_lt, nI_subI (by omega) (by omega)]
            have h2 : (0 : Int32).toInt = 0 := by decide
            rw [h2]; apply propext; omega
          have p2 := sub_zero (a := x) (b := y) (by omega) (by omega)
          rw [key, e, if_neg (nI_m1 (by omega))]
          have b1 : (tyB W i (nI k) = true) = (x < y ∨ (x = y ∧ pc (nI i) < pc (nI k))) := by
            unfold tyB; rw [decide_eq_true_eq, ex, ey, nn_lt (by omega) (by omega), nn_eq (by omega) (by omega)]
            apply propext
            exact ⟨fun h => h.elim (fun h => absurd h (nI_m1 (by omega))) id, Or.inr⟩
          simp only [ex, ey, p1, p2, b1]
          by_cases c4 : x < y
          · rw [if_pos c4, if_pos ⟨cc, Or.inl c4⟩]
          · rw [if_neg c4]
            by_cases c5 : x = y
            · rw [if_pos c5]
              by_cases c6 : pc (nI i) < pc (nI k)
              · rw [if_neg (by rw [nn_le (by omega) (by omega)]; omega), if_pos ⟨cc, Or.inr ⟨c5, c6⟩⟩]
              · rw [if_pos (by rw [nn_le (by omega) (by omega)]; omega), if_neg (by rintro ⟨-, h | h⟩; exact c4 h; exact c6 h.2)]
            · rw [if_neg c5, if_neg (by rintro ⟨-, h | h⟩; exact c4 h; exact c5 h.1)]
      · have nn : ¬ (tyC W i = true ∧ tyB W i (tyT W i) = true) := fun h => by have h1 := h.1; unfold tyC at h1; rw [Bool.and_eq_true] at h1; exact c2 h1.2
        rw [if_neg c2, if_pos rfl, key, if_neg nn]
    · have nn : ¬ (tyC W i = true ∧ tyB W i (tyT W i) = true) := fun h => by have h1 := h.1; unfold tyC at h1; rw [Bool.and_eq_true, decide_eq_true_eq] at h1; exact c1 h1.1
      rw [if_neg c1, key, if_neg nn]
  · show FX12_treaty_146_b28 _ _ _ _ _ _ = _
    unfold FX12_treaty_146_b28 FX12_treaty_146_b121
    rw [if_pos (by decide)]
    by_cases c : tyT W 256 = -1
    · rw [if_pos c, if_pos c, c, ite_self]
    · rw [if_neg c, if_neg c, m_wt hu hT, b_some]
      rcases hp with rfl | rfl
      · rw [if_neg z01, if_pos rfl]
      · rw [if_pos rfl, if_neg z1]
theorem A_treaty (p : Int32) : A1 (FX11_treaty_0 p) (FX12_treaty_146 p) := by
  intro v w h
  obtain ⟨a, b, -⟩ := h
  unfold FX11_treaty_0 FX12_treaty_146
  rw [m_in, b_some]
  by_cases c : 0 ≤ p ∧ p ≤ 1
  · rw [if_neg (by rw [Int32.not_lt]; exact c.1), if_pos c.2, if_pos c, if_neg z1, c_treaty b.1 a.1, b_some, m_known rfl a.1, b_some, m_known rfl a.1, b_some]
    rw [i32_1] at c
    obtain ⟨j, hj, rfl⟩ := c
    refine ⟨_, rfl, m_treaty rfl a.1 ?_⟩
    rcases (by omega : j = 0 ∨ j = 1) with rfl | rfl
    · exact Or.inl nI_0
    · exact Or.inr rfl
  · rw [if_neg c, if_pos rfl]
    refine ⟨-1, ?_, rfl⟩
    rcases not_in c with c1 | ⟨c1, c2⟩
    · rw [if_pos c1]
    · rw [if_neg c1, if_neg c2]
