/-! what the reference does, told outright -/
def SK (g : Mem) (S : List Wt) : Prop := S.length ≤ 6 ∧ g 146 4 = nI S.length ∧ ∀ j R, S[j]? = some R → ∀ k, k < 78 → g 149 (78 * j + k) = R k
def GS (g : Mem) (W : Wt) (S : List Wt) : Prop := g 147 = W ∧ SK g S ∧ g 146 16 = 0
def psh (S : List Wt) (W : Wt) : List Wt := (if S.length = 6 then S.tail else S) ++ [W]
theorem psh_len {S : List Wt} (h : S.length ≤ 6) (W : Wt) : (psh S W).length = min 6 (S.length + 1) := by
  unfold psh
  by_cases c : S.length = 6
  · rw [if_pos c, List.length_append, List.length_tail, c]
    rfl
  · rw [if_neg c, List.length_append]
    show S.length + 1 = _
    omega
theorem ge_keep {g : Mem} {W : Wt} {S : List Wt} (h : GS g W S) : ∃ g', FX12_keeps_146 g = some g' ∧ GS g' W (psh S W) ∧ (∀ k, k ≠ 4 → g' 146 k = g 146 k) := by
  obtain ⟨h1, ⟨h2, h3, h4⟩, h5⟩ := h
  obtain ⟨w', k1, ⟨y, k2, ky⟩, k3, k4, k5⟩ := m_keep h2 h3
  refine ⟨w', k1, ⟨(k3 147 (by decide)).trans h1, ⟨?_, ?_, fun j R hj k hk => ?_⟩, by rw [k2, up_ne (by omega)]; exact h5⟩, fun k hk => by rw [k2, up_ne hk]⟩
  · rw [psh_len h2]; omega
  · rw [psh_len h2, k2, up_eq, ky]
  · have hlen : j < (psh S W).length := (List.getElem?_eq_some_iff.mp hj).1
    rw [psh_len h2] at hlen
    by_cases last : j + 1 < min 6 (S.length + 1)
    · rw [k5 j last k hk]
      unfold psh at hj
      by_cases c : S.length = 6
      · rw [if_pos c, List.getElem?_append_left (by rw [List.length_tail, c]; omega), List.getElem?_tail] at hj
        have e : j + (S.length + 1 - min 6 (S.length + 1)) = j + 1 := by omega
        rw [e]
        exact h4 (j + 1) R hj k hk
      · rw [if_neg c, List.getElem?_append_left (by omega)] at hj
        have e : j + (S.length + 1 - min 6 (S.length + 1)) = j := by omega
        rw [e]
        exact h4 j R hj k hk
    · have ej : j = min 6 (S.length + 1) - 1 := by omega
      have eR : R = W := by
        unfold psh at hj
        by_cases c : S.length = 6
        · rw [if_pos c, List.getElem?_append_right (by rw [List.length_tail, c]; omega), List.length_tail, c] at hj
          have : j - (6 - 1) = 0 := by omega
          rw [this] at hj
          exact (Option.some.inj hj).symm
        · rw [if_neg c, List.getElem?_append_right (by omega)] at hj
          have : j - S.length = 0 := by omega
          rw [this] at hj
          exact (Option.some.inj hj).symm
      rw [ej, k4 k hk, eR, h1]
theorem dFights_md (tr : Int32) (W : Wt) (a b : Int32) : (dFights tr (W, a)).1 = (dFights tr (W, b)).1 := by
  have key : ∀ (s t : Wt × Int32) (x : Nat), s.1 = t.1 → (dFight tr x s).1 = (dFight tr x t).1 := fun s t x e => by
    obtain ⟨s1, s2⟩ := s
    obtain ⟨t1, t2⟩ := t
    have e : s1 = t1 := e
    subst e
    unfold dFight
    simp only
    split
    · split <;> rfl
    · rfl
  have all : ∀ n, (fo n (dFight tr) (W, a)).1 = (fo n (dFight tr) (W, b)).1 := fun n => by
    induction n with
    | zero => rfl
    | succ n ih => rw [fo_s, fo_s]; exact key _ _ n ih
  rw [← dFights_def, ← dFights_def]
  exact all 16
theorem dDay_md (fa tr : Int32) (W : Wt) (a b : Int32) : (dDay fa tr (W, a)).1 = (dDay fa tr (W, b)).1 := by
  have e : (dWages fa tr (W, a)).1 = (dWages fa tr (W, b)).1 := by
    rw [dWages_1, dWages_1]
    show dArrive (dFights tr (dMarches (dCallUp fa tr 1 (dCallUp fa tr 0 W)), a)).1 = dArrive (dFights tr (dMarches (dCallUp fa tr 1 (dCallUp fa tr 0 W)), b)).1
    rw [dFights_md tr _ a b]
  unfold dDay
  simp only
  split
  · simp only [e]
  · rfl
abbrev dd1 (W : Wt) : Wt := (dDay 0 1 (W, 0)).1
theorem ge_day {g : Mem} {W : Wt} {S : List Wt} (h : GS g W S) (hW : WO W) (h27 : g 146 27 = 0) (h28 : g 146 28 = 1) : ∃ g', FX12_aDay_146 g = some g' ∧ GS g' (dd1 W) S ∧ g' 146 27 = 0 ∧ g' 146 28 = 1 := by
  obtain ⟨h1, ⟨h2, h3, h4⟩, h5⟩ := h
  subst h1
  have hM : MD (g 146) g (g 147, g 146 29) := MD_mk ⟨rfl, by rw [upd_self rfl]⟩
  obtain ⟨w', e2, x2⟩ := m_day hM hW
  rw [h27, h28] at x2
  have x2 := MD_un x2
  have f2 := frX12_aDay_146 _ e2
  have q1 := x2.1
  have q2 := x2.2
  rw [dDay_md 0 1 (g 147) (g 146 29) 0] at q1
  refine ⟨w', e2, ⟨q1, ⟨h2, by rw [q2, up_ne (by omega)]; exact h3, fun j R hj k hk => ?_⟩, by rw [q2, up_ne (by omega)]; exact h5⟩, by rw [q2, up_ne (by omega)]; exact h27, by rw [q2, up_ne (by omega)]; exact h28⟩
  rw [f2 149 (by decide)]
  exact h4 j R hj k hk
/-- days in a row: the row, what is kept, the days of war -/
def dst (s : Wt × List Wt × Int32) : Wt × List Wt × Int32 := (dd1 s.1, psh s.2.1 s.1, s.2.2 + s.1 1)
def dsN : Nat → Wt × List Wt × Int32 → Wt × List Wt × Int32
  | 0, s => s
  | n + 1, s => dst (dsN n s)
theorem dd1_WO {W : Wt} (h : WO W) : WO (dd1 W) := (dDay_w (fa := 0) (tr := 1) (s := (W, 0)) h).1
theorem dsN_WO {s : Wt × List Wt × Int32} (h : WO s.1) : ∀ n, WO (dsN n s).1
  | 0 => h
  | n + 1 => dd1_WO (dsN_WO h n)
theorem ge_daysL {s0 : Wt × List Wt × Int32} (hW : WO s0.1) (n : Nat) (hn : n < 1000) : ∀ (k i F : Nat) (g : Mem), i + k = n → k < F → GS g (dsN i s0).1 (dsN i s0).2.1 → g 146 27 = 0 → g 146 28 = 1 → ∃ g', FX12_days_146_L40 F (nI n) (dsN i s0).2.2 (nI i) g = some ((dsN n s0).2.2, g') ∧ GS g' (dsN n s0).1 (dsN n s0).2.1 := by
  intro k
  induction k with
  | zero =>
    intro i F g hi hF h h27 h28
    obtain ⟨F, rfl⟩ : ∃ F', F = F' + 1 := ⟨F - 1, by omega⟩
    have e : i = n := by omega
    subst e
    refine ⟨g, ?_, h⟩
    show FX12_days_146_b40 _ _ _ _ _ = _
    unfold FX12_days_146_b40
    rw [if_pos (yle (by omega))]
  | succ k ih =>
    intro i F g hi hF h h27 h28
    obtain ⟨F, rfl⟩ : ∃ F', F = F' + 1 := ⟨F - 1, by omega⟩
    obtain ⟨g1, a1, a2, a3⟩ := ge_keep h
    obtain ⟨g2, b1, b2, b3, b4⟩ := ge_day a2 (dsN_WO hW i) (by rw [a3 27 (by omega)]; exact h27) (by rw [a3 28 (by omega)]; exact h28)
    obtain ⟨g', q1, q2⟩ := ih (i + 1) F g2 (by omega) (by omega) b2 b3 b4
    refine ⟨g', ?_, q2⟩
    show FX12_days_146_b40 _ _ _ _ _ = _
    unfold FX12_days_146_b40
    rw [if_neg (nle (by omega) (by omega)), a1, b_some, b1, b_some, a2.1, nI_1]
    exact q1
theorem ge_days {g : Mem} {W : Wt} {S : List Wt} (h : GS g W S) (hW : WO W) {n : Nat} (h1 : 1 ≤ n) (h60 : n ≤ 60) (hd : W 0 + nI n ≤ 9999) : ∃ g', FX12_days_146 (nI n) g = some ((dsN n (W, S, 0)).2.2, g') ∧ GS g' (dsN n (W, S, 0)).1 (dsN n (W, S, 0)).2.1 := by
  unfold FX12_days_146
  have c : (1 : Int32) ≤ nI n ∧ nI n ≤ 60 := ⟨by rw [li_le (by decide) (by omega)]; exact h1, by rw [le_li (by decide) (by omega)]; exact h60⟩
  rw [m_in, b_some, if_pos c, if_neg z1, h.1, if_pos hd, b_some, b_some]
  have h' : GS (mupd (mupd g 146 28 1) 146 27 0) W S := by
    obtain ⟨a1, ⟨a2, a3, a4⟩, a5⟩ := h
    refine ⟨by rw [m_ne (by decide), m_ne (by decide)]; exact a1, ⟨a2, by rw [m_eq, up_ne (by omega), m_eq, up_ne (by omega)]; exact a3, fun j R hj k hk => by rw [m_ne (by decide), m_ne (by decide)]; exact a4 j R hj k hk⟩, by rw [m_eq, up_ne (by omega), m_eq, up_ne (by omega)]; exact a5⟩
  have q := ge_daysL (s0 := (W, S, 0)) hW n (by omega) n 0 FU _ (by omega) (by show _ < 10000; omega) h' (by rw [m_eq, up_eq]) (by rw [m_eq, up_ne (by omega), m_eq, up_eq])
  exact q
theorem ge_daysN {g : Mem} {p : Int32} (h : ¬ (1 ≤ p ∧ p ≤ 60)) : FX12_days_146 p g = some (-1, g) := by
  unfold FX12_days_146
  rw [m_in, b_some, if_neg h, if_pos rfl]
theorem GS_u {g : Mem} {W : Wt} {S : List Wt} (h : GS g W S) (k : Nat) (x : Int32) : GS (mupd g 147 k x) (upd W k x) S := by
  obtain ⟨a1, ⟨a2, a3, a4⟩, a5⟩ := h
  exact ⟨by rw [m_eq, a1], ⟨a2, by rw [m_ne (by decide)]; exact a3, fun j R hj k hk => by rw [m_ne (by decide)]; exact a4 j R hj k hk⟩, by rw [m_ne (by decide)]; exact a5⟩
theorem GS_0 {g : Mem} {W : Wt} {S : List Wt} (h : GS g W S) : GS (mupd g 146 4 0) W [] := by
  obtain ⟨a1, ⟨a2, a3, a4⟩, a5⟩ := h
  exact ⟨by rw [m_ne (by decide)]; exact a1, ⟨by decide, by rw [m_eq, up_eq]; rfl, fun j R hj => by cases hj⟩, by rw [m_eq, up_ne (by omega)]; exact a5⟩
/-! teaching -/
theorem ge_teach {g : Mem} {W : Wt} {S : List Wt} (h : GS g W S) (hT : OkT W) {m i : Nat} (hm : m < nmen W) (hi : i < 8) (hk : ¬ tb (W (16 + m)) i = true) : ∃ g', FX12_teach_146 (nI m) (nI i) g = some (1, g') ∧ GS g' (upd W (16 + m) (W (16 + m) ||| ((1 : Int32) <<< (nI i &&& 31)))) (psh S W) := by
  have h12 := (OkT_n hT).2
  unfold FX12_teach_146
  obtain ⟨g1, a1, a2, a3⟩ := ge_keep h
  have c2 : 0 ≤ nI i ∧ nI i ≤ 7 := by rw [in7]; exact ⟨i, by omega, rfl⟩
  rw [m_isMan h.1 hT hm, b_some, if_neg z1, m_in, b_some, if_pos c2, if_neg z1, rl (by show 16 + m < _; omega) (by omega), h.1]
  show ∃ g', (if ((W (16 + m) >>> (nI i &&& 31)) &&& 1) = 1 then _ else _) = _ ∧ _
  rw [if_neg (by rw [bit_1 _ (by omega)]; exact hk), a1, b_some, rl (by show 16 + m < _; omega) (by omega), wl (by show 16 + m < _; omega) (by omega), a2.1]
  exact ⟨_, rfl, GS_u a2 (16 + m) _⟩
theorem ge_teachN {g : Mem} {W : Wt} {S : List Wt} (h : GS g W S) (hT : OkT W) {p q : Int32} (hn : ¬ ∃ m i, m < nmen W ∧ i < 8 ∧ p = nI m ∧ q = nI i ∧ ¬ tb (W (16 + m)) i = true) : FX12_teach_146 p q g = some (0, g) := by
  have h12 := (OkT_n hT).2
  unfold FX12_teach_146
  by_cases c : ∃ m, m < nmen W ∧ p = nI m
  · obtain ⟨m, hm, rfl⟩ := c
    rw [m_isMan h.1 hT hm, b_some, if_neg z1, m_in, b_some]
    by_cases c2 : 0 ≤ q ∧ q ≤ 7
    · rw [if_pos c2, if_neg z1, rl (by show 16 + m < _; omega) (by omega), h.1]
      rw [in7] at c2
      obtain ⟨i, hi, rfl⟩ := c2
      show (if ((W (16 + m) >>> (nI i &&& 31)) &&& 1) = 1 then _ else _) = _
      rw [if_pos]
      rw [bit_1 _ (by omega)]
      by_cases c3 : tb (W (16 + m)) i = true
      · exact c3
      · exact absurd ⟨m, i, hm, by omega, rfl, rfl, c3⟩ hn
    · rw [if_neg c2, if_pos rfl]
  · rw [m_isManN h.1 hT c, b_some, if_pos rfl]
/-! sending -/
def sndW (W : Wt) (i k : Nat) (c : Int32) : Wt := upd (upd (upd (upd (upd W (40 + i) 1) (52 + i) (W (52 + k))) (40 + k) 0) (28 + k) (W (28 + k) - c)) (28 + i) (mn999 (W (28 + i) + c))
theorem ge_send {g : Mem} {W : Wt} {S : List Wt} (h : GS g W S) (hT : OkT W) {i k : Nat} (hi : i < nmen W) (hk : k < nmen W) {c : Int32} (ok : sendOk W i k c) : ∃ g', FX12_send_146 (nI i) (nI k) c g = some (1, g') ∧ GS g' (sndW W i k c) (psh S W) := by
  have h12 := (OkT_n hT).2
  obtain ⟨o1, o2, o3, o4, o5, o6⟩ := id ok
  have hik : i ≠ k := fun z => by subst z; rw [o2] at o3; exact absurd o3 (by decide)
  unfold FX12_send_146
  obtain ⟨g1, a1, a2, a3⟩ := ge_keep h
  rw [m_isMan h.1 hT hi, b_some, if_neg z1, m_isMan h.1 hT hk, b_some, if_neg z1, rl (by show 90 + i < _; omega) (by omega), rl (by show 90 + k < _; omega) (by omega), rl (by show 40 + i < _; omega) (by omega), rl (by show 40 + k < _; omega) (by omega), rl (by show 102 + i < _; omega) (by omega), rl (by show 102 + k < _; omega) (by omega), rl (by show 28 + k < _; omega) (by omega), h.1]
  show ∃ g', (if W (90 + i) = W (90 + k) then (if W (40 + i) = 0 then (if W (40 + k) = 1 then (if W (102 + i) ≤ W (102 + k) then _ else ((FX12_isIn c 0 (W (28 + k))).bind _)) else _) else _) else _) = _ ∧ _
  rw [if_pos o1, if_pos o2, if_pos o3, if_neg (Int32.not_le.mpr o4), m_in, b_some, if_pos (show 0 ≤ c ∧ c ≤ W (28 + k) from ⟨o5, o6⟩), if_neg z1, a1, b_some]
  rw [wl (by show 40 + i < _; omega) (by omega), rl (by show 52 + k < _; omega) (by omega), wl (by show 52 + i < _; omega) (by omega), wl (by show 40 + k < _; omega) (by omega), rl (by show 28 + k < _; omega) (by omega), wl (by show 28 + k < _; omega) (by omega), rl (by show 28 + i < _; omega) (by omega), m_999, b_some, wl (by show 28 + i < _; omega) (by omega)]
  refine ⟨_, rfl, ?_⟩
  have u1 := GS_u a2 (40 + i) 1
  have u2 := GS_u u1 (52 + i) (W (52 + k))
  have u3 := GS_u u2 (40 + k) 0
  have u4 := GS_u u3 (28 + k) (W (28 + k) - c)
  have u5 := GS_u u4 (28 + i) (mn999 (W (28 + i) + c))
  have x1 : (mupd g1 147 (40 + i) 1) 147 (52 + k) = W (52 + k) := by rw [u1.1, up_ne (by omega)]
  have x2 : (mupd (mupd (mupd g1 147 (40 + i) 1) 147 (52 + i) (W (52 + k))) 147 (40 + k) 0) 147 (28 + k) = W (28 + k) := by rw [u3.1, up_ne (by omega), up_ne (by omega), up_ne (by omega)]
  have x3 : (mupd (mupd (mupd (mupd g1 147 (40 + i) 1) 147 (52 + i) (W (52 + k))) 147 (40 + k) 0) 147 (28 + k) (W (28 + k) - c)) 147 (28 + i) = W (28 + i) := by rw [u4.1, up_ne (by omega), up_ne (by omega), up_ne (by omega), up_ne (by omega)]
  have e : ∀ z, GS z (sndW W i k c) (psh S W) → ∀ z', z' = z → GS z' (sndW W i k c) (psh S W) := fun z hz z' ez => by rw [ez]; exact hz
  refine e _ u5 _ ?_
  show mupd (mupd (mupd (mupd (mupd g1 147 (40 + i) 1) 147 (52 + i) ((mupd g1 147 (40 + i) 1) 147 (52 + k))) 147 (40 + k) 0) 147 (28 + k) ((mupd (mupd (mupd g1 147 (40 + i) 1) 147 (52 + i) ((mupd g1 147 (40 + i) 1) 147 (52 + k))) 147 (40 + k) 0) 147 (28 + k) - c)) 147 (28 + i) (mn999 ((mupd (mupd (mupd (mupd g1 147 (40 + i) 1) 147 (52 + i) ((mupd g1 147 (40 + i) 1) 147 (52 + k))) 147 (40 + k) 0) 147 (28 + k) ((mupd (mupd (mupd g1 147 (40 + i) 1) 147 (52 + i) ((mupd g1 147 (40 + i) 1) 147 (52 + k))) 147 (40 + k) 0) 147 (28 + k) - c)) 147 (28 + i) + c)) = _
  rw [x1, x2, x3]
theorem ge_sendN {g : Mem} {W : Wt} {S : List Wt} (h : GS g W S) (hT : OkT W) {p q c : Int32} (hn : ¬ ∃ i k, i < nmen W ∧ k < nmen W ∧ p = nI i ∧ q = nI k ∧ sendOk W i k c) : FX12_send_146 p q c g = some (0, g) := by
  have h12 := (OkT_n hT).2
  unfold FX12_send_146
  by_cases c1 : ∃ i, i < nmen W ∧ p = nI i
  · obtain ⟨i, hi, rfl⟩ := c1
    rw [m_isMan h.1 hT hi, b_some, if_neg z1]
    by_cases c2 : ∃ k, k < nmen W ∧ q = nI k
    · obtain ⟨k, hk, rfl⟩ := c2
      rw [m_isMan h.1 hT hk, b_some, if_neg z1, rl (by show 90 + i < _; omega) (by omega), rl (by show 90 + k < _; omega) (by omega), rl (by show 40 + i < _; omega) (by omega), rl (by show 40 + k < _; omega) (by omega), rl (by show 102 + i < _; omega) (by omega), rl (by show 102 + k < _; omega) (by omega), rl (by show 28 + k < _; omega) (by omega), h.1]
      show (if W (90 + i) = W (90 + k) then (if W (40 + i) = 0 then (if W (40 + k) = 1 then (if W (102 + i) ≤ W (102 + k) then _ else ((FX12_isIn c 0 (W (28 + k))).bind _)) else _) else _) else _) = _
      by_cases o1 : W (90 + i) = W (90 + k)
      · rw [if_pos o1]
        by_cases o2 : W (40 + i) = 0
        · rw [if_pos o2]
          by_cases o3 : W (40 + k) = 1
          · rw [if_pos o3]
            by_cases o4 : W (102 + i) ≤ W (102 + k)
            · rw [if_pos o4]
            · rw [if_neg o4, m_in, b_some, if_neg (fun z : 0 ≤ c ∧ c ≤ W (28 + k) => hn ⟨i, k, hi, hk, rfl, rfl, o1, o2, o3, Int32.not_le.mp o4, z.1, z.2⟩), if_pos rfl]
          · rw [if_neg o3]
        · rw [if_neg o2]
      · rw [if_neg o1]
    · rw [m_isManN h.1 hT c2, b_some, if_pos rfl]
  · rw [m_isManN h.1 hT c1, b_some, if_pos rfl]
