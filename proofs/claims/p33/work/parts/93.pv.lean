/-! the tape of the reference -/
def GT (g : Mem) (W : Wt) (S : List Wt) (b : Nat → Nat) (n : Nat) : Prop := g 147 = W ∧ SK g S ∧ g 146 16 = nI n ∧ n ≤ 400 ∧ ∀ i, i < n → g 154 i = nI (b i) ∧ b i < 256
theorem GT_0 {g : Mem} {W : Wt} {S : List Wt} (h : GS g W S) (b : Nat → Nat) : GT g W S b 0 := ⟨h.1, h.2.1, h.2.2, by omega, fun i hi => by omega⟩
theorem GS_T {g : Mem} {W : Wt} {S : List Wt} {b : Nat → Nat} (h : GT g W S b 0) : GS g W S := ⟨h.1, h.2.1, h.2.2.1⟩
theorem tb_big (x i : Nat) : tb (nI x) i = (decide (i < 32) && x.testBit i) := by
  unfold tb nI
  show (BitVec.ofNat 32 x).getLsbD i = _
  rw [BitVec.getLsbD_ofNat]
theorem bt_pk (X : Nat) {s : Nat} (h : s + 8 ≤ 32) : bt (nI X) s = nI (X / 2 ^ s % 256) := by
  unfold bt
  apply tb_ext
  intro i hi
  rw [tb_and, tb_255 i hi, tb_big, show (256 : Nat) = 2 ^ 8 by decide, Nat.testBit_mod_two_pow, Nat.testBit_div_two_pow]
  by_cases c : i < 8
  · rw [tb_shr (by omega), tb_big, decide_eq_true c, decide_eq_true (show s + i < 32 by omega), decide_eq_true hi, Nat.add_comm]
    simp
  · rw [decide_eq_false c]
    simp
/-- five numbers hold twenty bytes -/
def pkd (b : Nat → Nat) (a : Nat) : Nat := ((b a * 256 + b (a + 1)) * 256 + b (a + 2)) * 256 + b (a + 3)
theorem pkd_b {b : Nat → Nat} (hb : ∀ j, b j < 256) (a : Nat) {k : Nat} (hk : k < 4) : pkd b a / 2 ^ (24 - 8 * k) % 256 = b (a + k) := by
  have h0 := hb a
  have h1 := hb (a + 1)
  have h2 := hb (a + 2)
  have h3 := hb (a + 3)
  unfold pkd
  rcases (by omega : k = 0 ∨ k = 1 ∨ k = 2 ∨ k = 3) with rfl | rfl | rfl | rfl
  · show _ / 16777216 % 256 = b a
    omega
  · show _ / 65536 % 256 = b (a + 1)
    omega
  · show _ / 256 % 256 = b (a + 2)
    omega
  · show _ / 1 % 256 = b (a + 3)
    omega
theorem ge_feedL {g0 : Mem} {W : Wt} {S : List Wt} {b : Nat → Nat} (hb : ∀ j, b j < 256) {n : Nat} (hn : n + 20 ≤ 400) : ∀ (k i F : Nat) (g : Mem), i + k = 20 → k < F → GT g W S b (n + i) → ∃ r g', FX12_feed_146_L18 F (nI (pkd b n)) (nI (pkd b (n + 4))) (nI (pkd b (n + 8))) (nI (pkd b (n + 12))) (nI (pkd b (n + 16))) (nI i) g = some (r, g') ∧ GT g' W S b (n + 20) := by
  intro k
  induction k with
  | zero =>
    intro i F g hi hF h
    obtain ⟨F, rfl⟩ : ∃ F', F = F' + 1 := ⟨F - 1, by omega⟩
    have e : i = 20 := by omega
    subst e
    refine ⟨g 146 16, g, ?_, h⟩
    show FX12_feed_146_b18 _ _ _ _ _ _ _ _ = _
    unfold FX12_feed_146_b18
    rw [if_pos (by decide)]
  | succ k ih =>
    intro i F g hi hF h
    obtain ⟨F, rfl⟩ : ∃ F', F = F' + 1 := ⟨F - 1, by omega⟩
    have hi20 : i < 20 := by omega
    obtain ⟨q0, q4, q8, q12, q16⟩ := fd_at 0 0 0 0 0 i hi20
    have step : ∀ m, 4 * m ≤ i → i < 4 * m + 4 → m < 5 → ∃ r g', FX12_feed_146_b71 (FX12_feed_146_L18 F) (nI (pkd b n)) (nI (pkd b (n + 4))) (nI (pkd b (n + 8))) (nI (pkd b (n + 12))) (nI (pkd b (n + 16))) (nI i) (nI (pkd b (n + 4 * m))) g = some (r, g') ∧ GT g' W S b (n + 20) := fun m h1 h2 h5 => by
      obtain ⟨a1, a2, a3, a4, a5⟩ := h
      have hm : i % 4 = i - 4 * m := by omega
      have ev : ((nI (pkd b (n + 4 * m)) >>> ((24 - (8 * (nI i - nI i / 4 * 4))) &&& 31)) &&& 255) = nI (b (n + i)) := by
        rw [fd_dec i hi20]
        show bt (nI (pkd b (n + 4 * m))) (24 - 8 * (i % 4)) = _
        rw [bt_pk _ (by omega), hm, pkd_b hb _ (by omega), show n + 4 * m + (i - 4 * m) = n + i by omega]
      have h' : GT (mupd (mupd g 154 (n + i) (nI (b (n + i)))) 146 16 (nI (n + i) + 1)) W S b (n + (i + 1)) := by
        refine ⟨by rw [m_ne (by decide), m_ne (by decide)]; exact a1, ⟨a2.1, by rw [m_eq, up_ne (by omega), m_ne (by decide)]; exact a2.2.1, fun j R hj q hq => by rw [m_ne (by decide), m_ne (by decide)]; exact a2.2.2 j R hj q hq⟩, by rw [m_eq, up_eq, nI_1]; rfl, by omega, fun j hj => ?_⟩
        rw [m_ne (by decide), m_eq]
        by_cases c : j = n + i
        · subst c
          rw [up_eq]
          exact ⟨rfl, hb _⟩
        · rw [up_ne c]
          exact a5 j (by omega)
      obtain ⟨r, g', r1, r2⟩ := ih (i + 1) F _ (by omega) (by omega) h'
      refine ⟨r, g', ?_, r2⟩
      unfold FX12_feed_146_b71
      have rm4 : ∀ {β : Type} (f : Int32 → Option β), (rmI (nI i) 4).bind f = f (nI i - nI i / 4 * 4) := fun f => by
        unfold rmI; rw [if_neg (by decide), b_some]
      rw [rm4, ev, a3, wb (by omega) (by omega), b_some, m_ne (by decide), a3, ← nI_succ (n := i)]
      exact r1
    show ∃ r g', FX12_feed_146_b18 _ _ _ _ _ _ _ _ = _ ∧ _
    unfold FX12_feed_146_b18
    rw [if_neg q0]
    simp only [q4, q8, q12, q16]
    by_cases c4 : 4 ≤ i
    · rw [if_pos c4]
      by_cases c8 : 8 ≤ i
      · rw [if_pos c8]
        by_cases c12 : 12 ≤ i
        · rw [if_pos c12]
          by_cases c16 : 16 ≤ i
          · rw [if_pos c16]
            exact step 4 (by omega) (by omega) (by omega)
          · rw [if_neg c16]
            exact step 3 (by omega) (by omega) (by omega)
        · rw [if_neg c12]
          exact step 2 (by omega) (by omega) (by omega)
      · rw [if_neg c8]
        exact step 1 (by omega) (by omega) (by omega)
    · rw [if_neg c4]
      exact step 0 (by omega) (by omega) (by omega)
theorem ge_feed {g : Mem} {W : Wt} {S : List Wt} {b : Nat → Nat} (hb : ∀ j, b j < 256) {n : Nat} (hn : n + 20 ≤ 400) (h : GT g W S b n) : ∃ r g', FX12_feed_146 (nI (pkd b n)) (nI (pkd b (n + 4))) (nI (pkd b (n + 8))) (nI (pkd b (n + 12))) (nI (pkd b (n + 16))) g = some (r, g') ∧ GT g' W S b (n + 20) := by
  unfold FX12_feed_146
  rw [h.2.2.1, show (20 : Int32) = nI 20 by decide, nI_add, if_pos (by rw [le_li (by decide) (by omega)]; exact hn)]
  exact ge_feedL (g0 := g) hb hn 20 0 FU g (by omega) (by show _ < 10000; omega) h
theorem ge_end {g : Mem} {W : Wt} {S : List Wt} {b : Nat → Nat} {n m : Nat} (hm : m ≤ n) (h : GT g W S b n) : ∃ g', FX12_end_146 (nI m) g = some (1, g') ∧ GT g' W S b m := by
  obtain ⟨a1, a2, a3, a4, a5⟩ := h
  refine ⟨mupd g 146 16 (nI m), ?_, by rw [m_ne (by decide)]; exact a1, ⟨a2.1, by rw [m_eq, up_ne (by omega)]; exact a2.2.1, fun j R hj q hq => by rw [m_ne (by decide)]; exact a2.2.2 j R hj q hq⟩, by rw [m_eq, up_eq], by omega, fun i hi => by rw [m_ne (by decide)]; exact a5 i (by omega)⟩
  unfold FX12_end_146
  rw [a3, m_in, b_some, if_pos (show 0 ≤ nI m ∧ nI m ≤ nI n from ⟨by rw [i_le]; exact nI_pos (by omega), by rw [nn_le (by omega) (by omega)]; exact hm⟩), if_neg z1, b_some]
/-! a text is said -/
def chF (bs : List Nat) (j : Nat) : Nat := if j < bs.length then bs.getD j 0 else 32
theorem chF_lt {bs : List Nat} (h : ∀ c ∈ bs, c < 128) (j : Nat) : chF bs j < 128 := by
  unfold chF
  split
  · rename_i z
    rw [List.getD_eq_getElem?_getD, List.getElem?_eq_getElem z]
    exact h _ (List.getElem_mem z)
  · omega
theorem sh8_or {x c : Nat} (h : c < 256) : ((nI x <<< ((8 : Int32) &&& 31)) ||| nI c) = nI (x * 256 + c) := by
  apply tb_ext
  intro k hk
  have e8 : ((8 : Int32) &&& 31) = nI 8 := by decide
  rw [tb_or, e8]
  have e1 : tb (nI x <<< nI 8) k = (decide (8 ≤ k) && x.testBit (k - 8)) := by
    unfold tb
    rw [Int32.toBitVec_shiftLeft]
    have e2 : ((nI 8).toBitVec.smod 32) = 8#32 := by decide
    rw [e2]
    show ((nI x).toBitVec <<< (8#32 : BitVec 32)).getLsbD k = _
    rw [show ((nI x).toBitVec <<< (8#32 : BitVec 32)) = (nI x).toBitVec <<< 8 from rfl, BitVec.getLsbD_shiftLeft]
    have e3 : (nI x).toBitVec.getLsbD (k - 8) = tb (nI x) (k - 8) := rfl
    rw [e3, tb_big]
    rw [decide_eq_true (show k - 8 < 32 by omega)]
    by_cases c8 : 8 ≤ k
    · simp [hk, c8]
    · simp [hk, c8]; try omega
  rw [e1, tb_big, tb_big, decide_eq_true hk]
  simp only [Bool.true_and]
  have e4 : x * 256 + c = 2 ^ 8 * x + c := by omega
  rw [e4, Nat.testBit_two_pow_mul_add x (show c < 2 ^ 8 by omega)]
  by_cases c8 : k < 8
  · rw [if_pos c8]
    simp [show ¬ 8 ≤ k by omega]
  · rw [if_neg c8]
    have hc : c.testBit k = false := Nat.testBit_lt_two_pow (Nat.lt_of_lt_of_le (show c < 2 ^ 8 by omega) (Nat.pow_le_pow_right (by omega) (by omega)))
    rw [hc]
    simp [show 8 ≤ k by omega]
theorem cchk_n {c : Nat} (h : c < 128) : (((nI c &&& 255 : Int32).toUInt32 % 65536).toInt32) = nI c ∧ cchk (nI c) = some (nI c) := by
  have : ∀ c, c < 128 → (((nI c &&& 255 : Int32).toUInt32 % 65536).toInt32) = nI c ∧ cchk (nI c) = some (nI c) := by decide +kernel
  exact this c h
theorem r_chr {w : Wd} {s u : Nat} {bs : List Nat} (h : Sg w s u bs) {j : Nat} (hj : j < bs.length) (hl : bs.length < 100000) : (DJ0_charAt_5068e s (nI j)).1 w = some (nI (bs.getD j 0), w) := by
  obtain ⟨h1, h2, h3, h4, h5⟩ := h
  have e : bs[j]? = some (bs.getD j 0) := by rw [List.getD_eq_getElem?_getD, List.getElem?_eq_getElem hj]; rfl
  obtain ⟨a1, a2⟩ := h5 j _ e
  obtain ⟨c1, c2⟩ := cchk_n a2
  have el : (DJ0_isLatin1_aae02 s).1 w = some (1, w) := by
    unfold DJ0_isLatin1_aae02
    rw [i_f z1, b_rd h2, i_t rfl, u_rt]
  have eb : blen u w = some (nI bs.length) := by unfold blen; rw [h4]; rfl
  have ec : (DJ0_checkIndex_df160 (nI j) (nI bs.length)).1 w = some ((), w) := by
    unfold DJ0_checkIndex_df160
    have e3 : (DJ3_checkIndex_8e157 (nI j) (nI bs.length)).1 w = some (nI j, w) := by
      unfold DJ3_checkIndex_8e157
      rw [i_f (nI_pos (by omega)), i_t (by rw [nn_lt (by omega) (by omega)]; exact hj), u_rt]
    rw [b_ok e3, u_rt]
  have ed : bald u (nI j) w = some (nI (bs.getD j 0)) := by
    unfold bald
    rw [h4, b_some, if_neg (nI_in hj (by omega)), nI_clamp (by omega), a1]
  have e1 : (DJ1_charAt_3b067 u (nI j)).1 w = some (nI (bs.getD j 0), w) := by
    unfold DJ1_charAt_3b067
    rw [b_rd eb, b_ok ec, b_rd ed, c1, b_lf c2, u_rt]
  unfold DJ0_charAt_5068e
  rw [b_rd h1, b_ok el, i_f z1, b_rd h3, b_ok e1, b_lf c2, u_rt]
/-- the words so far: k bytes from place a on -/
def wrd (b : Nat → Nat) (a : Nat) : Nat → Nat → Nat
  | 0, _ => 0
  | k + 1, m => if m = k / 4 then wrd b a k m * 256 + b (a + k) else wrd b a k m
theorem wrd_20 (b : Nat → Nat) (a : Nat) : wrd b a 20 0 = pkd b a ∧ wrd b a 20 1 = pkd b (a + 4) ∧ wrd b a 20 2 = pkd b (a + 8) ∧ wrd b a 20 3 = pkd b (a + 12) ∧ wrd b a 20 4 = pkd b (a + 16) := by
  refine ⟨?_, ?_, ?_, ?_, ?_⟩ <;> · simp [wrd, pkd, Nat.add_assoc]
