/-! a line of THE LAW, the model -/
def myL (u0 u : Mem) : Prop := (∀ c, c ≠ 146 → c ≠ 151 → c ≠ 152 → u c = u0 c) ∧ ∀ j, j < 14 ∨ j = 15 ∨ j = 16 ∨ j = 23 ∨ 24 < j → u 146 j = u0 146 j
theorem myL_t {u u1 u2 : Mem} (h : myL u u1) (h' : myL u1 u2) : myL u u2 := ⟨fun c a b d => (h'.1 c a b d).trans (h.1 c a b d), fun j a => (h'.2 j a).trans (h.2 j a)⟩
theorem myL_F {u u' : Mem} (h : myF u u') : myL u u' := ⟨fun c a _ d => h.1 c a d, h.2⟩
theorem myL_1 (u : Mem) (k : Nat) (x : Int32) : myL u (mupd u 151 k x) := ⟨fun c _ a _ => m_ne a, fun j _ => by rw [m_ne (by decide)]⟩
theorem myT_1 {k : Nat} {b : Nat → Nat} {n : Nat} {v0 : Int32} {i : Nat} {u : Mem} (h : myT k b n v0 i u) (j : Nat) (x : Int32) : myT k b n v0 i (mupd u 151 j x) := by
  unfold myT txS
  rw [m_ne (show 146 ≠ 151 by decide), m_ne (show 154 ≠ 151 by decide)]
  exact h
theorem myC_1 {o : pxT} {u : Mem} (h : myC o u) (j : Nat) (x : Int32) : myC o (mupd u 151 j x) := by
  unfold myC
  rw [m_ne (show 146 ≠ 151 by decide), m_ne (show 152 ≠ 151 by decide)]
  exact h
def mLn (b : Nat → Nat) (n : Nat) (v0 : Int32) (N L i : Nat) (o : pxT) (u0 : Mem) (r : pxS) (a : Option (Int32 × Mem)) : Prop :=
  ∃ x u', a = some (x, u') ∧ myL u0 u' ∧ match r with
  | .inl q => x = 0 ∧ u' 146 21 = nI q.1 ∧ u' 146 22 = nI (qs b n q.2)
  | .inr q => x = 1 ∧ myT 0 b n v0 q.1 u' ∧ myC q.2.2 u' ∧ q.1 ≤ N ∧ encL q.2.2 ≤ q.1 ∧ u' 151 (4 * L) = nI o.length ∧ u' 151 (4 * L + 1) = nI q.2.1.length ∧ u' 151 (4 * L + 2) = nI q.2.2.length ∧ u' 151 (4 * L + 3) = nI (20 + (kk 0 b n i - 256)) ∧ ∀ x, x < 4 * L ∨ 4 * L + 3 < x → u' 151 x = u0 151 x
theorem mLn_i {b : Nat → Nat} {n : Nat} {v0 : Int32} {N : Nat} {L i f x : Nat} {o : pxT} {u0 u1 : Mem} {a : Option (Int32 × Mem)} (g : myL u0 u1) (h : mSim b n v0 N u1 (.inl (f, x)) a) : mLn b n v0 N L i o u0 (.inl (f, x)) a := by
  obtain ⟨y, u', e, g1, h1⟩ := h
  exact ⟨y, u', e, myL_t g (myL_F g1), h1⟩
theorem line_rg : ∀ a, a < 273 → vkK 0 a = true → ((20 ≤ mtk 0 a ∧ mtk 0 a ≤ 23) ↔ (256 ≤ a ∧ a ≤ 259)) ∧ (256 ≤ a → a ≤ 259 → mtk 0 a = 20 + (a - 256)) := by decide +kernel
theorem m_b123 {b : Nat → Nat} {n : Nat} {v0 : Int32} {N : Nat} (hZ : myZ b n v0 N) {L i j : Nat} {o o1 o2 : pxT} {u0 u : Mem} (hL : L < 16) (hj : j ≤ N) (hA : myT 0 b n v0 j u) (hC : myC o2 u) (hle : encL o2 ≤ j) (hG : myL u0 u) (h13 : u 146 13 = nI L) (h0 : u 151 (4 * L) = nI o.length) (h1 : u 151 (4 * L + 1) = nI o1.length) (h3 : u 151 (4 * L + 3) = nI (20 + (kk 0 b n i - 256))) (hx : ∀ x, x < 4 * L ∨ 4 * L + 3 < x → u 151 x = u0 151 x) : mLn b n v0 N L i o u0 (pxEnd (kk 0 b n) j o1 o2) (FX12_aLine_146_b123 u) := by
  have hv := kk_v 0 b n j
  have ex : FX12_aLine_146_b123 u = (bnd2 (FX12_need_146 159 (mupd u 151 (4 * L + 2) (nI o2.length))) fun x2 u3 => (bchk x2).bind fun x4 => some (x4, u3)) := by
    unfold FX12_aLine_146_b123
    rw [h13, hC.1, li_mul, add_li, wb (by show 4 * L + 2 < 64; omega) (by omega)]
  have hA1 := myT_1 hA (4 * L + 2) (nI o2.length)
  have hC1 := myC_1 hC (4 * L + 2) (nI o2.length)
  have hG1 := myL_t hG (myL_1 u (4 * L + 2) (nI o2.length))
  rw [ex]
  unfold pxEnd
  by_cases c : kk 0 b n j = 59
  · have hjN := hZ.1.2 j hj (by omega)
    obtain ⟨u1, e1, f1, d1, hA2, hC2⟩ := m_needY hZ hA1 hC1 (tY_59 c)
    rw [if_pos c, e1, b2_some, bchk_1, b_some]
    have o1' : ∀ x, u1 151 x = (mupd u 151 (4 * L + 2) (nI o2.length)) 151 x := fun x => by rw [f1.1 151 (by decide) (by decide)]
    refine ⟨1, u1, rfl, myL_t hG1 (myL_F f1), rfl, hA2, hC2, by show j + 1 ≤ N; omega, by show encL o2 ≤ j + 1; omega, ?_, ?_, ?_, ?_, fun x hxx => ?_⟩
    · rw [o1', m_eq, up_ne (by omega)]; exact h0
    · rw [o1', m_eq, up_ne (by omega)]; exact h1
    · rw [o1', m_eq, up_eq]
    · rw [o1', m_eq, up_ne (by omega)]; exact h3
    · rw [o1', m_eq, up_ne (by omega)]; exact hx x hxx
  · obtain ⟨x1, u1, e1, f1, y1, y2, y3⟩ := m_needN (N := N) hA1 (tN_59 hv c)
    rw [if_neg c, e1, b2_some, bnd2_bchk (Or.inl y1)]
    exact ⟨x1, u1, rfl, myL_t hG1 (myL_F f1), y1, y2, y3⟩
theorem m_line {b : Nat → Nat} {n : Nat} {v0 : Int32} {N : Nat} (hZ : myZ b n v0 N) {L i : Nat} {o : pxT} {u : Mem} (hL : L ≤ 16) (hi : i ≤ N) (hA : myT 0 b n v0 i u) (hC : myC o u) (hle : encL o ≤ i) (h13 : u 146 13 = nI L) : mLn b n v0 N L i o u (pxLine (kk 0 b n) (vv b n v0) L i o) (FX12_aLine_146 u) := by
  have hN := hZ.1.1
  have hv := kk_v 0 b n i
  have hlt := vk_lt (show 0 < 4 by decide) hv
  have hm := mtk_lt 0 (by decide) _ hlt
  obtain ⟨r1, r2⟩ := line_rg _ hlt hv
  have isn : ((20 : Int32) ≤ nI (mtk 0 (kk 0 b n i)) ∧ nI (mtk 0 (kk 0 b n i)) ≤ 23) ↔ (256 ≤ kk 0 b n i ∧ kk 0 b n i ≤ 259) := by
    rw [li_le (by decide) (by omega), le_li (by decide) (by omega)]; exact r1
  have g0 : myL u u := ⟨fun _ _ _ _ => rfl, fun _ _ => rfl⟩
  unfold FX12_aLine_146 pxLine
  rw [hA.2.2.2.1, m_in, b_some, h13]
  by_cases c : 256 ≤ kk 0 b n i ∧ kk 0 b n i ≤ 259
  · have hiN := hZ.1.2 i hi (by omega)
    rw [if_pos (isn.mpr c), if_neg z1, if_pos c]
    by_cases cL : L = 16
    · rw [if_pos cL, if_pos (show nI L = 16 by rw [cL]; decide)]
      exact mLn_i g0 (m_bad hA 3)
    · rw [if_neg cL, if_neg (by rw [eq_li (by decide) (by omega)]; exact cL), b_some]
      -- depth, word, begin
      have f0 := myF_u u (j := 24) 0 (by decide)
      have hA0 := myT_e hA f0 (fun j h1 h2 => by rw [m_eq, up_ne (by omega)])
      have hC0 : myC o (mupd u 146 24 0) := by
        unfold myC
        rw [m_eq, up_ne (by decide), m_ne (by decide)]; exact hC
      have d0 : (mupd u 146 24 0) 146 24 = nI 0 := by rw [m_eq, up_eq]; exact nI_0.symm
      have s13 : (mupd u 146 24 0) 146 13 = nI L := by rw [m_eq, up_ne (by decide)]; exact h13
      have s18 : (mupd u 146 24 0) 146 18 = nI (20 + (kk 0 b n i - 256)) := by rw [hA0.2.2.2.1, r2 c.1 c.2]
      have s151 : (mupd u 146 24 0) 151 = u 151 := m_ne (by decide)
      generalize (mupd u 146 24 0) = u1 at f0 hA0 hC0 d0 s13 s18 s151
      rw [s13, s18, li_mul, add_li, wb (by show 4 * L + 3 < 64; omega) (by omega)]
      have hA1 := myT_1 hA0 (4 * L + 3) (nI (20 + (kk 0 b n i - 256)))
      have hC1 := myC_1 hC0 (4 * L + 3) (nI (20 + (kk 0 b n i - 256)))
      have hG1 := myL_t (myL_F f0) (myL_1 u1 (4 * L + 3) (nI (20 + (kk 0 b n i - 256))))
      obtain ⟨u2, e2, f2, d2, hA2, hC2⟩ := m_nxO hZ hA1 hC1
      have e2 : FX12_next0_146 (mupd u1 151 (OfNat.ofNat 4 * L + OfNat.ofNat 3) (nI (20 + (kk 0 b n i - 256)))) = some u2 := e2
      have t13 : u2 146 13 = nI L := by rw [f2.2 13 (by decide), m_ne (by decide)]; exact s13
      rw [e2, b_some, t13, hC2.1, li_mul, wb (by show 4 * L < 64; omega) (by omega)]
      have hA3 := myT_1 hA2 (4 * L) (nI o.length)
      have hC3 := myC_1 hC2 (4 * L) (nI o.length)
      have hG3 := myL_t hG1 (myL_t (myL_F f2) (myL_1 u2 (4 * L) (nI o.length)))
      have q13 : (mupd u2 151 (4 * L) (nI o.length)) 146 13 = nI L := by rw [m_ne (by decide)]; exact t13
      have q24 : (mupd u2 151 (4 * L) (nI o.length)) 146 24 = nI 0 := by rw [m_ne (by decide), d2, m_ne (by decide)]; exact d0
      have q151 : ∀ x, (mupd u2 151 (4 * L) (nI o.length)) 151 x = if x = 4 * L then nI o.length else if x = 4 * L + 3 then nI (20 + (kk 0 b n i - 256)) else u 151 x := fun x => by
        rw [m_eq]
        by_cases e : x = 4 * L
        · rw [if_pos e, e, up_eq]
        · rw [if_neg e, up_ne e, f2.1 151 (by decide) (by decide), m_eq]
          by_cases e3 : x = 4 * L + 3
          · rw [if_pos e3, e3, up_eq]
          · rw [if_neg e3, up_ne e3, s151]
      show mLn b n v0 N L i o u _ (bnd2 (FX12_sumUp_146 (mupd u2 151 (4 * L) (nI o.length))) _)
      generalize (mupd u2 151 (4 * L) (nI o.length)) = u3 at hA3 hC3 hG3 q13 q24 q151
      have hs := m_sum hZ (show i + 1 ≤ N by omega) hA3 hC3 (show encL o ≤ i + 1 by omega)
      have hg := gSum (V := vv b n v0) hZ.1 (show i + 1 ≤ N by omega) o
      match pxSum (kk 0 b n) (vv b n v0) (i + 1) o, hg, hs with
      | .inl q, hg, ⟨x, u4, e4, f4, h1, h2⟩ =>
        rw [e4, b2_some, if_pos h1]
        exact ⟨0, u4, rfl, myL_t hG3 (myL_F f4), rfl, h2⟩
      | .inr (j, o1), hg, ⟨x, u4, e4, f4, h1, hA4, hC4, hl4, hj4, d4⟩ =>
        dsimp only at hA4 hC4 hl4 hj4
        rw [e4, b2_some, if_neg (by rw [h1]; exact z1)]
        have w13 : u4 146 13 = nI L := by rw [f4.2 13 (by decide)]; exact q13
        rw [w13, hC4.1, li_mul, add_li, wb (by show 4 * L + 1 < 64; omega) (by omega)]
        have hA5 := myT_1 hA4 (4 * L + 1) (nI o1.length)
        have hC5 := myC_1 hC4 (4 * L + 1) (nI o1.length)
        have hG5 := myL_t hG3 (myL_t (myL_F f4) (myL_1 u4 (4 * L + 1) (nI o1.length)))
        have x13 : (mupd u4 151 (4 * L + 1) (nI o1.length)) 146 13 = nI L := by rw [m_ne (by decide)]; exact w13
        have x24 : (mupd u4 151 (4 * L + 1) (nI o1.length)) 146 24 = nI 0 := by rw [m_ne (by decide), d4]; exact q24
        have x151 : ∀ x, (mupd u4 151 (4 * L + 1) (nI o1.length)) 151 x = if x = 4 * L + 1 then nI o1.length else if x = 4 * L then nI o.length else if x = 4 * L + 3 then nI (20 + (kk 0 b n i - 256)) else u 151 x := fun x => by
          rw [m_eq]
          by_cases e : x = 4 * L + 1
          · rw [if_pos e, e, up_eq]
          · rw [if_neg e, up_ne e, f4.1 151 (by decide) (by decide)]; exact q151 x
        show mLn b n v0 N L i o u (pxWhen (kk 0 b n) (vv b n v0) j o1) (if (mupd u4 151 (4 * L + 1) (nI o1.length)) 146 18 = 3 then ((FX12_next0_146 (mupd u4 151 (4 * L + 1) (nI o1.length))).bind fun u15 => bnd2 (FX12_any_146 (FX12_oneTest_146 DFU) u15) fun x16 u17 => (if x16 = 0 then (some (0, u17)) else (FX12_aLine_146_b123 u17))) else (FX12_aLine_146_b123 (mupd u4 151 (4 * L + 1) (nI o1.length))))
        generalize (mupd u4 151 (4 * L + 1) (nI o1.length)) = u5 at hA5 hC5 hG5 x13 x24 x151
        have hvj := kk_v 0 b n j
        have y0 : u5 151 (4 * L) = nI o.length := by rw [x151, if_neg (by omega), if_pos rfl]
        have y1 : u5 151 (4 * L + 1) = nI o1.length := by rw [x151, if_pos rfl]
        have y3 : u5 151 (4 * L + 3) = nI (20 + (kk 0 b n i - 256)) := by rw [x151, if_neg (by omega), if_neg (by omega), if_pos rfl]
        have yx : ∀ x, x < 4 * L ∨ 4 * L + 3 < x → u5 151 x = u 151 x := fun x hx => by rw [x151, if_neg (by omega), if_neg (by omega), if_neg (by omega)]
        unfold pxWhen
        rw [hA5.2.2.2.1]
        by_cases c2 : kk 0 b n j = 260
        · have hjN := hZ.1.2 j hj4 (by omega)
          rw [if_pos c2, if_pos (tY_260 c2)]
          obtain ⟨u6, e6, f6, d6, hA6, hC6⟩ := m_nxO hZ hA5 hC5
          rw [e6, b_some]
          have hk := m_one hZ 8 0 DFU (by decide) (by decide)
          have hs6 := m_any hZ hk (i := j + 1) (o := o1) (u := u6) (by rw [d6]; exact x24) (by omega) hA6 hC6 (by omega)
          have hg6 := gAny hZ.1 (one := fun i o => pxOne (kk 0 b n) (vv b n v0) 8 i o) (fun i o hi => gOne hZ.1 8 i o hi) (show j + 1 ≤ N by omega) o1
          match pxAny (kk 0 b n) (fun i o => pxOne (kk 0 b n) (vv b n v0) 8 i o) (j + 1) o1, hg6, hs6 with
          | .inl q, hg6, ⟨x7, u7, e7, f7, h7, h8⟩ =>
            rw [e7, b2_some, if_pos h7]
            exact ⟨0, u7, rfl, myL_t hG5 (myL_t (myL_F f6) (myL_F f7)), rfl, h8⟩
          | .inr (m, o2), hg6, ⟨x7, u7, e7, f7, h7, hA7, hC7, hl7, hm7, d7⟩ =>
            dsimp only at hA7 hC7 hl7 hm7
            rw [e7, b2_some, if_neg (by rw [h7]; exact z1)]
            have p151 : ∀ x, u7 151 x = u5 151 x := fun x => by rw [f7.1 151 (by decide) (by decide), f6.1 151 (by decide) (by decide)]
            exact m_b123 hZ (by omega) hm7 hA7 hC7 hl7 (myL_t hG5 (myL_t (myL_F f6) (myL_F f7))) (by rw [f7.2 13 (by decide), f6.2 13 (by decide)]; exact x13) (by rw [p151]; exact y0) (by rw [p151]; exact y1) (by rw [p151]; exact y3) (fun x hx => by rw [p151]; exact yx x hx)
        · rw [if_neg c2, if_neg (tN_260 hvj c2)]
          exact m_b123 hZ (by omega) hj4 hA5 hC5 hl4 hG5 x13 y0 y1 y3 yx
  · rw [if_neg (fun h => c (isn.mp h)), if_pos rfl, if_neg c]
    exact mLn_i g0 (m_bad hA 1)

