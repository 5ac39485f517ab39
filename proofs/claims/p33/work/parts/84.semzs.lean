/-! the class's tokens -/
def TK (k : Nat) (b : Nat → Nat) (n : Nat) (u : Mem) (N : Nat) : Prop := N ≤ n ∧ qs b n N = n ∧ (∀ j, j < N → qs b n j < n) ∧ u 34 8 = nI (N + 1) ∧ ∀ j, j ≤ N → u 36 j = nI (kk k b n j) ∧ u 37 j = nI (qs b n j) ∧ (kk k b n j = 1 → u 38 j = nI (vl b n (qs b n j)))
def txCI (k : Nat) (b : Nat → Nat) (n : Nat) (u0 : Mem) (i j : Nat) (u : Mem) : Prop := i ≤ n ∧ j ≤ i ∧ ed isBl b n i = qs b n j ∧ (∀ j', j' < j → qs b n j' < n) ∧ u 34 8 = nI j ∧ (∀ c, c ≠ 34 → c ≠ 36 → c ≠ 37 → c ≠ 38 → u c = u0 c) ∧ (∀ x, x ≠ 8 → u 34 x = u0 34 x) ∧ ∀ j', j' < j → u 36 j' = nI (kk k b n j') ∧ u 37 j' = nI (qs b n j') ∧ (kk k b n j' = 1 → u 38 j' = nI (vl b n (qs b n j')))
def txM (u : Mem) (j : Nat) (x y z : Int32) : Mem := mupd (mupd (mupd (mupd u 36 j x) 37 j y) 38 j z) 34 8 (nI (j + 1))
theorem c_token {u : Mem} {j : Nat} (h : u 34 8 = nI j) (hj : j < 401) (x y z : Int32) : FX6_token_34 x y z u = some (txM u j x y z) := by
  unfold FX6_token_34 txM
  rw [h, if_neg (nI_pos (by omega)), if_neg (by rw [li_le (by decide) (by omega)]; show ¬ 401 ≤ j; omega), wb (by omega) (by omega), m_ne (show 34 ≠ 36 by decide), h, wb (by omega) (by omega), m_ne (show 34 ≠ 37 by decide), m_ne (show 34 ≠ 36 by decide), h, wb (by omega) (by omega), b_some, m_ne (show 34 ≠ 38 by decide), m_ne (show 34 ≠ 37 by decide), m_ne (show 34 ≠ 36 by decide), h, nI_1]
theorem txM_c {u : Mem} {j c : Nat} {x y z : Int32} (h1 : c ≠ 34) (h2 : c ≠ 36) (h3 : c ≠ 37) (h4 : c ≠ 38) : txM u j x y z c = u c := by
  unfold txM; rw [m_ne h1, m_ne h4, m_ne h3, m_ne h2]
theorem txM_34 {u : Mem} {j : Nat} {x y z : Int32} : txM u j x y z 34 = upd (u 34) 8 (nI (j + 1)) := by
  unfold txM; rw [m_eq, m_ne (by decide), m_ne (by decide), m_ne (by decide)]
theorem txM_36 {u : Mem} {j : Nat} {x y z : Int32} : txM u j x y z 36 = upd (u 36) j x := by
  unfold txM; rw [m_ne (by decide), m_ne (by decide), m_ne (by decide), m_eq]
theorem txM_37 {u : Mem} {j : Nat} {x y z : Int32} : txM u j x y z 37 = upd (u 37) j y := by
  unfold txM; rw [m_ne (by decide), m_ne (by decide), m_eq, m_ne (by decide)]
theorem txM_38 {u : Mem} {j : Nat} {x y z : Int32} : txM u j x y z 38 = upd (u 38) j z := by
  unfold txM; rw [m_ne (by decide), m_eq, m_ne (by decide), m_ne (by decide)]
theorem txCI_t {k : Nat} {b : Nat → Nat} {n : Nat} {u0 u : Mem} {i j : Nat} (h : txCI k b n u0 i j u) (hi : i < n) (hb : ¬ isBl (b i) = true) {x z : Int32} (hx : x = nI (kd k b n i)) (hz : kd k b n i = 1 → z = nI (vl b n i)) : txCI k b n u0 (te b n i) (j + 1) (txM u j x (nI i) z) := by
  obtain ⟨a1, a2, a3, a4, a5, a6, a7, a8⟩ := h
  have q : qs b n j = i := by rw [← a3]; exact ed_n hb
  have t := te_gt (b := b) hi
  refine ⟨t.2, by omega, ?_, fun j' hj' => ?_, by rw [txM_34, up_eq], fun c h1 h2 h3 h4 => by rw [txM_c h1 h2 h3 h4]; exact a6 c h1 h2 h3 h4, fun x hx => by rw [txM_34, up_ne hx]; exact a7 x hx, fun j' hj' => ?_⟩
  · show _ = ed isBl b n (te b n (qs b n j))
    rw [q]
  · by_cases e : j' = j
    · rw [e, q]; exact hi
    · exact a4 j' (by omega)
  · rw [txM_36, txM_37, txM_38]
    by_cases e : j' = j
    · rw [e, up_eq, up_eq, up_eq]
      unfold kk
      rw [q]
      exact ⟨hx, rfl, hz⟩
    · rw [up_ne e, up_ne e, up_ne e]; exact a8 j' (by omega)
theorem c_kws {k : Nat} (hk : k < 4) {b : Nat → Nat} {n : Nat} {u : Mem} (hT : TP b n (u 35)) {s e : Nat} (he : e ≤ n) (hse : s ≤ e) {f5 : Int32 → Option Mem} : ((FX6_keywords (nI k)).bind fun x17 => (if x17 = 2000000 then ((FX6_keyword_34_2000000 (nI s) (nI e) u).bind f5) else ((if x17 = 2000001 then ((FX6_keyword_34_2000001 (nI s) (nI e) u).bind f5) else ((if x17 = 2000002 then ((FX6_keyword_34_2000002 (nI s) (nI e) u).bind f5) else ((if x17 = 2000003 then ((FX6_keyword_34_2000003 (nI s) (nI e) u).bind f5) else (none))))))))) = f5 (kwI (woL k) 0 (ct b s (e - s))) := by
  rcases (by omega : k = 0 ∨ k = 1 ∨ k = 2 ∨ k = 3) with rfl | rfl | rfl | rfl
  · show ((FX6_keyword_34_2000000 (nI s) (nI e) u).bind f5) = _
    rw [c_kw_0 hT he hse, b_some]
  · show ((FX6_keyword_34_2000001 (nI s) (nI e) u).bind f5) = _
    rw [c_kw_1 hT he hse, b_some]
  · show ((FX6_keyword_34_2000002 (nI s) (nI e) u).bind f5) = _
    rw [c_kw_2 hT he hse, b_some]
  · show ((FX6_keyword_34_2000003 (nI s) (nI e) u).bind f5) = _
    rw [c_kw_3 hT he hse, b_some]
theorem kd_lt {k : Nat} {b : Nat → Nat} {n i : Nat} (hi : i < n) (h : isLt (b i) = true) : kd k b n i = kwF (woL k) 0 (ct b i (ed isLt b n i - i)) ∧ te b n i = ed isLt b n i := by
  have hn : ¬ n ≤ i := by omega
  unfold kd te; rw [if_neg hn, if_neg hn, if_pos h, if_pos h]; exact ⟨rfl, rfl⟩
theorem kd_dg {k : Nat} {b : Nat → Nat} {n i : Nat} (hi : i < n) (h0 : ¬ isLt (b i) = true) (h : isDg (b i) = true) : kd k b n i = (if ed isDg b n i - i ≤ 4 then 1 else 2) ∧ te b n i = ed isDg b n i := by
  have hn : ¬ n ≤ i := by omega
  unfold kd te; rw [if_neg hn, if_neg hn, if_neg h0, if_neg h0, if_pos h, if_pos h]; exact ⟨rfl, rfl⟩
theorem kd_sg {k : Nat} {b : Nat → Nat} {n i : Nat} (hi : i < n) (h0 : ¬ isLt (b i) = true) (h : ¬ isDg (b i) = true) : kd k b n i = (if sgn (b i) = true then b i else 2) ∧ te b n i = i + 1 := by
  have hn : ¬ n ≤ i := by omega
  unfold kd te; rw [if_neg hn, if_neg hn, if_neg h0, if_neg h0, if_neg h, if_neg h]; exact ⟨rfl, rfl⟩
theorem sgn_1 {x : Nat} (h : sgn x = true) : x ≠ 1 := fun e => by rw [e] at h; exact absurd h (by decide)
theorem c_cutL {k : Nat} (hk : k < 4) {b : Nat → Nat} {n : Nat} {u0 : Mem} (hT : TP b n (u0 35)) : ∀ (d i j t F : Nat) (u : Mem), n - i ≤ d → d + 1 < F → t ≤ i → txCI k b n u0 i j u → ∃ u' N, FX6_cut_34_L10 F (nI n) (nI k) (nI i) (nI t) u = some u' ∧ TK k b n u' N ∧ (∀ c, c ≠ 34 → c ≠ 36 → c ≠ 37 → c ≠ 38 → u' c = u0 c) ∧ ∀ x, x ≠ 8 → u' 34 x = u0 34 x := by
  intro d
  induction d using Nat.strongRecOn with
  | _ d ih =>
  intro i j t F u hd hF ht h
  have hh := h
  obtain ⟨a1, a2, a3, a4, a5, a6, a7, a8⟩ := h
  obtain ⟨f, rfl⟩ : ∃ f, F = f + 1 := ⟨F - 1, by omega⟩
  have hn := hT.1
  have hTu : TP b n (u 35) := by rw [a6 35 (by decide) (by decide) (by decide) (by decide)]; exact hT
  by_cases c : i = n
  · have q : qs b n j = n := by rw [← a3, c]; exact ed_e (Nat.le_refl _)
    have hx : FX6_cut_34_L10 (f + 1) (nI n) (nI k) (nI i) (nI t) u = some (txM u j 0 (nI n) 0) := by
      show FX6_cut_34_b10 _ _ _ _ _ _ = _
      unfold FX6_cut_34_b10 FX6_cut_34_b177
      rw [c_token a5 (by omega), b_some, if_neg (show ¬ nI i < 0 from nI_pos (by omega)), ltE (a := n) (b := i) _ _ (by omega) (by omega) (by omega), ite_self]
    refine ⟨_, j, hx, ⟨by omega, q, a4, by rw [txM_34, up_eq], fun j' hj' => ?_⟩, fun c h1 h2 h3 h4 => by rw [txM_c h1 h2 h3 h4]; exact a6 c h1 h2 h3 h4, fun x hx => by rw [txM_34, up_ne hx]; exact a7 x hx⟩
    rw [txM_36, txM_37, txM_38]
    by_cases e : j' = j
    · rw [e, up_eq, up_eq, up_eq, kk_0.mpr q, q]
      exact ⟨nI_0.symm, rfl, fun h => by cases h⟩
    · rw [up_ne e, up_ne e, up_ne e]; exact a8 j' (by omega)
  · have hi : i < n := by omega
    obtain ⟨g1, g2⟩ := hTu.2 i hi
    have tg := te_gt (b := b) hi
    have start : ∀ G, FX6_cut_34_L10 (G + 1) (nI n) (nI k) (nI i) (nI t) u = (if isLt (b i) = true then ((FX6_token_34 (256 + kwI (woL k) 0 (ct b i (ed isLt b n i - i))) (nI i) 0 u).bind fun u21 => FX6_cut_34_L10 G (nI n) (nI k) (nI (ed isLt b n i)) (nI (t + 1)) u21) else if isDg (b i) = true then ((FX6_token_34 (if ed isDg b n i - i ≤ 4 then 1 else 2) (nI i) (nI (vl b n i)) u).bind fun u3 => FX6_cut_34_L10 G (nI n) (nI k) (nI (ed isDg b n i)) (nI (t + 1)) u3) else if isBl (b i) = true then FX6_cut_34_L10 G (nI n) (nI k) (nI (i + 1)) (nI (t + 1)) u else ((FX6_token_34 (if sgn (b i) = true then nI (b i) else 2) (nI i) 0 u).bind fun u2 => FX6_cut_34_L10 G (nI n) (nI k) (nI (i + 1)) (nI (t + 1)) u2)) := by
      intro G
      show FX6_cut_34_b10 _ _ _ _ _ _ = _
      unfold FX6_cut_34_b10
      rw [c400 _ _ (show t < 400 by omega), if_neg (nI_pos (by omega)), ltN _ _ (by omega) (by omega) hi, c400 _ _ (by omega), rb (by omega) (by omega), g1, c_isLt _ g2, b_some]
      by_cases c1 : isLt (b i) = true
      · rw [if_pos c1, if_neg z1, if_pos c1, c_endOfWord hTu (by omega), b_some, c_kws hk hTu (ed_ok (show i ≤ n by omega)).2.1 (ed_ok (show i ≤ n by omega)).1]
        unfold FX6_cut_34_b168
        rw [nI_1]
      · rw [if_neg c1, if_pos rfl, if_neg c1, c_isDg _ g2, b_some]
        by_cases c2 : isDg (b i) = true
        · have eo := ed_ok (p := isDg) (b := b) (show i ≤ n by omega)
          rw [if_pos c2, if_neg z1, if_pos c2, c_endOfDigits hTu (by omega), b_some, nI_sub eo.1]
          by_cases c3 : ed isDg b n i - i ≤ 4
          · rw [if_neg (by rw [li_lt (by decide) (by omega)]; show ¬ 4 < _; omega), if_pos c3]
            unfold FX6_cut_34_b117 FX6_cut_34_b168
            rw [c_val hTu (by omega), b_some, nI_1]
          · rw [if_pos (by rw [li_lt (by decide) (by omega)]; show 4 < _; omega), if_neg c3]
            unfold FX6_cut_34_b117 FX6_cut_34_b168
            rw [c_val hTu (by omega), b_some, nI_1]
        · rw [if_neg c2, if_pos rfl, if_neg c2]
          unfold FX6_cut_34_b168 FX6_cut_34_b163 FX6_cut_34_b168
          by_cases c3 : b i = 32
          · rw [if_pos (by rw [c3]; decide), if_pos (by rw [c3]; decide), nI_1, nI_1]
          · rw [if_neg (by rw [eq_li (by decide) (by omega)]; exact c3)]
            by_cases c4 : b i = 10
            · rw [if_pos (by rw [c4]; decide), if_pos (by rw [c4]; decide), nI_1, nI_1]
            · rw [if_neg (by rw [eq_li (by decide) (by omega)]; exact c4), if_neg (show ¬ isBl (b i) = true by unfold isBl; rw [decide_eq_false c3, decide_eq_false c4]; decide)]
              have hs := c_isSg (b i) g2
              cases hq : S_idx 4 ((((nI (b i)) : Int32).toUInt32 % 65536).toInt32) with
              | none => rw [hq] at hs; cases hs
              | some y =>
                rw [hq] at hs
                have hs : decide (y < 0) = !(sgn (b i)) := Option.some.inj hs
                rw [b_some, nI_1, nI_1]
                by_cases c5 : sgn (b i) = true
                · rw [c5] at hs
                  rw [if_neg (of_decide_eq_false hs), if_pos c5]
                · rw [eq_false_of_ne_true c5] at hs
                  rw [if_pos (of_decide_eq_true hs), if_neg c5]
    by_cases c1 : isLt (b i) = true
    · obtain ⟨k1, k2⟩ := kd_lt (k := k) hi c1
      have hC := txCI_t hh hi (lt_nb _ g2 c1) (x := 256 + kwI (woL k) 0 (ct b i (ed isLt b n i - i))) (z := 0) (by rw [kwI_F, k1]) (fun h => by rw [k1] at h; have := (kwF_le (woL k) 0 (ct b i (ed isLt b n i - i))).1; omega)
      rw [k2] at hC tg
      rw [start, if_pos c1, c_token a5 (by omega), b_some]
      exact ih (n - ed isLt b n i) (by omega) _ (j + 1) (t + 1) f _ (Nat.le_refl _) (by omega) (by omega) hC
    · by_cases c2 : isDg (b i) = true
      · obtain ⟨k1, k2⟩ := kd_dg (k := k) hi c1 c2
        have hC := txCI_t hh hi (dg_nb _ g2 c2) (x := if ed isDg b n i - i ≤ 4 then 1 else 2) (z := nI (vl b n i)) (by rw [k1]; split <;> rfl) (fun _ => rfl)
        rw [k2] at hC tg
        rw [start, if_neg c1, if_pos c2, c_token a5 (by omega), b_some]
        exact ih (n - ed isDg b n i) (by omega) _ (j + 1) (t + 1) f _ (Nat.le_refl _) (by omega) (by omega) hC
      · by_cases c3 : isBl (b i) = true
        · rw [start, if_neg c1, if_neg c2, if_pos c3]
          exact ih (n - (i + 1)) (by omega) (i + 1) j (t + 1) f u (Nat.le_refl _) (by omega) (by omega) ⟨by omega, by omega, by rw [← ed_y hi c3]; exact a3, a4, a5, a6, a7, a8⟩
        · obtain ⟨k1, k2⟩ := kd_sg (k := k) hi c1 c2
          have hC := txCI_t hh hi c3 (x := if sgn (b i) = true then nI (b i) else 2) (z := 0) (by rw [k1]; split <;> rfl) (fun h => by
            rw [k1] at h
            split at h
            · rename_i h2; exact absurd h (sgn_1 h2)
            · cases h)
          rw [k2] at hC
          rw [start, if_neg c1, if_neg c2, if_neg c3, c_token a5 (by omega), b_some]
          exact ih (n - (i + 1)) (by omega) (i + 1) (j + 1) (t + 1) f _ (Nat.le_refl _) (by omega) (by omega) hC
theorem c_cut {k : Nat} (hk : k < 4) {b : Nat → Nat} {n : Nat} {u0 : Mem} (hT : TP b n (u0 35)) : ∃ u' N, FX6_cut_34 (nI n) (nI k) u0 = some u' ∧ TK k b n u' N ∧ (∀ c, c ≠ 34 → c ≠ 36 → c ≠ 37 → c ≠ 38 → u' c = u0 c) ∧ ∀ x, x ≠ 8 → u' 34 x = u0 34 x := by
  unfold FX6_cut_34
  have hn := hT.1
  have h := c_cutL hk (u0 := u0) hT n 0 0 0 FU (mupd u0 34 8 0) (by omega) (by show _ < 10000; omega) (Nat.le_refl _) ⟨Nat.zero_le _, Nat.le_refl _, rfl, fun j h => by omega, by rw [m_eq, up_eq]; exact nI_0.symm, fun c h1 _ _ _ => m_ne h1, fun x hx => by rw [m_eq, up_ne hx], fun j h => by omega⟩
  rw [nI_0] at h
  exact h

