/-! the model reads: what stands -/
def myF (u0 u : Mem) : Prop := (∀ c, c ≠ 146 → c ≠ 152 → u c = u0 c) ∧ ∀ j, j < 14 ∨ j = 15 ∨ j = 16 ∨ j = 23 ∨ 24 < j → u 146 j = u0 146 j
theorem myF_r (u : Mem) : myF u u := ⟨fun _ _ _ => rfl, fun _ _ => rfl⟩
theorem myF_t {u u1 u2 : Mem} (h : myF u u1) (h' : myF u1 u2) : myF u u2 := ⟨fun c a b => (h'.1 c a b).trans (h.1 c a b), fun j a => (h'.2 j a).trans (h.2 j a)⟩
theorem myF_F {u u' : Mem} (h : txF u u') : myF u u' := ⟨fun c a _ => h.1 c a, fun j a => h.2 j (by omega) (by omega) (by omega) (by omega)⟩
theorem myF_u (u : Mem) {j : Nat} (x : Int32) (h : ¬ (j < 14 ∨ j = 15 ∨ j = 16 ∨ j = 23 ∨ 24 < j)) : myF u (mupd u 146 j x) := ⟨fun c a _ => m_ne a, fun i a => by
  have : i ≠ j := fun e => h (by rw [← e]; exact a)
  rw [m_eq, up_ne this]⟩
def myT (k : Nat) (b : Nat → Nat) (n : Nat) (v0 : Int32) (i : Nat) (u : Mem) : Prop := txS k b n u ∧ u 146 19 = nI (qs b n i) ∧ u 146 17 = nI (te b n (qs b n i)) ∧ u 146 18 = nI (mtk k (kk k b n i)) ∧ u 146 20 = sv b n v0 i
def myS (T : Wt) : Wt := fun x => if x < 966 then 0 else T (x - 966)
def myC (o : pxT) (u : Mem) : Prop := u 146 14 = nI o.length ∧ opsW (myS (u 152)) 0 o.length = o ∧ okW (myS (u 152)) 0 o.length
theorem txS_m {k : Nat} {b : Nat → Nat} {n : Nat} {u u' : Mem} (h : txS k b n u) (f : myF u u') : txS k b n u' := ⟨by rw [f.2 16 (by decide)]; exact h.1, by rw [f.1 154 (by decide) (by decide)]; exact h.2.1, by rw [f.2 12 (by decide)]; exact h.2.2⟩
theorem myT_e {k : Nat} {b : Nat → Nat} {n : Nat} {v0 : Int32} {i : Nat} {u u' : Mem} (h : myT k b n v0 i u) (f : myF u u') (e : ∀ j, 17 ≤ j → j ≤ 20 → u' 146 j = u 146 j) : myT k b n v0 i u' := ⟨txS_m h.1 f, by rw [e 19 (by decide) (by decide)]; exact h.2.1, by rw [e 17 (by decide) (by decide)]; exact h.2.2.1, by rw [e 18 (by decide) (by decide)]; exact h.2.2.2.1, by rw [e 20 (by decide) (by decide)]; exact h.2.2.2.2⟩
theorem m_nxt {k : Nat} (hk : k < 4) {b : Nat → Nat} {n : Nat} {v0 : Int32} {i : Nat} {u : Mem} (h : myT k b n v0 i u) : ∃ u', FX12_next0_146 u = some u' ∧ txF u u' ∧ myT k b n v0 (i + 1) u' := by
  have hn := h.1.2.1.1
  obtain ⟨u', e1, e2, e3, e4, e5, e6⟩ := m_next hk n (te b n (qs b n i)) FU u (by omega) (by show _ < 10000; omega) (te_le (qs_le b n i)) h.1 h.2.2.1
  refine ⟨u', e1, e2, txS_F h.1 e2, e3, e4, e5, ?_⟩
  rw [e6, h.2.2.2.2]; rfl
theorem myC_F {o : pxT} {u u' : Mem} (h : myC o u) (f : txF u u') : myC o u' := by
  unfold myC
  rw [f.2 14 (by decide) (by decide) (by decide) (by decide), f.1 152 (by decide)]
  exact h
/-! kinds and tokens -/
def vkK (k a : Nat) : Bool := decide (a < 3) || (sgn a || decide (255 ≤ a ∧ a < 256 + (woL k).length))
theorem kk_v (k : Nat) (b : Nat → Nat) (n i : Nat) : vkK k (kk k b n i) = true := by
  unfold kk kd vkK
  split
  · rfl
  · split
    · have h := kwF_le (woL k) 0 (ct b (qs b n i) (ed isLt b n (qs b n i) - qs b n i))
      rw [decide_eq_true (show 255 ≤ kwF (woL k) 0 (ct b (qs b n i) (ed isLt b n (qs b n i) - qs b n i)) ∧ _ from ⟨h.1, by omega⟩), Bool.or_true, Bool.or_true]
    · split
      · split <;> rfl
      · split
        · rename_i h
          rw [h, Bool.true_or, Bool.or_true]
        · rfl
theorem vk_le : ∀ k, k < 4 → (256 + (woL k).length ≤ 273) := by decide
theorem sgn_le : ∀ a, sgn a = true → a < 63 := by
  intro a h
  unfold sgn at h
  simp at h
  omega
theorem vk_lt {k a : Nat} (hk : k < 4) (h : vkK k a = true) : a < 273 := by
  have h1 := vk_le k hk
  unfold vkK at h
  rw [Bool.or_eq_true, Bool.or_eq_true, decide_eq_true_eq, decide_eq_true_eq] at h
  rcases h with h | h | h
  · omega
  · have := sgn_le a h; omega
  · omega
theorem mtk_lt : ∀ k, k < 4 → ∀ a, a < 273 → mtk k a < 400 := by decide +kernel
theorem tk_42 : ∀ a, a < 273 → vkK 0 a = true → mtk 0 a = 142 → a = 42 := by decide +kernel
theorem tY_42 {a : Nat} (h : a = 42) : nI (mtk 0 a) = 142 := by rw [h]; decide
theorem tN_42 {a : Nat} (hv : vkK 0 a = true) (h : ¬ a = 42) : ¬ nI (mtk 0 a) = 142 := by
  have hl := vk_lt (show 0 < 4 by decide) hv
  have hm := mtk_lt 0 (by decide) a hl
  rw [eq_li (by decide) (by omega)]
  exact fun e => h (tk_42 a hl hv e)
theorem tk_47 : ∀ a, a < 273 → vkK 0 a = true → mtk 0 a = 147 → a = 47 := by decide +kernel
theorem tY_47 {a : Nat} (h : a = 47) : nI (mtk 0 a) = 147 := by rw [h]; decide
theorem tN_47 {a : Nat} (hv : vkK 0 a = true) (h : ¬ a = 47) : ¬ nI (mtk 0 a) = 147 := by
  have hl := vk_lt (show 0 < 4 by decide) hv
  have hm := mtk_lt 0 (by decide) a hl
  rw [eq_li (by decide) (by omega)]
  exact fun e => h (tk_47 a hl hv e)
theorem tk_43 : ∀ a, a < 273 → vkK 0 a = true → mtk 0 a = 143 → a = 43 := by decide +kernel
theorem tY_43 {a : Nat} (h : a = 43) : nI (mtk 0 a) = 143 := by rw [h]; decide
theorem tN_43 {a : Nat} (hv : vkK 0 a = true) (h : ¬ a = 43) : ¬ nI (mtk 0 a) = 143 := by
  have hl := vk_lt (show 0 < 4 by decide) hv
  have hm := mtk_lt 0 (by decide) a hl
  rw [eq_li (by decide) (by omega)]
  exact fun e => h (tk_43 a hl hv e)
theorem tk_45 : ∀ a, a < 273 → vkK 0 a = true → mtk 0 a = 145 → a = 45 := by decide +kernel
theorem tY_45 {a : Nat} (h : a = 45) : nI (mtk 0 a) = 145 := by rw [h]; decide
theorem tN_45 {a : Nat} (hv : vkK 0 a = true) (h : ¬ a = 45) : ¬ nI (mtk 0 a) = 145 := by
  have hl := vk_lt (show 0 < 4 by decide) hv
  have hm := mtk_lt 0 (by decide) a hl
  rw [eq_li (by decide) (by omega)]
  exact fun e => h (tk_45 a hl hv e)
theorem tk_1 : ∀ a, a < 273 → vkK 0 a = true → mtk 0 a = 2 → a = 1 := by decide +kernel
theorem tY_1 {a : Nat} (h : a = 1) : nI (mtk 0 a) = 2 := by rw [h]; decide
theorem tN_1 {a : Nat} (hv : vkK 0 a = true) (h : ¬ a = 1) : ¬ nI (mtk 0 a) = 2 := by
  have hl := vk_lt (show 0 < 4 by decide) hv
  have hm := mtk_lt 0 (by decide) a hl
  rw [eq_li (by decide) (by omega)]
  exact fun e => h (tk_1 a hl hv e)
theorem tk_263 : ∀ a, a < 273 → vkK 0 a = true → mtk 0 a = 6 → a = 263 := by decide +kernel
theorem tY_263 {a : Nat} (h : a = 263) : nI (mtk 0 a) = 6 := by rw [h]; decide
theorem tN_263 {a : Nat} (hv : vkK 0 a = true) (h : ¬ a = 263) : ¬ nI (mtk 0 a) = 6 := by
  have hl := vk_lt (show 0 < 4 by decide) hv
  have hm := mtk_lt 0 (by decide) a hl
  rw [eq_li (by decide) (by omega)]
  exact fun e => h (tk_263 a hl hv e)
theorem tk_40 : ∀ a, a < 273 → vkK 0 a = true → mtk 0 a = 140 → a = 40 := by decide +kernel
theorem tY_40 {a : Nat} (h : a = 40) : nI (mtk 0 a) = 140 := by rw [h]; decide
theorem tN_40 {a : Nat} (hv : vkK 0 a = true) (h : ¬ a = 40) : ¬ nI (mtk 0 a) = 140 := by
  have hl := vk_lt (show 0 < 4 by decide) hv
  have hm := mtk_lt 0 (by decide) a hl
  rw [eq_li (by decide) (by omega)]
  exact fun e => h (tk_40 a hl hv e)
theorem tk_41 : ∀ a, a < 273 → vkK 0 a = true → mtk 0 a = 141 → a = 41 := by decide +kernel
theorem tY_41 {a : Nat} (h : a = 41) : nI (mtk 0 a) = 141 := by rw [h]; decide
theorem tN_41 {a : Nat} (hv : vkK 0 a = true) (h : ¬ a = 41) : ¬ nI (mtk 0 a) = 141 := by
  have hl := vk_lt (show 0 < 4 by decide) hv
  have hm := mtk_lt 0 (by decide) a hl
  rw [eq_li (by decide) (by omega)]
  exact fun e => h (tk_41 a hl hv e)
theorem tk_60 : ∀ a, a < 273 → vkK 0 a = true → mtk 0 a = 160 → a = 60 := by decide +kernel
theorem tY_60 {a : Nat} (h : a = 60) : nI (mtk 0 a) = 160 := by rw [h]; decide
theorem tN_60 {a : Nat} (hv : vkK 0 a = true) (h : ¬ a = 60) : ¬ nI (mtk 0 a) = 160 := by
  have hl := vk_lt (show 0 < 4 by decide) hv
  have hm := mtk_lt 0 (by decide) a hl
  rw [eq_li (by decide) (by omega)]
  exact fun e => h (tk_60 a hl hv e)
theorem tk_61 : ∀ a, a < 273 → vkK 0 a = true → mtk 0 a = 161 → a = 61 := by decide +kernel
theorem tY_61 {a : Nat} (h : a = 61) : nI (mtk 0 a) = 161 := by rw [h]; decide
theorem tN_61 {a : Nat} (hv : vkK 0 a = true) (h : ¬ a = 61) : ¬ nI (mtk 0 a) = 161 := by
  have hl := vk_lt (show 0 < 4 by decide) hv
  have hm := mtk_lt 0 (by decide) a hl
  rw [eq_li (by decide) (by omega)]
  exact fun e => h (tk_61 a hl hv e)
theorem tk_62 : ∀ a, a < 273 → vkK 0 a = true → mtk 0 a = 162 → a = 62 := by decide +kernel
theorem tY_62 {a : Nat} (h : a = 62) : nI (mtk 0 a) = 162 := by rw [h]; decide
theorem tN_62 {a : Nat} (hv : vkK 0 a = true) (h : ¬ a = 62) : ¬ nI (mtk 0 a) = 162 := by
  have hl := vk_lt (show 0 < 4 by decide) hv
  have hm := mtk_lt 0 (by decide) a hl
  rw [eq_li (by decide) (by omega)]
  exact fun e => h (tk_62 a hl hv e)
theorem tk_261 : ∀ a, a < 273 → vkK 0 a = true → mtk 0 a = 4 → a = 261 := by decide +kernel
theorem tY_261 {a : Nat} (h : a = 261) : nI (mtk 0 a) = 4 := by rw [h]; decide
theorem tN_261 {a : Nat} (hv : vkK 0 a = true) (h : ¬ a = 261) : ¬ nI (mtk 0 a) = 4 := by
  have hl := vk_lt (show 0 < 4 by decide) hv
  have hm := mtk_lt 0 (by decide) a hl
  rw [eq_li (by decide) (by omega)]
  exact fun e => h (tk_261 a hl hv e)
theorem tk_262 : ∀ a, a < 273 → vkK 0 a = true → mtk 0 a = 5 → a = 262 := by decide +kernel
theorem tY_262 {a : Nat} (h : a = 262) : nI (mtk 0 a) = 5 := by rw [h]; decide
theorem tN_262 {a : Nat} (hv : vkK 0 a = true) (h : ¬ a = 262) : ¬ nI (mtk 0 a) = 5 := by
  have hl := vk_lt (show 0 < 4 by decide) hv
  have hm := mtk_lt 0 (by decide) a hl
  rw [eq_li (by decide) (by omega)]
  exact fun e => h (tk_262 a hl hv e)
theorem tk_260 : ∀ a, a < 273 → vkK 0 a = true → mtk 0 a = 3 → a = 260 := by decide +kernel
theorem tY_260 {a : Nat} (h : a = 260) : nI (mtk 0 a) = 3 := by rw [h]; decide
theorem tN_260 {a : Nat} (hv : vkK 0 a = true) (h : ¬ a = 260) : ¬ nI (mtk 0 a) = 3 := by
  have hl := vk_lt (show 0 < 4 by decide) hv
  have hm := mtk_lt 0 (by decide) a hl
  rw [eq_li (by decide) (by omega)]
  exact fun e => h (tk_260 a hl hv e)
theorem tk_59 : ∀ a, a < 273 → vkK 0 a = true → mtk 0 a = 159 → a = 59 := by decide +kernel
theorem tY_59 {a : Nat} (h : a = 59) : nI (mtk 0 a) = 159 := by rw [h]; decide
theorem tN_59 {a : Nat} (hv : vkK 0 a = true) (h : ¬ a = 59) : ¬ nI (mtk 0 a) = 159 := by
  have hl := vk_lt (show 0 < 4 by decide) hv
  have hm := mtk_lt 0 (by decide) a hl
  rw [eq_li (by decide) (by omega)]
  exact fun e => h (tk_59 a hl hv e)
theorem tk_0 : ∀ a, a < 273 → vkK 0 a = true → mtk 0 a = 0 → a = 0 := by decide +kernel
theorem tY_0 {a : Nat} (h : a = 0) : nI (mtk 0 a) = 0 := by rw [h]; decide
theorem tN_0 {a : Nat} (hv : vkK 0 a = true) (h : ¬ a = 0) : ¬ nI (mtk 0 a) = 0 := by
  have hl := vk_lt (show 0 < 4 by decide) hv
  have hm := mtk_lt 0 (by decide) a hl
  rw [eq_li (by decide) (by omega)]
  exact fun e => h (tk_0 a hl hv e)
/-! laying a step -/
theorem opsW_sn (W : Wt) : ∀ (k p : Nat), opsW W p (k + 1) = opsW W p k ++ [(nt (W (966 + 2 * (p + k))), nt (W (966 + 2 * (p + k) + 1)))]
  | 0, p => rfl
  | k + 1, p => by
    have ih := opsW_sn W k (p + 1)
    show (_, _) :: opsW W (p + 1) (k + 1) = (_, _) :: opsW W (p + 1) k ++ _
    rw [ih, show p + 1 + k = p + (k + 1) by omega]; rfl
theorem opsW_cg {W W' : Wt} : ∀ (k p : Nat), (∀ x, x < 966 + 2 * (p + k) → W' x = W x) → opsW W' p k = opsW W p k
  | 0, _, _ => rfl
  | k + 1, p, h => by
    show (_, _) :: opsW W' (p + 1) k = (_, _) :: opsW W (p + 1) k
    rw [h _ (by omega), h _ (by omega), opsW_cg k (p + 1) (fun x hx => h x (by omega))]
theorem opsW_len (W : Wt) : ∀ (k p : Nat), (opsW W p k).length = k
  | 0, _ => rfl
  | k + 1, p => by show (opsW W (p + 1) k).length + 1 = _; rw [opsW_len W k]
theorem len_enc : ∀ o : pxT, o.length ≤ encL o
  | [] => Nat.le_refl 0
  | x :: o => by
    have := len_enc o
    have h1 : encL (x :: o) = enc1 x + encL o := rfl
    have h2 : enc1 x = if x.1 = 26 then 2 else 1 := rfl
    have h3 : (x :: o).length = o.length + 1 := rfl
    split at h2 <;> omega
theorem m_layO {o : pxT} {u : Mem} (hC : myC o u) (hl : o.length < 400) {s : Nat} {p v : Int32} (hp : nI s = p) (hs : s < 100) (hv : s = 0 ∨ s = 26 → nt v < 10000 ∧ v = nI (nt v)) : ∃ u', FX12_lay_146 p v u = some u' ∧ myC (o ++ [(s, nt v)]) u' ∧ myF u u' ∧ ∀ j, 15 ≤ j → u' 146 j = u 146 j := by
  obtain ⟨h1, h2, h3⟩ := hC
  refine ⟨mupd (mupd (mupd u 152 (2 * o.length) p) 152 (2 * o.length + 1) v) 146 14 (nI (o.length + 1)), ?_, ?_, ⟨fun c a d => by rw [m_ne a, m_ne d, m_ne d], fun j hj => by rw [m_eq, up_ne (by omega), m_ne (by decide), m_ne (by decide)]⟩, fun j hj => by rw [m_eq, up_ne (by omega), m_ne (by decide), m_ne (by decide)]⟩
  · unfold FX12_lay_146
    rw [h1, li_mul, wb (by show 2 * o.length < 820; omega) (by omega), m_ne (show 146 ≠ 152 by decide), h1, li_mul, nI_1, wb (by show 2 * o.length + 1 < 820; omega) (by omega), m_ne (show 146 ≠ 152 by decide), m_ne (show 146 ≠ 152 by decide), h1, nI_1, b_some]
  · have e152 : ∀ T : Wt, (∀ x, T x = if x = 2 * o.length + 1 then v else if x = 2 * o.length then p else u 152 x) → opsW (myS T) 0 (o.length + 1) = o ++ [(s, nt v)] ∧ okW (myS T) 0 (o.length + 1) := by
      intro T hT
      have below : ∀ x, x < 966 + 2 * (0 + o.length) → myS T x = myS (u 152) x := fun x hx => by
        unfold myS
        by_cases c : x < 966
        · rw [if_pos c, if_pos c]
        · rw [if_neg c, if_neg c, hT, if_neg (by omega), if_neg (by omega)]
      have t0 : myS T (966 + 2 * (0 + o.length)) = p := by
        unfold myS; rw [if_neg (by omega), hT, if_neg (by omega), if_pos (by omega)]
      have t1 : myS T (966 + 2 * (0 + o.length) + 1) = v := by
        unfold myS; rw [if_neg (by omega), hT, if_pos (by omega)]
      refine ⟨?_, fun j hj => ?_⟩
      · rw [opsW_sn, opsW_cg _ _ below, h2, t0, t1, ← hp, nt_nI (by omega)]
      · by_cases c : j = o.length
        · subst c
          refine ⟨s, nt v, hs, by rw [t1], by rw [t0, hp], fun h => ?_⟩
          rw [t1]; exact hv h
        · obtain ⟨s', v', a1, a2, a3, a4⟩ := h3 j (by omega)
          rw [← below (966 + 2 * (0 + j)) (by omega)] at a3
          rw [← below (966 + 2 * (0 + j) + 1) (by omega)] at a2 a4
          exact ⟨s', v', a1, a2, a3, a4⟩
    have ln : (o ++ [(s, nt v)]).length = o.length + 1 := by rw [List.length_append]; rfl
    unfold myC
    rw [ln, m_eq, up_eq, m_ne (show 152 ≠ 146 by decide), m_eq, m_eq]
    obtain ⟨a, c⟩ := e152 (upd (upd (u 152) (2 * o.length) p) (2 * o.length + 1) v) (fun x => by
      by_cases c1 : x = 2 * o.length + 1
      · rw [if_pos c1, c1, up_eq]
      · rw [if_neg c1, up_ne c1]
        by_cases c2 : x = 2 * o.length
        · rw [if_pos c2, c2, up_eq]
        · rw [if_neg c2, up_ne c2])
    exact ⟨rfl, a, c⟩
/-! runs of the model beside the grammar -/
def mSim (b : Nat → Nat) (n : Nat) (v0 : Int32) (N : Nat) (u0 : Mem) (r : pxR) (a : Option (Int32 × Mem)) : Prop :=
  ∃ x u', a = some (x, u') ∧ myF u0 u' ∧ match r with
  | .inl q => x = 0 ∧ u' 146 21 = nI q.1 ∧ u' 146 22 = nI (qs b n q.2)
  | .inr q => x = 1 ∧ myT 0 b n v0 q.1 u' ∧ myC q.2 u' ∧ encL q.2 ≤ q.1 ∧ q.1 ≤ N ∧ u' 146 24 = u0 146 24
theorem mSim_G {b : Nat → Nat} {n : Nat} {v0 : Int32} {N : Nat} {u0 u1 : Mem} {r : pxR} {a : Option (Int32 × Mem)} (g : myF u0 u1) (h24 : u1 146 24 = u0 146 24) (h : mSim b n v0 N u1 r a) : mSim b n v0 N u0 r a := by
  match r, h with
  | .inl q, ⟨x, u', e, f, h⟩ => exact ⟨x, u', e, myF_t g f, h⟩
  | .inr q, ⟨x, u', e, f, h1, h2, h3, h4, h5, h6⟩ => exact ⟨x, u', e, myF_t g f, h1, h2, h3, h4, h5, by rw [h6, h24]⟩
theorem mSim_b {b : Nat → Nat} {n : Nat} {v0 : Int32} {N : Nat} {u0 : Mem} {e i : Nat} {o0 : pxT} {r : pxR} {f : Nat → pxT → pxR} {a : Option (Int32 × Mem)} {g : Mem → Option (Int32 × Mem)} (hg : pxG N e i o0 r) (h : mSim b n v0 N u0 r a) (hok : ∀ j o u', i + e ≤ j → j ≤ N → encL o + i ≤ encL o0 + j → myF u0 u' → u' 146 24 = u0 146 24 → myT 0 b n v0 j u' → myC o u' → encL o ≤ j → mSim b n v0 N u' (f j o) (g u')) : mSim b n v0 N u0 (pxB r f) (bnd2 a fun x u' => (if x = 0 then (some (0, u')) else g u')) := by
  match r, hg, h with
  | .inl q, hg, ⟨x, u', e1, g1, h1, h2⟩ =>
    rw [e1, b2_some, if_pos h1]
    exact ⟨0, u', rfl, g1, rfl, h2⟩
  | .inr q, hg, ⟨x, u', e1, g1, h1, h2, h3, h4, h5, h6⟩ =>
    rw [e1, b2_some, if_neg (by rw [h1]; exact z1)]
    exact mSim_G g1 h6 (hok q.1 q.2 u' hg.1 hg.2.1 hg.2.2 g1 h6 h2 h3 h4)
theorem mSim_n {b : Nat → Nat} {n : Nat} {v0 : Int32} {N : Nat} {u : Mem} {j : Nat} {o : pxT} (hA : myT 0 b n v0 j u) (hC : myC o u) (hl : encL o ≤ j) (hj : j ≤ N) : mSim b n v0 N u (.inr (j, o)) (some (1, u)) := ⟨1, u, rfl, myF_r u, rfl, hA, hC, hl, hj, rfl⟩
theorem m_bad {b : Nat → Nat} {n : Nat} {v0 : Int32} {N : Nat} {u : Mem} {i : Nat} (hA : myT 0 b n v0 i u) (f : Nat) : mSim b n v0 N u (.inl (f, i)) (bnd2 (FX12_bad_146 (nI f) u) fun x u' => (bchk x).bind fun y => some (y, u')) := by
  unfold FX12_bad_146
  rw [b_some, b_some, b2_some, bchk_0, b_some]
  refine ⟨0, _, rfl, myF_t (myF_u u _ (by decide)) (myF_u _ _ (by decide)), rfl, ?_, ?_⟩
  · rw [m_eq, up_ne (by decide), m_eq, up_eq]
  · rw [m_eq, up_eq, m_eq, up_ne (by decide)]; exact hA.2.1
def myZ (b : Nat → Nat) (n : Nat) (v0 : Int32) (N : Nat) : Prop := pxK (kk 0 b n) N ∧ ∀ i, kk 0 b n i = 1 → vv b n v0 i < 10000 ∧ sv b n v0 i = nI (vv b n v0 i)
theorem unit_rg : ∀ a, a < 273 → vkK 0 a = true → ((41 ≤ mtk 0 a ∧ mtk 0 a ≤ 49) ↔ (264 ≤ a ∧ a ≤ 272)) ∧ (264 ≤ a → a ≤ 272 → mtk 0 a = a - 223) := by decide +kernel
theorem m_unit {b : Nat → Nat} {n : Nat} {v0 : Int32} {N : Nat} (hZ : myZ b n v0 N) {i : Nat} {o : pxT} {u : Mem} (hA : myT 0 b n v0 i u) (hi : i ≤ N) (hC : myC o u) (hl : encL o ≤ i) : mSim b n v0 N u (pxUnit (kk 0 b n) (vv b n v0) i o) (FX12_unit_146 u) := by
  have hv := kk_v 0 b n i
  have hlt := vk_lt (show 0 < 4 by decide) hv
  have hm := mtk_lt 0 (by decide) _ hlt
  obtain ⟨r1, r2⟩ := unit_rg _ hlt hv
  have hN := hZ.1.1
  have hle := len_enc o
  unfold FX12_unit_146 pxUnit FX12_unit_146_b30 FX12_unit_146_b46
  rw [hA.2.2.2.1, m_in, b_some]
  have isn : ((41 : Int32) ≤ nI (mtk 0 (kk 0 b n i)) ∧ nI (mtk 0 (kk 0 b n i)) ≤ 49) ↔ (264 ≤ kk 0 b n i ∧ kk 0 b n i ≤ 272) := by
    rw [li_le (by decide) (by omega), le_li (by decide) (by omega)]; exact r1
  have fin : ∀ (s : Nat) (p : Int32), nI s = p → s < 100 → (s = 0 ∨ s = 26 → vv b n v0 i < 10000 ∧ sv b n v0 i = nI (vv b n v0 i)) → s ≠ 26 → kk 0 b n i ≠ 0 → mSim b n v0 N u (.inr (i + 1, o ++ [(s, vv b n v0 i)])) ((FX12_lay_146 p (u 146 20) u).bind fun u2 => (FX12_next0_146 u2).bind fun u4 => some (1, u4)) := by
    intro s p hp hs hsv h26 h0
    have hiN := hZ.1.2 i hi h0
    obtain ⟨u1, e1, c1, f1, g1⟩ := m_layO hC (by omega) hp hs (v := u 146 20) (by rw [hA.2.2.2.2]; exact hsv)
    have hA1 := myT_e hA f1 (fun j h1 h2 => g1 j (by omega))
    obtain ⟨u2, e2, f2, hA2⟩ := m_nxt (show 0 < 4 by decide) hA1
    rw [e1, b_some, e2, b_some]
    rw [hA.2.2.2.2] at c1
    exact ⟨1, u2, rfl, myF_t f1 (myF_F f2), rfl, hA2, myC_F c1 f2, by rw [encL_app, encL_1 (by show s ≠ 26; exact h26)]; omega, by omega, by rw [f2.2 24 (by decide) (by decide) (by decide) (by decide), g1 24 (by decide)]⟩
  by_cases c : 264 ≤ kk 0 b n i ∧ kk 0 b n i ≤ 272
  · rw [if_pos (isn.mpr c), if_neg (tN_1 hv (by omega)), if_neg z1, if_pos c, r2 c.1 c.2]
    refine fin (kk 0 b n i - 263) _ ?_ (by omega) (by omega) (by omega) (by omega)
    rw [sub_li (by show 40 ≤ kk 0 b n i - 223; omega), show kk 0 b n i - 223 - (OfNat.ofNat 40 : Nat) = kk 0 b n i - 263 by show kk 0 b n i - 223 - 40 = _; omega]
  · rw [if_neg (fun h => c (isn.mp h)), if_neg c, if_pos rfl]
    by_cases d : kk 0 b n i = 1
    · rw [if_pos d, if_pos (tY_1 d)]
      exact fin 0 0 rfl (by decide) (fun _ => hZ.2 i d) (by decide) (by omega)
    · rw [if_neg d, if_neg (tN_1 hv d), if_pos rfl]
      exact m_bad hA 1

