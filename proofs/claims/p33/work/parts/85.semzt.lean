/-! the model's tokens -/
def mtL (k : Nat) : List Nat := if k = 0 then [20, 21, 22, 23, 3, 4, 5, 6, 41, 42, 43, 44, 45, 46, 47, 48, 49] else if k = 1 then [7, 5] else if k = 2 then [8, 9] else [10, 11, 12]
def mtk (k a : Nat) : Nat := if a = 0 then 0 else if a = 1 then 2 else if a = 2 then 1 else if a = 255 then 1 else if a < 255 then 100 + a else (mtL k).getD (a - 256) 1
def txS (k : Nat) (b : Nat → Nat) (n : Nat) (u : Mem) : Prop := u 146 16 = nI n ∧ TP b n (u 154) ∧ u 146 12 = nI k
def txF (u u' : Mem) : Prop := (∀ c, c ≠ 146 → u' c = u c) ∧ ∀ j, j ≠ 17 → j ≠ 18 → j ≠ 19 → j ≠ 20 → u' 146 j = u 146 j
theorem txF_r (u : Mem) : txF u u := ⟨fun _ _ => rfl, fun _ _ _ _ _ => rfl⟩
theorem txF_t {u u1 u2 : Mem} (h : txF u u1) (h' : txF u1 u2) : txF u u2 := ⟨fun c hc => (h'.1 c hc).trans (h.1 c hc), fun j a b c d => (h'.2 j a b c d).trans (h.2 j a b c d)⟩
theorem txF_u (u : Mem) {j : Nat} (x : Int32) (h : j = 17 ∨ j = 18 ∨ j = 19 ∨ j = 20) : txF u (mupd u 146 j x) := ⟨fun c hc => m_ne hc, fun i a b c d => by rw [m_eq, up_ne (by omega)]⟩
theorem txS_F {k : Nat} {b : Nat → Nat} {n : Nat} {u u' : Mem} (h : txS k b n u) (f : txF u u') : txS k b n u' := ⟨by rw [f.2 16 (by decide) (by decide) (by decide) (by decide)]; exact h.1, by rw [f.1 154 (by decide)]; exact h.2.1, by rw [f.2 12 (by decide) (by decide) (by decide) (by decide)]; exact h.2.2⟩
theorem m_isLt : ∀ x, x < 256 → FX12_isLetter (nI x) = some (if isLt x = true then 1 else 0) := by decide +kernel
theorem m_isDg : ∀ x, x < 256 → FX12_isDigit (nI x) = some (if isDg x = true then 1 else 0) := by decide +kernel
theorem m_isLt1 : FX12_isLetter (-1) = some 0 := by decide +kernel
theorem m_isDg1 : FX12_isDigit (-1) = some 0 := by decide +kernel
theorem m_see {k : Nat} {b : Nat → Nat} {n : Nat} {u : Mem} (h : txS k b n u) {i : Nat} (hi : i ≤ n) : FX12_see_146 (nI i) u = some (if i < n then nI (b i) else -1) := by
  obtain ⟨h1, ⟨h2, h3⟩, -⟩ := h
  unfold FX12_see_146
  rw [h1]
  by_cases c : i < n
  · rw [if_pos c, ltN _ _ (by omega) (by omega) c, rb (by omega) (by omega), (h3 i c).1]
  · rw [if_neg c, ltE _ _ (by omega) (by omega) (by omega)]
theorem m_seeL {k : Nat} {b : Nat → Nat} {n : Nat} {u : Mem} (h : txS k b n u) {i : Nat} (hi : i ≤ n) {β : Type} (f : Int32 → Option β) : ((FX12_see_146 (nI i) u).bind fun x => (FX12_isLetter x).bind f) = f (if i < n ∧ isLt (b i) = true then 1 else 0) := by
  rw [m_see h hi, b_some]
  by_cases c : i < n
  · rw [if_pos c, m_isLt _ (h.2.1.2 i c).2, b_some]
    by_cases d : isLt (b i) = true
    · rw [if_pos d, if_pos ⟨c, d⟩]
    · rw [if_neg d, if_neg (fun x => d x.2)]
  · rw [if_neg c, m_isLt1, b_some, if_neg (fun x => c x.1)]
theorem m_seeD {k : Nat} {b : Nat → Nat} {n : Nat} {u : Mem} (h : txS k b n u) {i : Nat} (hi : i ≤ n) {β : Type} (f : Int32 → Option β) : ((FX12_see_146 (nI i) u).bind fun x => (FX12_isDigit x).bind f) = f (if i < n ∧ isDg (b i) = true then 1 else 0) := by
  rw [m_see h hi, b_some]
  by_cases c : i < n
  · rw [if_pos c, m_isDg _ (h.2.1.2 i c).2, b_some]
    by_cases d : isDg (b i) = true
    · rw [if_pos d, if_pos ⟨c, d⟩]
    · rw [if_neg d, if_neg (fun x => d x.2)]
  · rw [if_neg c, m_isDg1, b_some, if_neg (fun x => c x.1)]
theorem okS_5 : S_lenW 5 = some (nI wo_when.length) ∧ wo_when.length < 20 ∧ ∀ x, x < wo_when.length → S_chrW 5 (nI x) = some (nI (wo_when.getD x 0)) ∧ wo_when.getD x 0 < 256 := by decide +kernel
theorem m_is_5 {k : Nat} {b : Nat → Nat} {n : Nat} {u : Mem} (h : txS k b n u) {s e : Nat} (hs : u 146 19 = nI s) (he : u 146 17 = nI e) (hse : s ≤ e) (hen : e ≤ n) : FX12_is_146_5005 u = some (if ct b s (e - s) = wo_when then 1 else 0) := by
  obtain ⟨o1, o2, o3⟩ := okS_5
  obtain ⟨-, ⟨t1, t2⟩, -⟩ := h
  unfold FX12_is_146_5005 FX12_is_146_5005_b21
  rw [o1, b_some, he, hs, nI_sub hse]
  by_cases c : wo_when.length = e - s
  · rw [if_pos (by rw [c])]
    have hl := ct_eq b (e - s) s _ c
    have key : ∀ (m x F : Nat), x + m = e - s → m < F → (∀ y, y < x → b (s + y) = wo_when.getD y 0) → FX12_is_146_5005_L24 F 1 (nI x) u = some (if ct b s (e - s) = wo_when then 1 else 0) := by
      intro m
      induction m with
      | zero =>
        intro x F hx hF hy
        obtain ⟨f, rfl⟩ : ∃ f, F = f + 1 := ⟨F - 1, by omega⟩
        show FX12_is_146_5005_b24 _ _ _ _ = _
        unfold FX12_is_146_5005_b24 FX12_is_146_5005_b67
        rw [o1, b_some, ltE _ _ (by omega) (by omega) (by omega), bchk_1, b_some, if_pos (hl.mpr (fun y h => hy y (by omega)))]
      | succ m ih =>
        intro x F hx hF hy
        obtain ⟨f, rfl⟩ : ∃ f, F = f + 1 := ⟨F - 1, by omega⟩
        obtain ⟨p1, p2⟩ := o3 x (by omega)
        obtain ⟨g1, g2⟩ := t2 (s + x) (by omega)
        show FX12_is_146_5005_b24 _ _ _ _ = _
        unfold FX12_is_146_5005_b24 FX12_is_146_5005_b60
        rw [o1, b_some, ltN _ _ (by omega) (by omega) (by omega), if_neg z1, hs, nI_add, rb (by omega) (by omega), g1, p1, b_some, nI_1]
        by_cases d : b (s + x) = wo_when.getD x 0
        · rw [if_pos (by rw [d])]
          exact ih (x + 1) f (by omega) (by omega) (fun y h => by
            by_cases e : y = x
            · rw [e]; exact d
            · exact hy y (by omega))
        · rw [if_neg (by rw [nn_eq (by omega) (by omega)]; exact d), if_neg (fun h => d ((hl.mp h) x (by omega)))]
          obtain ⟨f', rfl⟩ : ∃ f', f = f' + 1 := ⟨f - 1, by omega⟩
          show FX12_is_146_5005_b24 _ _ _ _ = _
          unfold FX12_is_146_5005_b24 FX12_is_146_5005_b67
          rw [o1, b_some, if_pos rfl, ite_self, bchk_0, b_some]
    have h0 := key (e - s) 0 FU (by omega) (by show _ < 10000; omega) (fun y h => by omega)
    rw [nI_0] at h0
    exact h0
  · rw [if_neg (by rw [nn_eq (by omega) (by omega)]; exact fun h => c h.symm), if_neg]
    · show FX12_is_146_5005_b24 _ _ _ _ = _
      unfold FX12_is_146_5005_b24 FX12_is_146_5005_b67
      rw [o1, b_some, if_pos rfl, ite_self, bchk_0, b_some]
    · intro h
      have := ct_len b (e - s) s
      rw [h] at this
      exact c this
theorem okS_6 : S_lenW 6 = some (nI wo_or.length) ∧ wo_or.length < 20 ∧ ∀ x, x < wo_or.length → S_chrW 6 (nI x) = some (nI (wo_or.getD x 0)) ∧ wo_or.getD x 0 < 256 := by decide +kernel
theorem m_is_6 {k : Nat} {b : Nat → Nat} {n : Nat} {u : Mem} (h : txS k b n u) {s e : Nat} (hs : u 146 19 = nI s) (he : u 146 17 = nI e) (hse : s ≤ e) (hen : e ≤ n) : FX12_is_146_5006 u = some (if ct b s (e - s) = wo_or then 1 else 0) := by
  obtain ⟨o1, o2, o3⟩ := okS_6
  obtain ⟨-, ⟨t1, t2⟩, -⟩ := h
  unfold FX12_is_146_5006 FX12_is_146_5006_b21
  rw [o1, b_some, he, hs, nI_sub hse]
  by_cases c : wo_or.length = e - s
  · rw [if_pos (by rw [c])]
    have hl := ct_eq b (e - s) s _ c
    have key : ∀ (m x F : Nat), x + m = e - s → m < F → (∀ y, y < x → b (s + y) = wo_or.getD y 0) → FX12_is_146_5006_L24 F 1 (nI x) u = some (if ct b s (e - s) = wo_or then 1 else 0) := by
      intro m
      induction m with
      | zero =>
        intro x F hx hF hy
        obtain ⟨f, rfl⟩ : ∃ f, F = f + 1 := ⟨F - 1, by omega⟩
        show FX12_is_146_5006_b24 _ _ _ _ = _
        unfold FX12_is_146_5006_b24 FX12_is_146_5006_b67
        rw [o1, b_some, ltE _ _ (by omega) (by omega) (by omega), bchk_1, b_some, if_pos (hl.mpr (fun y h => hy y (by omega)))]
      | succ m ih =>
        intro x F hx hF hy
        obtain ⟨f, rfl⟩ : ∃ f, F = f + 1 := ⟨F - 1, by omega⟩
        obtain ⟨p1, p2⟩ := o3 x (by omega)
        obtain ⟨g1, g2⟩ := t2 (s + x) (by omega)
        show FX12_is_146_5006_b24 _ _ _ _ = _
        unfold FX12_is_146_5006_b24 FX12_is_146_5006_b60
        rw [o1, b_some, ltN _ _ (by omega) (by omega) (by omega), if_neg z1, hs, nI_add, rb (by omega) (by omega), g1, p1, b_some, nI_1]
        by_cases d : b (s + x) = wo_or.getD x 0
        · rw [if_pos (by rw [d])]
          exact ih (x + 1) f (by omega) (by omega) (fun y h => by
            by_cases e : y = x
            · rw [e]; exact d
            · exact hy y (by omega))
        · rw [if_neg (by rw [nn_eq (by omega) (by omega)]; exact d), if_neg (fun h => d ((hl.mp h) x (by omega)))]
          obtain ⟨f', rfl⟩ : ∃ f', f = f' + 1 := ⟨f - 1, by omega⟩
          show FX12_is_146_5006_b24 _ _ _ _ = _
          unfold FX12_is_146_5006_b24 FX12_is_146_5006_b67
          rw [o1, b_some, if_pos rfl, ite_self, bchk_0, b_some]
    have h0 := key (e - s) 0 FU (by omega) (by show _ < 10000; omega) (fun y h => by omega)
    rw [nI_0] at h0
    exact h0
  · rw [if_neg (by rw [nn_eq (by omega) (by omega)]; exact fun h => c h.symm), if_neg]
    · show FX12_is_146_5006_b24 _ _ _ _ = _
      unfold FX12_is_146_5006_b24 FX12_is_146_5006_b67
      rw [o1, b_some, if_pos rfl, ite_self, bchk_0, b_some]
    · intro h
      have := ct_len b (e - s) s
      rw [h] at this
      exact c this
theorem okS_7 : S_lenW 7 = some (nI wo_and.length) ∧ wo_and.length < 20 ∧ ∀ x, x < wo_and.length → S_chrW 7 (nI x) = some (nI (wo_and.getD x 0)) ∧ wo_and.getD x 0 < 256 := by decide +kernel
theorem m_is_7 {k : Nat} {b : Nat → Nat} {n : Nat} {u : Mem} (h : txS k b n u) {s e : Nat} (hs : u 146 19 = nI s) (he : u 146 17 = nI e) (hse : s ≤ e) (hen : e ≤ n) : FX12_is_146_5007 u = some (if ct b s (e - s) = wo_and then 1 else 0) := by
  obtain ⟨o1, o2, o3⟩ := okS_7
  obtain ⟨-, ⟨t1, t2⟩, -⟩ := h
  unfold FX12_is_146_5007 FX12_is_146_5007_b21
  rw [o1, b_some, he, hs, nI_sub hse]
  by_cases c : wo_and.length = e - s
  · rw [if_pos (by rw [c])]
    have hl := ct_eq b (e - s) s _ c
    have key : ∀ (m x F : Nat), x + m = e - s → m < F → (∀ y, y < x → b (s + y) = wo_and.getD y 0) → FX12_is_146_5007_L24 F 1 (nI x) u = some (if ct b s (e - s) = wo_and then 1 else 0) := by
      intro m
      induction m with
      | zero =>
        intro x F hx hF hy
        obtain ⟨f, rfl⟩ : ∃ f, F = f + 1 := ⟨F - 1, by omega⟩
        show FX12_is_146_5007_b24 _ _ _ _ = _
        unfold FX12_is_146_5007_b24 FX12_is_146_5007_b67
        rw [o1, b_some, ltE _ _ (by omega) (by omega) (by omega), bchk_1, b_some, if_pos (hl.mpr (fun y h => hy y (by omega)))]
      | succ m ih =>
        intro x F hx hF hy
        obtain ⟨f, rfl⟩ : ∃ f, F = f + 1 := ⟨F - 1, by omega⟩
        obtain ⟨p1, p2⟩ := o3 x (by omega)
        obtain ⟨g1, g2⟩ := t2 (s + x) (by omega)
        show FX12_is_146_5007_b24 _ _ _ _ = _
        unfold FX12_is_146_5007_b24 FX12_is_146_5007_b60
        rw [o1, b_some, ltN _ _ (by omega) (by omega) (by omega), if_neg z1, hs, nI_add, rb (by omega) (by omega), g1, p1, b_some, nI_1]
        by_cases d : b (s + x) = wo_and.getD x 0
        · rw [if_pos (by rw [d])]
          exact ih (x + 1) f (by omega) (by omega) (fun y h => by
            by_cases e : y = x
            · rw [e]; exact d
            · exact hy y (by omega))
        · rw [if_neg (by rw [nn_eq (by omega) (by omega)]; exact d), if_neg (fun h => d ((hl.mp h) x (by omega)))]
          obtain ⟨f', rfl⟩ : ∃ f', f = f' + 1 := ⟨f - 1, by omega⟩
          show FX12_is_146_5007_b24 _ _ _ _ = _
          unfold FX12_is_146_5007_b24 FX12_is_146_5007_b67
          rw [o1, b_some, if_pos rfl, ite_self, bchk_0, b_some]
    have h0 := key (e - s) 0 FU (by omega) (by show _ < 10000; omega) (fun y h => by omega)
    rw [nI_0] at h0
    exact h0
  · rw [if_neg (by rw [nn_eq (by omega) (by omega)]; exact fun h => c h.symm), if_neg]
    · show FX12_is_146_5007_b24 _ _ _ _ = _
      unfold FX12_is_146_5007_b24 FX12_is_146_5007_b67
      rw [o1, b_some, if_pos rfl, ite_self, bchk_0, b_some]
    · intro h
      have := ct_len b (e - s) s
      rw [h] at this
      exact c this
theorem okS_8 : S_lenW 8 = some (nI wo_not.length) ∧ wo_not.length < 20 ∧ ∀ x, x < wo_not.length → S_chrW 8 (nI x) = some (nI (wo_not.getD x 0)) ∧ wo_not.getD x 0 < 256 := by decide +kernel
theorem m_is_8 {k : Nat} {b : Nat → Nat} {n : Nat} {u : Mem} (h : txS k b n u) {s e : Nat} (hs : u 146 19 = nI s) (he : u 146 17 = nI e) (hse : s ≤ e) (hen : e ≤ n) : FX12_is_146_5008 u = some (if ct b s (e - s) = wo_not then 1 else 0) := by
  obtain ⟨o1, o2, o3⟩ := okS_8
  obtain ⟨-, ⟨t1, t2⟩, -⟩ := h
  unfold FX12_is_146_5008 FX12_is_146_5008_b21
  rw [o1, b_some, he, hs, nI_sub hse]
  by_cases c : wo_not.length = e - s
  · rw [if_pos (by rw [c])]
    have hl := ct_eq b (e - s) s _ c
    have key : ∀ (m x F : Nat), x + m = e - s → m < F → (∀ y, y < x → b (s + y) = wo_not.getD y 0) → FX12_is_146_5008_L24 F 1 (nI x) u = some (if ct b s (e - s) = wo_not then 1 else 0) := by
      intro m
      induction m with
      | zero =>
        intro x F hx hF hy
        obtain ⟨f, rfl⟩ : ∃ f, F = f + 1 := ⟨F - 1, by omega⟩
        show FX12_is_146_5008_b24 _ _ _ _ = _
        unfold FX12_is_146_5008_b24 FX12_is_146_5008_b67
        rw [o1, b_some, ltE _ _ (by omega) (by omega) (by omega), bchk_1, b_some, if_pos (hl.mpr (fun y h => hy y (by omega)))]
      | succ m ih =>
        intro x F hx hF hy
        obtain ⟨f, rfl⟩ : ∃ f, F = f + 1 := ⟨F - 1, by omega⟩
        obtain ⟨p1, p2⟩ := o3 x (by omega)
        obtain ⟨g1, g2⟩ := t2 (s + x) (by omega)
        show FX12_is_146_5008_b24 _ _ _ _ = _
        unfold FX12_is_146_5008_b24 FX12_is_146_5008_b60
        rw [o1, b_some, ltN _ _ (by omega) (by omega) (by omega), if_neg z1, hs, nI_add, rb (by omega) (by omega), g1, p1, b_some, nI_1]
        by_cases d : b (s + x) = wo_not.getD x 0
        · rw [if_pos (by rw [d])]
          exact ih (x + 1) f (by omega) (by omega) (fun y h => by
            by_cases e : y = x
            · rw [e]; exact d
            · exact hy y (by omega))
        · rw [if_neg (by rw [nn_eq (by omega) (by omega)]; exact d), if_neg (fun h => d ((hl.mp h) x (by omega)))]
          obtain ⟨f', rfl⟩ : ∃ f', f = f' + 1 := ⟨f - 1, by omega⟩
          show FX12_is_146_5008_b24 _ _ _ _ = _
          unfold FX12_is_146_5008_b24 FX12_is_146_5008_b67
          rw [o1, b_some, if_pos rfl, ite_self, bchk_0, b_some]
    have h0 := key (e - s) 0 FU (by omega) (by show _ < 10000; omega) (fun y h => by omega)
    rw [nI_0] at h0
    exact h0
  · rw [if_neg (by rw [nn_eq (by omega) (by omega)]; exact fun h => c h.symm), if_neg]
    · show FX12_is_146_5008_b24 _ _ _ _ = _
      unfold FX12_is_146_5008_b24 FX12_is_146_5008_b67
      rw [o1, b_some, if_pos rfl, ite_self, bchk_0, b_some]
    · intro h
      have := ct_len b (e - s) s
      rw [h] at this
      exact c this
theorem okS_9 : S_lenW 9 = some (nI wo_call.length) ∧ wo_call.length < 20 ∧ ∀ x, x < wo_call.length → S_chrW 9 (nI x) = some (nI (wo_call.getD x 0)) ∧ wo_call.getD x 0 < 256 := by decide +kernel
theorem m_is_9 {k : Nat} {b : Nat → Nat} {n : Nat} {u : Mem} (h : txS k b n u) {s e : Nat} (hs : u 146 19 = nI s) (he : u 146 17 = nI e) (hse : s ≤ e) (hen : e ≤ n) : FX12_is_146_5009 u = some (if ct b s (e - s) = wo_call then 1 else 0) := by
  obtain ⟨o1, o2, o3⟩ := okS_9
  obtain ⟨-, ⟨t1, t2⟩, -⟩ := h
  unfold FX12_is_146_5009 FX12_is_146_5009_b21
  rw [o1, b_some, he, hs, nI_sub hse]
  by_cases c : wo_call.length = e - s
  · rw [if_pos (by rw [c])]
    have hl := ct_eq b (e - s) s _ c
    have key : ∀ (m x F : Nat), x + m = e - s → m < F → (∀ y, y < x → b (s + y) = wo_call.getD y 0) → FX12_is_146_5009_L24 F 1 (nI x) u = some (if ct b s (e - s) = wo_call then 1 else 0) := by
      intro m
      induction m with
      | zero =>
        intro x F hx hF hy
        obtain ⟨f, rfl⟩ : ∃ f, F = f + 1 := ⟨F - 1, by omega⟩
        show FX12_is_146_5009_b24 _ _ _ _ = _
        unfold FX12_is_146_5009_b24 FX12_is_146_5009_b67
        rw [o1, b_some, ltE _ _ (by omega) (by omega) (by omega), bchk_1, b_some, if_pos (hl.mpr (fun y h => hy y (by omega)))]
      | succ m ih =>
        intro x F hx hF hy
        obtain ⟨f, rfl⟩ : ∃ f, F = f + 1 := ⟨F - 1, by omega⟩
        obtain ⟨p1, p2⟩ := o3 x (by omega)
        obtain ⟨g1, g2⟩ := t2 (s + x) (by omega)
        show FX12_is_146_5009_b24 _ _ _ _ = _
        unfold FX12_is_146_5009_b24 FX12_is_146_5009_b60
        rw [o1, b_some, ltN _ _ (by omega) (by omega) (by omega), if_neg z1, hs, nI_add, rb (by omega) (by omega), g1, p1, b_some, nI_1]
        by_cases d : b (s + x) = wo_call.getD x 0
        · rw [if_pos (by rw [d])]
          exact ih (x + 1) f (by omega) (by omega) (fun y h => by
            by_cases e : y = x
            · rw [e]; exact d
            · exact hy y (by omega))
        · rw [if_neg (by rw [nn_eq (by omega) (by omega)]; exact d), if_neg (fun h => d ((hl.mp h) x (by omega)))]
          obtain ⟨f', rfl⟩ : ∃ f', f = f' + 1 := ⟨f - 1, by omega⟩
          show FX12_is_146_5009_b24 _ _ _ _ = _
          unfold FX12_is_146_5009_b24 FX12_is_146_5009_b67
          rw [o1, b_some, if_pos rfl, ite_self, bchk_0, b_some]
    have h0 := key (e - s) 0 FU (by omega) (by show _ < 10000; omega) (fun y h => by omega)
    rw [nI_0] at h0
    exact h0
  · rw [if_neg (by rw [nn_eq (by omega) (by omega)]; exact fun h => c h.symm), if_neg]
    · show FX12_is_146_5009_b24 _ _ _ _ = _
      unfold FX12_is_146_5009_b24 FX12_is_146_5009_b67
      rw [o1, b_some, if_pos rfl, ite_self, bchk_0, b_some]
    · intro h
      have := ct_len b (e - s) s
      rw [h] at this
      exact c this
theorem okS_10 : S_lenW 10 = some (nI wo_step.length) ∧ wo_step.length < 20 ∧ ∀ x, x < wo_step.length → S_chrW 10 (nI x) = some (nI (wo_step.getD x 0)) ∧ wo_step.getD x 0 < 256 := by decide +kernel
theorem m_is_10 {k : Nat} {b : Nat → Nat} {n : Nat} {u : Mem} (h : txS k b n u) {s e : Nat} (hs : u 146 19 = nI s) (he : u 146 17 = nI e) (hse : s ≤ e) (hen : e ≤ n) : FX12_is_146_5010 u = some (if ct b s (e - s) = wo_step then 1 else 0) := by
  obtain ⟨o1, o2, o3⟩ := okS_10
  obtain ⟨-, ⟨t1, t2⟩, -⟩ := h
  unfold FX12_is_146_5010 FX12_is_146_5010_b21
  rw [o1, b_some, he, hs, nI_sub hse]
  by_cases c : wo_step.length = e - s
  · rw [if_pos (by rw [c])]
    have hl := ct_eq b (e - s) s _ c
    have key : ∀ (m x F : Nat), x + m = e - s → m < F → (∀ y, y < x → b (s + y) = wo_step.getD y 0) → FX12_is_146_5010_L24 F 1 (nI x) u = some (if ct b s (e - s) = wo_step then 1 else 0) := by
      intro m
      induction m with
      | zero =>
        intro x F hx hF hy
        obtain ⟨f, rfl⟩ : ∃ f, F = f + 1 := ⟨F - 1, by omega⟩
        show FX12_is_146_5010_b24 _ _ _ _ = _
        unfold FX12_is_146_5010_b24 FX12_is_146_5010_b67
        rw [o1, b_some, ltE _ _ (by omega) (by omega) (by omega), bchk_1, b_some, if_pos (hl.mpr (fun y h => hy y (by omega)))]
      | succ m ih =>
        intro x F hx hF hy
        obtain ⟨f, rfl⟩ : ∃ f, F = f + 1 := ⟨F - 1, by omega⟩
        obtain ⟨p1, p2⟩ := o3 x (by omega)
        obtain ⟨g1, g2⟩ := t2 (s + x) (by omega)
        show FX12_is_146_5010_b24 _ _ _ _ = _
        unfold FX12_is_146_5010_b24 FX12_is_146_5010_b60
        rw [o1, b_some, ltN _ _ (by omega) (by omega) (by omega), if_neg z1, hs, nI_add, rb (by omega) (by omega), g1, p1, b_some, nI_1]
        by_cases d : b (s + x) = wo_step.getD x 0
        · rw [if_pos (by rw [d])]
          exact ih (x + 1) f (by omega) (by omega) (fun y h => by
            by_cases e : y = x
            · rw [e]; exact d
            · exact hy y (by omega))
        · rw [if_neg (by rw [nn_eq (by omega) (by omega)]; exact d), if_neg (fun h => d ((hl.mp h) x (by omega)))]
          obtain ⟨f', rfl⟩ : ∃ f', f = f' + 1 := ⟨f - 1, by omega⟩
          show FX12_is_146_5010_b24 _ _ _ _ = _
          unfold FX12_is_146_5010_b24 FX12_is_146_5010_b67
          rw [o1, b_some, if_pos rfl, ite_self, bchk_0, b_some]
    have h0 := key (e - s) 0 FU (by omega) (by show _ < 10000; omega) (fun y h => by omega)
    rw [nI_0] at h0
    exact h0
  · rw [if_neg (by rw [nn_eq (by omega) (by omega)]; exact fun h => c h.symm), if_neg]
    · show FX12_is_146_5010_b24 _ _ _ _ = _
      unfold FX12_is_146_5010_b24 FX12_is_146_5010_b67
      rw [o1, b_some, if_pos rfl, ite_self, bchk_0, b_some]
    · intro h
      have := ct_len b (e - s) s
      rw [h] at this
      exact c this
theorem okS_11 : S_lenW 11 = some (nI wo_nap.length) ∧ wo_nap.length < 20 ∧ ∀ x, x < wo_nap.length → S_chrW 11 (nI x) = some (nI (wo_nap.getD x 0)) ∧ wo_nap.getD x 0 < 256 := by decide +kernel
theorem m_is_11 {k : Nat} {b : Nat → Nat} {n : Nat} {u : Mem} (h : txS k b n u) {s e : Nat} (hs : u 146 19 = nI s) (he : u 146 17 = nI e) (hse : s ≤ e) (hen : e ≤ n) : FX12_is_146_5011 u = some (if ct b s (e - s) = wo_nap then 1 else 0) := by
  obtain ⟨o1, o2, o3⟩ := okS_11
  obtain ⟨-, ⟨t1, t2⟩, -⟩ := h
  unfold FX12_is_146_5011 FX12_is_146_5011_b21
  rw [o1, b_some, he, hs, nI_sub hse]
  by_cases c : wo_nap.length = e - s
  · rw [if_pos (by rw [c])]
    have hl := ct_eq b (e - s) s _ c
    have key : ∀ (m x F : Nat), x + m = e - s → m < F → (∀ y, y < x → b (s + y) = wo_nap.getD y 0) → FX12_is_146_5011_L24 F 1 (nI x) u = some (if ct b s (e - s) = wo_nap then 1 else 0) := by
      intro m
      induction m with
      | zero =>
        intro x F hx hF hy
        obtain ⟨f, rfl⟩ : ∃ f, F = f + 1 := ⟨F - 1, by omega⟩
        show FX12_is_146_5011_b24 _ _ _ _ = _
        unfold FX12_is_146_5011_b24 FX12_is_146_5011_b67
        rw [o1, b_some, ltE _ _ (by omega) (by omega) (by omega), bchk_1, b_some, if_pos (hl.mpr (fun y h => hy y (by omega)))]
      | succ m ih =>
        intro x F hx hF hy
        obtain ⟨f, rfl⟩ : ∃ f, F = f + 1 := ⟨F - 1, by omega⟩
        obtain ⟨p1, p2⟩ := o3 x (by omega)
        obtain ⟨g1, g2⟩ := t2 (s + x) (by omega)
        show FX12_is_146_5011_b24 _ _ _ _ = _
        unfold FX12_is_146_5011_b24 FX12_is_146_5011_b60
        rw [o1, b_some, ltN _ _ (by omega) (by omega) (by omega), if_neg z1, hs, nI_add, rb (by omega) (by omega), g1, p1, b_some, nI_1]
        by_cases d : b (s + x) = wo_nap.getD x 0
        · rw [if_pos (by rw [d])]
          exact ih (x + 1) f (by omega) (by omega) (fun y h => by
            by_cases e : y = x
            · rw [e]; exact d
            · exact hy y (by omega))
        · rw [if_neg (by rw [nn_eq (by omega) (by omega)]; exact d), if_neg (fun h => d ((hl.mp h) x (by omega)))]
          obtain ⟨f', rfl⟩ : ∃ f', f = f' + 1 := ⟨f - 1, by omega⟩
          show FX12_is_146_5011_b24 _ _ _ _ = _
          unfold FX12_is_146_5011_b24 FX12_is_146_5011_b67
          rw [o1, b_some, if_pos rfl, ite_self, bchk_0, b_some]
    have h0 := key (e - s) 0 FU (by omega) (by show _ < 10000; omega) (fun y h => by omega)
    rw [nI_0] at h0
    exact h0
  · rw [if_neg (by rw [nn_eq (by omega) (by omega)]; exact fun h => c h.symm), if_neg]
    · show FX12_is_146_5011_b24 _ _ _ _ = _
      unfold FX12_is_146_5011_b24 FX12_is_146_5011_b67
      rw [o1, b_some, if_pos rfl, ite_self, bchk_0, b_some]
    · intro h
      have := ct_len b (e - s) s
      rw [h] at this
      exact c this
theorem okS_12 : S_lenW 12 = some (nI wo_fade.length) ∧ wo_fade.length < 20 ∧ ∀ x, x < wo_fade.length → S_chrW 12 (nI x) = some (nI (wo_fade.getD x 0)) ∧ wo_fade.getD x 0 < 256 := by decide +kernel
theorem m_is_12 {k : Nat} {b : Nat → Nat} {n : Nat} {u : Mem} (h : txS k b n u) {s e : Nat} (hs : u 146 19 = nI s) (he : u 146 17 = nI e) (hse : s ≤ e) (hen : e ≤ n) : FX12_is_146_5012 u = some (if ct b s (e - s) = wo_fade then 1 else 0) := by
  obtain ⟨o1, o2, o3⟩ := okS_12
  obtain ⟨-, ⟨t1, t2⟩, -⟩ := h
  unfold FX12_is_146_5012 FX12_is_146_5012_b21
  rw [o1, b_some, he, hs, nI_sub hse]
  by_cases c : wo_fade.length = e - s
  · rw [if_pos (by rw [c])]
    have hl := ct_eq b (e - s) s _ c
    have key : ∀ (m x F : Nat), x + m = e - s → m < F → (∀ y, y < x → b (s + y) = wo_fade.getD y 0) → FX12_is_146_5012_L24 F 1 (nI x) u = some (if ct b s (e - s) = wo_fade then 1 else 0) := by
      intro m
      induction m with
      | zero =>
        intro x F hx hF hy
        obtain ⟨f, rfl⟩ : ∃ f, F = f + 1 := ⟨F - 1, by omega⟩
        show FX12_is_146_5012_b24 _ _ _ _ = _
        unfold FX12_is_146_5012_b24 FX12_is_146_5012_b67
        rw [o1, b_some, ltE _ _ (by omega) (by omega) (by omega), bchk_1, b_some, if_pos (hl.mpr (fun y h => hy y (by omega)))]
      | succ m ih =>
        intro x F hx hF hy
        obtain ⟨f, rfl⟩ : ∃ f, F = f + 1 := ⟨F - 1, by omega⟩
        obtain ⟨p1, p2⟩ := o3 x (by omega)
        obtain ⟨g1, g2⟩ := t2 (s + x) (by omega)
        show FX12_is_146_5012_b24 _ _ _ _ = _
        unfold FX12_is_146_5012_b24 FX12_is_146_5012_b60
        rw [o1, b_some, ltN _ _ (by omega) (by omega) (by omega), if_neg z1, hs, nI_add, rb (by omega) (by omega), g1, p1, b_some, nI_1]
        by_cases d : b (s + x) = wo_fade.getD x 0
        · rw [if_pos (by rw [d])]
          exact ih (x + 1) f (by omega) (by omega) (fun y h => by
            by_cases e : y = x
            · rw [e]; exact d
            · exact hy y (by omega))
        · rw [if_neg (by rw [nn_eq (by omega) (by omega)]; exact d), if_neg (fun h => d ((hl.mp h) x (by omega)))]
          obtain ⟨f', rfl⟩ : ∃ f', f = f' + 1 := ⟨f - 1, by omega⟩
          show FX12_is_146_5012_b24 _ _ _ _ = _
          unfold FX12_is_146_5012_b24 FX12_is_146_5012_b67
          rw [o1, b_some, if_pos rfl, ite_self, bchk_0, b_some]
    have h0 := key (e - s) 0 FU (by omega) (by show _ < 10000; omega) (fun y h => by omega)
    rw [nI_0] at h0
    exact h0
  · rw [if_neg (by rw [nn_eq (by omega) (by omega)]; exact fun h => c h.symm), if_neg]
    · show FX12_is_146_5012_b24 _ _ _ _ = _
      unfold FX12_is_146_5012_b24 FX12_is_146_5012_b67
      rw [o1, b_some, if_pos rfl, ite_self, bchk_0, b_some]
    · intro h
      have := ct_len b (e - s) s
      rw [h] at this
      exact c this
theorem okS_13 : S_lenW 13 = some (nI wo_country.length) ∧ wo_country.length < 20 ∧ ∀ x, x < wo_country.length → S_chrW 13 (nI x) = some (nI (wo_country.getD x 0)) ∧ wo_country.getD x 0 < 256 := by decide +kernel
theorem m_is_13 {k : Nat} {b : Nat → Nat} {n : Nat} {u : Mem} (h : txS k b n u) {s e : Nat} (hs : u 146 19 = nI s) (he : u 146 17 = nI e) (hse : s ≤ e) (hen : e ≤ n) : FX12_is_146_5013 u = some (if ct b s (e - s) = wo_country then 1 else 0) := by
  obtain ⟨o1, o2, o3⟩ := okS_13
  obtain ⟨-, ⟨t1, t2⟩, -⟩ := h
  unfold FX12_is_146_5013 FX12_is_146_5013_b21
  rw [o1, b_some, he, hs, nI_sub hse]
  by_cases c : wo_country.length = e - s
  · rw [if_pos (by rw [c])]
    have hl := ct_eq b (e - s) s _ c
    have key : ∀ (m x F : Nat), x + m = e - s → m < F → (∀ y, y < x → b (s + y) = wo_country.getD y 0) → FX12_is_146_5013_L24 F 1 (nI x) u = some (if ct b s (e - s) = wo_country then 1 else 0) := by
      intro m
      induction m with
      | zero =>
        intro x F hx hF hy
        obtain ⟨f, rfl⟩ : ∃ f, F = f + 1 := ⟨F - 1, by omega⟩
        show FX12_is_146_5013_b24 _ _ _ _ = _
        unfold FX12_is_146_5013_b24 FX12_is_146_5013_b67
        rw [o1, b_some, ltE _ _ (by omega) (by omega) (by omega), bchk_1, b_some, if_pos (hl.mpr (fun y h => hy y (by omega)))]
      | succ m ih =>
        intro x F hx hF hy
        obtain ⟨f, rfl⟩ : ∃ f, F = f + 1 := ⟨F - 1, by omega⟩
        obtain ⟨p1, p2⟩ := o3 x (by omega)
        obtain ⟨g1, g2⟩ := t2 (s + x) (by omega)
        show FX12_is_146_5013_b24 _ _ _ _ = _
        unfold FX12_is_146_5013_b24 FX12_is_146_5013_b60
        rw [o1, b_some, ltN _ _ (by omega) (by omega) (by omega), if_neg z1, hs, nI_add, rb (by omega) (by omega), g1, p1, b_some, nI_1]
        by_cases d : b (s + x) = wo_country.getD x 0
        · rw [if_pos (by rw [d])]
          exact ih (x + 1) f (by omega) (by omega) (fun y h => by
            by_cases e : y = x
            · rw [e]; exact d
            · exact hy y (by omega))
        · rw [if_neg (by rw [nn_eq (by omega) (by omega)]; exact d), if_neg (fun h => d ((hl.mp h) x (by omega)))]
          obtain ⟨f', rfl⟩ : ∃ f', f = f' + 1 := ⟨f - 1, by omega⟩
          show FX12_is_146_5013_b24 _ _ _ _ = _
          unfold FX12_is_146_5013_b24 FX12_is_146_5013_b67
          rw [o1, b_some, if_pos rfl, ite_self, bchk_0, b_some]
    have h0 := key (e - s) 0 FU (by omega) (by show _ < 10000; omega) (fun y h => by omega)
    rw [nI_0] at h0
    exact h0
  · rw [if_neg (by rw [nn_eq (by omega) (by omega)]; exact fun h => c h.symm), if_neg]
    · show FX12_is_146_5013_b24 _ _ _ _ = _
      unfold FX12_is_146_5013_b24 FX12_is_146_5013_b67
      rw [o1, b_some, if_pos rfl, ite_self, bchk_0, b_some]
    · intro h
      have := ct_len b (e - s) s
      rw [h] at this
      exact c this
theorem okS_14 : S_lenW 14 = some (nI wo_age.length) ∧ wo_age.length < 20 ∧ ∀ x, x < wo_age.length → S_chrW 14 (nI x) = some (nI (wo_age.getD x 0)) ∧ wo_age.getD x 0 < 256 := by decide +kernel
theorem m_is_14 {k : Nat} {b : Nat → Nat} {n : Nat} {u : Mem} (h : txS k b n u) {s e : Nat} (hs : u 146 19 = nI s) (he : u 146 17 = nI e) (hse : s ≤ e) (hen : e ≤ n) : FX12_is_146_5014 u = some (if ct b s (e - s) = wo_age then 1 else 0) := by
  obtain ⟨o1, o2, o3⟩ := okS_14
  obtain ⟨-, ⟨t1, t2⟩, -⟩ := h
  unfold FX12_is_146_5014 FX12_is_146_5014_b21
  rw [o1, b_some, he, hs, nI_sub hse]
  by_cases c : wo_age.length = e - s
  · rw [if_pos (by rw [c])]
    have hl := ct_eq b (e - s) s _ c
    have key : ∀ (m x F : Nat), x + m = e - s → m < F → (∀ y, y < x → b (s + y) = wo_age.getD y 0) → FX12_is_146_5014_L24 F 1 (nI x) u = some (if ct b s (e - s) = wo_age then 1 else 0) := by
      intro m
      induction m with
      | zero =>
        intro x F hx hF hy
        obtain ⟨f, rfl⟩ : ∃ f, F = f + 1 := ⟨F - 1, by omega⟩
        show FX12_is_146_5014_b24 _ _ _ _ = _
        unfold FX12_is_146_5014_b24 FX12_is_146_5014_b67
        rw [o1, b_some, ltE _ _ (by omega) (by omega) (by omega), bchk_1, b_some, if_pos (hl.mpr (fun y h => hy y (by omega)))]
      | succ m ih =>
        intro x F hx hF hy
        obtain ⟨f, rfl⟩ : ∃ f, F = f + 1 := ⟨F - 1, by omega⟩
        obtain ⟨p1, p2⟩ := o3 x (by omega)
        obtain ⟨g1, g2⟩ := t2 (s + x) (by omega)
        show FX12_is_146_5014_b24 _ _ _ _ = _
        unfold FX12_is_146_5014_b24 FX12_is_146_5014_b60
        rw [o1, b_some, ltN _ _ (by omega) (by omega) (by omega), if_neg z1, hs, nI_add, rb (by omega) (by omega), g1, p1, b_some, nI_1]
        by_cases d : b (s + x) = wo_age.getD x 0
        · rw [if_pos (by rw [d])]
          exact ih (x + 1) f (by omega) (by omega) (fun y h => by
            by_cases e : y = x
            · rw [e]; exact d
            · exact hy y (by omega))
        · rw [if_neg (by rw [nn_eq (by omega) (by omega)]; exact d), if_neg (fun h => d ((hl.mp h) x (by omega)))]
          obtain ⟨f', rfl⟩ : ∃ f', f = f' + 1 := ⟨f - 1, by omega⟩
          show FX12_is_146_5014_b24 _ _ _ _ = _
          unfold FX12_is_146_5014_b24 FX12_is_146_5014_b67
          rw [o1, b_some, if_pos rfl, ite_self, bchk_0, b_some]
    have h0 := key (e - s) 0 FU (by omega) (by show _ < 10000; omega) (fun y h => by omega)
    rw [nI_0] at h0
    exact h0
  · rw [if_neg (by rw [nn_eq (by omega) (by omega)]; exact fun h => c h.symm), if_neg]
    · show FX12_is_146_5014_b24 _ _ _ _ = _
      unfold FX12_is_146_5014_b24 FX12_is_146_5014_b67
      rw [o1, b_some, if_pos rfl, ite_self, bchk_0, b_some]
    · intro h
      have := ct_len b (e - s) s
      rw [h] at this
      exact c this
theorem okS_15 : S_lenW 15 = some (nI wo_legs.length) ∧ wo_legs.length < 20 ∧ ∀ x, x < wo_legs.length → S_chrW 15 (nI x) = some (nI (wo_legs.getD x 0)) ∧ wo_legs.getD x 0 < 256 := by decide +kernel
theorem m_is_15 {k : Nat} {b : Nat → Nat} {n : Nat} {u : Mem} (h : txS k b n u) {s e : Nat} (hs : u 146 19 = nI s) (he : u 146 17 = nI e) (hse : s ≤ e) (hen : e ≤ n) : FX12_is_146_5015 u = some (if ct b s (e - s) = wo_legs then 1 else 0) := by
  obtain ⟨o1, o2, o3⟩ := okS_15
  obtain ⟨-, ⟨t1, t2⟩, -⟩ := h
  unfold FX12_is_146_5015 FX12_is_146_5015_b21
  rw [o1, b_some, he, hs, nI_sub hse]
  by_cases c : wo_legs.length = e - s
  · rw [if_pos (by rw [c])]
    have hl := ct_eq b (e - s) s _ c
    have key : ∀ (m x F : Nat), x + m = e - s → m < F → (∀ y, y < x → b (s + y) = wo_legs.getD y 0) → FX12_is_146_5015_L24 F 1 (nI x) u = some (if ct b s (e - s) = wo_legs then 1 else 0) := by
      intro m
      induction m with
      | zero =>
        intro x F hx hF hy
        obtain ⟨f, rfl⟩ : ∃ f, F = f + 1 := ⟨F - 1, by omega⟩
        show FX12_is_146_5015_b24 _ _ _ _ = _
        unfold FX12_is_146_5015_b24 FX12_is_146_5015_b67
        rw [o1, b_some, ltE _ _ (by omega) (by omega) (by omega), bchk_1, b_some, if_pos (hl.mpr (fun y h => hy y (by omega)))]
      | succ m ih =>
        intro x F hx hF hy
        obtain ⟨f, rfl⟩ : ∃ f, F = f + 1 := ⟨F - 1, by omega⟩
        obtain ⟨p1, p2⟩ := o3 x (by omega)
        obtain ⟨g1, g2⟩ := t2 (s + x) (by omega)
        show FX12_is_146_5015_b24 _ _ _ _ = _
        unfold FX12_is_146_5015_b24 FX12_is_146_5015_b60
        rw [o1, b_some, ltN _ _ (by omega) (by omega) (by omega), if_neg z1, hs, nI_add, rb (by omega) (by omega), g1, p1, b_some, nI_1]
        by_cases d : b (s + x) = wo_legs.getD x 0
        · rw [if_pos (by rw [d])]
          exact ih (x + 1) f (by omega) (by omega) (fun y h => by
            by_cases e : y = x
            · rw [e]; exact d
            · exact hy y (by omega))
        · rw [if_neg (by rw [nn_eq (by omega) (by omega)]; exact d), if_neg (fun h => d ((hl.mp h) x (by omega)))]
          obtain ⟨f', rfl⟩ : ∃ f', f = f' + 1 := ⟨f - 1, by omega⟩
          show FX12_is_146_5015_b24 _ _ _ _ = _
          unfold FX12_is_146_5015_b24 FX12_is_146_5015_b67
          rw [o1, b_some, if_pos rfl, ite_self, bchk_0, b_some]
    have h0 := key (e - s) 0 FU (by omega) (by show _ < 10000; omega) (fun y h => by omega)
    rw [nI_0] at h0
    exact h0
  · rw [if_neg (by rw [nn_eq (by omega) (by omega)]; exact fun h => c h.symm), if_neg]
    · show FX12_is_146_5015_b24 _ _ _ _ = _
      unfold FX12_is_146_5015_b24 FX12_is_146_5015_b67
      rw [o1, b_some, if_pos rfl, ite_self, bchk_0, b_some]
    · intro h
      have := ct_len b (e - s) s
      rw [h] at this
      exact c this
theorem okS_16 : S_lenW 16 = some (nI wo_breath.length) ∧ wo_breath.length < 20 ∧ ∀ x, x < wo_breath.length → S_chrW 16 (nI x) = some (nI (wo_breath.getD x 0)) ∧ wo_breath.getD x 0 < 256 := by decide +kernel
theorem m_is_16 {k : Nat} {b : Nat → Nat} {n : Nat} {u : Mem} (h : txS k b n u) {s e : Nat} (hs : u 146 19 = nI s) (he : u 146 17 = nI e) (hse : s ≤ e) (hen : e ≤ n) : FX12_is_146_5016 u = some (if ct b s (e - s) = wo_breath then 1 else 0) := by
  obtain ⟨o1, o2, o3⟩ := okS_16
  obtain ⟨-, ⟨t1, t2⟩, -⟩ := h
  unfold FX12_is_146_5016 FX12_is_146_5016_b21
  rw [o1, b_some, he, hs, nI_sub hse]
  by_cases c : wo_breath.length = e - s
  · rw [if_pos (by rw [c])]
    have hl := ct_eq b (e - s) s _ c
    have key : ∀ (m x F : Nat), x + m = e - s → m < F → (∀ y, y < x → b (s + y) = wo_breath.getD y 0) → FX12_is_146_5016_L24 F 1 (nI x) u = some (if ct b s (e - s) = wo_breath then 1 else 0) := by
      intro m
      induction m with
      | zero =>
        intro x F hx hF hy
        obtain ⟨f, rfl⟩ : ∃ f, F = f + 1 := ⟨F - 1, by omega⟩
        show FX12_is_146_5016_b24 _ _ _ _ = _
        unfold FX12_is_146_5016_b24 FX12_is_146_5016_b67
        rw [o1, b_some, ltE _ _ (by omega) (by omega) (by omega), bchk_1, b_some, if_pos (hl.mpr (fun y h => hy y (by omega)))]
      | succ m ih =>
        intro x F hx hF hy
        obtain ⟨f, rfl⟩ : ∃ f, F = f + 1 := ⟨F - 1, by omega⟩
        obtain ⟨p1, p2⟩ := o3 x (by omega)
        obtain ⟨g1, g2⟩ := t2 (s + x) (by omega)
        show FX12_is_146_5016_b24 _ _ _ _ = _
        unfold FX12_is_146_5016_b24 FX12_is_146_5016_b60
        rw [o1, b_some, ltN _ _ (by omega) (by omega) (by omega), if_neg z1, hs, nI_add, rb (by omega) (by omega), g1, p1, b_some, nI_1]
        by_cases d : b (s + x) = wo_breath.getD x 0
        · rw [if_pos (by rw [d])]
          exact ih (x + 1) f (by omega) (by omega) (fun y h => by
            by_cases e : y = x
            · rw [e]; exact d
            · exact hy y (by omega))
        · rw [if_neg (by rw [nn_eq (by omega) (by omega)]; exact d), if_neg (fun h => d ((hl.mp h) x (by omega)))]
          obtain ⟨f', rfl⟩ : ∃ f', f = f' + 1 := ⟨f - 1, by omega⟩
          show FX12_is_146_5016_b24 _ _ _ _ = _
          unfold FX12_is_146_5016_b24 FX12_is_146_5016_b67
          rw [o1, b_some, if_pos rfl, ite_self, bchk_0, b_some]
    have h0 := key (e - s) 0 FU (by omega) (by show _ < 10000; omega) (fun y h => by omega)
    rw [nI_0] at h0
    exact h0
  · rw [if_neg (by rw [nn_eq (by omega) (by omega)]; exact fun h => c h.symm), if_neg]
    · show FX12_is_146_5016_b24 _ _ _ _ = _
      unfold FX12_is_146_5016_b24 FX12_is_146_5016_b67
      rw [o1, b_some, if_pos rfl, ite_self, bchk_0, b_some]
    · intro h
      have := ct_len b (e - s) s
      rw [h] at this
      exact c this
theorem okS_17 : S_lenW 17 = some (nI wo_facts.length) ∧ wo_facts.length < 20 ∧ ∀ x, x < wo_facts.length → S_chrW 17 (nI x) = some (nI (wo_facts.getD x 0)) ∧ wo_facts.getD x 0 < 256 := by decide +kernel
theorem m_is_17 {k : Nat} {b : Nat → Nat} {n : Nat} {u : Mem} (h : txS k b n u) {s e : Nat} (hs : u 146 19 = nI s) (he : u 146 17 = nI e) (hse : s ≤ e) (hen : e ≤ n) : FX12_is_146_5017 u = some (if ct b s (e - s) = wo_facts then 1 else 0) := by
  obtain ⟨o1, o2, o3⟩ := okS_17
  obtain ⟨-, ⟨t1, t2⟩, -⟩ := h
  unfold FX12_is_146_5017 FX12_is_146_5017_b21
  rw [o1, b_some, he, hs, nI_sub hse]
  by_cases c : wo_facts.length = e - s
  · rw [if_pos (by rw [c])]
    have hl := ct_eq b (e - s) s _ c
    have key : ∀ (m x F : Nat), x + m = e - s → m < F → (∀ y, y < x → b (s + y) = wo_facts.getD y 0) → FX12_is_146_5017_L24 F 1 (nI x) u = some (if ct b s (e - s) = wo_facts then 1 else 0) := by
      intro m
      induction m with
      | zero =>
        intro x F hx hF hy
        obtain ⟨f, rfl⟩ : ∃ f, F = f + 1 := ⟨F - 1, by omega⟩
        show FX12_is_146_5017_b24 _ _ _ _ = _
        unfold FX12_is_146_5017_b24 FX12_is_146_5017_b67
        rw [o1, b_some, ltE _ _ (by omega) (by omega) (by omega), bchk_1, b_some, if_pos (hl.mpr (fun y h => hy y (by omega)))]
      | succ m ih =>
        intro x F hx hF hy
        obtain ⟨f, rfl⟩ : ∃ f, F = f + 1 := ⟨F - 1, by omega⟩
        obtain ⟨p1, p2⟩ := o3 x (by omega)
        obtain ⟨g1, g2⟩ := t2 (s + x) (by omega)
        show FX12_is_146_5017_b24 _ _ _ _ = _
        unfold FX12_is_146_5017_b24 FX12_is_146_5017_b60
        rw [o1, b_some, ltN _ _ (by omega) (by omega) (by omega), if_neg z1, hs, nI_add, rb (by omega) (by omega), g1, p1, b_some, nI_1]
        by_cases d : b (s + x) = wo_facts.getD x 0
        · rw [if_pos (by rw [d])]
          exact ih (x + 1) f (by omega) (by omega) (fun y h => by
            by_cases e : y = x
            · rw [e]; exact d
            · exact hy y (by omega))
        · rw [if_neg (by rw [nn_eq (by omega) (by omega)]; exact d), if_neg (fun h => d ((hl.mp h) x (by omega)))]
          obtain ⟨f', rfl⟩ : ∃ f', f = f' + 1 := ⟨f - 1, by omega⟩
          show FX12_is_146_5017_b24 _ _ _ _ = _
          unfold FX12_is_146_5017_b24 FX12_is_146_5017_b67
          rw [o1, b_some, if_pos rfl, ite_self, bchk_0, b_some]
    have h0 := key (e - s) 0 FU (by omega) (by show _ < 10000; omega) (fun y h => by omega)
    rw [nI_0] at h0
    exact h0
  · rw [if_neg (by rw [nn_eq (by omega) (by omega)]; exact fun h => c h.symm), if_neg]
    · show FX12_is_146_5017_b24 _ _ _ _ = _
      unfold FX12_is_146_5017_b24 FX12_is_146_5017_b67
      rw [o1, b_some, if_pos rfl, ite_self, bchk_0, b_some]
    · intro h
      have := ct_len b (e - s) s
      rw [h] at this
      exact c this
theorem okS_18 : S_lenW 18 = some (nI wo_cell.length) ∧ wo_cell.length < 20 ∧ ∀ x, x < wo_cell.length → S_chrW 18 (nI x) = some (nI (wo_cell.getD x 0)) ∧ wo_cell.getD x 0 < 256 := by decide +kernel
theorem m_is_18 {k : Nat} {b : Nat → Nat} {n : Nat} {u : Mem} (h : txS k b n u) {s e : Nat} (hs : u 146 19 = nI s) (he : u 146 17 = nI e) (hse : s ≤ e) (hen : e ≤ n) : FX12_is_146_5018 u = some (if ct b s (e - s) = wo_cell then 1 else 0) := by
  obtain ⟨o1, o2, o3⟩ := okS_18
  obtain ⟨-, ⟨t1, t2⟩, -⟩ := h
  unfold FX12_is_146_5018 FX12_is_146_5018_b21
  rw [o1, b_some, he, hs, nI_sub hse]
  by_cases c : wo_cell.length = e - s
  · rw [if_pos (by rw [c])]
    have hl := ct_eq b (e - s) s _ c
    have key : ∀ (m x F : Nat), x + m = e - s → m < F → (∀ y, y < x → b (s + y) = wo_cell.getD y 0) → FX12_is_146_5018_L24 F 1 (nI x) u = some (if ct b s (e - s) = wo_cell then 1 else 0) := by
      intro m
      induction m with
      | zero =>
        intro x F hx hF hy
        obtain ⟨f, rfl⟩ : ∃ f, F = f + 1 := ⟨F - 1, by omega⟩
        show FX12_is_146_5018_b24 _ _ _ _ = _
        unfold FX12_is_146_5018_b24 FX12_is_146_5018_b67
        rw [o1, b_some, ltE _ _ (by omega) (by omega) (by omega), bchk_1, b_some, if_pos (hl.mpr (fun y h => hy y (by omega)))]
      | succ m ih =>
        intro x F hx hF hy
        obtain ⟨f, rfl⟩ : ∃ f, F = f + 1 := ⟨F - 1, by omega⟩
        obtain ⟨p1, p2⟩ := o3 x (by omega)
        obtain ⟨g1, g2⟩ := t2 (s + x) (by omega)
        show FX12_is_146_5018_b24 _ _ _ _ = _
        unfold FX12_is_146_5018_b24 FX12_is_146_5018_b60
        rw [o1, b_some, ltN _ _ (by omega) (by omega) (by omega), if_neg z1, hs, nI_add, rb (by omega) (by omega), g1, p1, b_some, nI_1]
        by_cases d : b (s + x) = wo_cell.getD x 0
        · rw [if_pos (by rw [d])]
          exact ih (x + 1) f (by omega) (by omega) (fun y h => by
            by_cases e : y = x
            · rw [e]; exact d
            · exact hy y (by omega))
        · rw [if_neg (by rw [nn_eq (by omega) (by omega)]; exact d), if_neg (fun h => d ((hl.mp h) x (by omega)))]
          obtain ⟨f', rfl⟩ : ∃ f', f = f' + 1 := ⟨f - 1, by omega⟩
          show FX12_is_146_5018_b24 _ _ _ _ = _
          unfold FX12_is_146_5018_b24 FX12_is_146_5018_b67
          rw [o1, b_some, if_pos rfl, ite_self, bchk_0, b_some]
    have h0 := key (e - s) 0 FU (by omega) (by show _ < 10000; omega) (fun y h => by omega)
    rw [nI_0] at h0
    exact h0
  · rw [if_neg (by rw [nn_eq (by omega) (by omega)]; exact fun h => c h.symm), if_neg]
    · show FX12_is_146_5018_b24 _ _ _ _ = _
      unfold FX12_is_146_5018_b24 FX12_is_146_5018_b67
      rw [o1, b_some, if_pos rfl, ite_self, bchk_0, b_some]
    · intro h
      have := ct_len b (e - s) s
      rw [h] at this
      exact c this
theorem okS_19 : S_lenW 19 = some (nI wo_day.length) ∧ wo_day.length < 20 ∧ ∀ x, x < wo_day.length → S_chrW 19 (nI x) = some (nI (wo_day.getD x 0)) ∧ wo_day.getD x 0 < 256 := by decide +kernel
theorem m_is_19 {k : Nat} {b : Nat → Nat} {n : Nat} {u : Mem} (h : txS k b n u) {s e : Nat} (hs : u 146 19 = nI s) (he : u 146 17 = nI e) (hse : s ≤ e) (hen : e ≤ n) : FX12_is_146_5019 u = some (if ct b s (e - s) = wo_day then 1 else 0) := by
  obtain ⟨o1, o2, o3⟩ := okS_19
  obtain ⟨-, ⟨t1, t2⟩, -⟩ := h
  unfold FX12_is_146_5019 FX12_is_146_5019_b21
  rw [o1, b_some, he, hs, nI_sub hse]
  by_cases c : wo_day.length = e - s
  · rw [if_pos (by rw [c])]
    have hl := ct_eq b (e - s) s _ c
    have key : ∀ (m x F : Nat), x + m = e - s → m < F → (∀ y, y < x → b (s + y) = wo_day.getD y 0) → FX12_is_146_5019_L24 F 1 (nI x) u = some (if ct b s (e - s) = wo_day then 1 else 0) := by
      intro m
      induction m with
      | zero =>
        intro x F hx hF hy
        obtain ⟨f, rfl⟩ : ∃ f, F = f + 1 := ⟨F - 1, by omega⟩
        show FX12_is_146_5019_b24 _ _ _ _ = _
        unfold FX12_is_146_5019_b24 FX12_is_146_5019_b67
        rw [o1, b_some, ltE _ _ (by omega) (by omega) (by omega), bchk_1, b_some, if_pos (hl.mpr (fun y h => hy y (by omega)))]
      | succ m ih =>
        intro x F hx hF hy
        obtain ⟨f, rfl⟩ : ∃ f, F = f + 1 := ⟨F - 1, by omega⟩
        obtain ⟨p1, p2⟩ := o3 x (by omega)
        obtain ⟨g1, g2⟩ := t2 (s + x) (by omega)
        show FX12_is_146_5019_b24 _ _ _ _ = _
        unfold FX12_is_146_5019_b24 FX12_is_146_5019_b60
        rw [o1, b_some, ltN _ _ (by omega) (by omega) (by omega), if_neg z1, hs, nI_add, rb (by omega) (by omega), g1, p1, b_some, nI_1]
        by_cases d : b (s + x) = wo_day.getD x 0
        · rw [if_pos (by rw [d])]
          exact ih (x + 1) f (by omega) (by omega) (fun y h => by
            by_cases e : y = x
            · rw [e]; exact d
            · exact hy y (by omega))
        · rw [if_neg (by rw [nn_eq (by omega) (by omega)]; exact d), if_neg (fun h => d ((hl.mp h) x (by omega)))]
          obtain ⟨f', rfl⟩ : ∃ f', f = f' + 1 := ⟨f - 1, by omega⟩
          show FX12_is_146_5019_b24 _ _ _ _ = _
          unfold FX12_is_146_5019_b24 FX12_is_146_5019_b67
          rw [o1, b_some, if_pos rfl, ite_self, bchk_0, b_some]
    have h0 := key (e - s) 0 FU (by omega) (by show _ < 10000; omega) (fun y h => by omega)
    rw [nI_0] at h0
    exact h0
  · rw [if_neg (by rw [nn_eq (by omega) (by omega)]; exact fun h => c h.symm), if_neg]
    · show FX12_is_146_5019_b24 _ _ _ _ = _
      unfold FX12_is_146_5019_b24 FX12_is_146_5019_b67
      rw [o1, b_some, if_pos rfl, ite_self, bchk_0, b_some]
    · intro h
      have := ct_len b (e - s) s
      rw [h] at this
      exact c this
theorem okS_20 : S_lenW 20 = some (nI wo_rain.length) ∧ wo_rain.length < 20 ∧ ∀ x, x < wo_rain.length → S_chrW 20 (nI x) = some (nI (wo_rain.getD x 0)) ∧ wo_rain.getD x 0 < 256 := by decide +kernel
theorem m_is_20 {k : Nat} {b : Nat → Nat} {n : Nat} {u : Mem} (h : txS k b n u) {s e : Nat} (hs : u 146 19 = nI s) (he : u 146 17 = nI e) (hse : s ≤ e) (hen : e ≤ n) : FX12_is_146_5020 u = some (if ct b s (e - s) = wo_rain then 1 else 0) := by
  obtain ⟨o1, o2, o3⟩ := okS_20
  obtain ⟨-, ⟨t1, t2⟩, -⟩ := h
  unfold FX12_is_146_5020 FX12_is_146_5020_b21
  rw [o1, b_some, he, hs, nI_sub hse]
  by_cases c : wo_rain.length = e - s
  · rw [if_pos (by rw [c])]
    have hl := ct_eq b (e - s) s _ c
    have key : ∀ (m x F : Nat), x + m = e - s → m < F → (∀ y, y < x → b (s + y) = wo_rain.getD y 0) → FX12_is_146_5020_L24 F 1 (nI x) u = some (if ct b s (e - s) = wo_rain then 1 else 0) := by
      intro m
      induction m with
      | zero =>
        intro x F hx hF hy
        obtain ⟨f, rfl⟩ : ∃ f, F = f + 1 := ⟨F - 1, by omega⟩
        show FX12_is_146_5020_b24 _ _ _ _ = _
        unfold FX12_is_146_5020_b24 FX12_is_146_5020_b67
        rw [o1, b_some, ltE _ _ (by omega) (by omega) (by omega), bchk_1, b_some, if_pos (hl.mpr (fun y h => hy y (by omega)))]
      | succ m ih =>
        intro x F hx hF hy
        obtain ⟨f, rfl⟩ : ∃ f, F = f + 1 := ⟨F - 1, by omega⟩
        obtain ⟨p1, p2⟩ := o3 x (by omega)
        obtain ⟨g1, g2⟩ := t2 (s + x) (by omega)
        show FX12_is_146_5020_b24 _ _ _ _ = _
        unfold FX12_is_146_5020_b24 FX12_is_146_5020_b60
        rw [o1, b_some, ltN _ _ (by omega) (by omega) (by omega), if_neg z1, hs, nI_add, rb (by omega) (by omega), g1, p1, b_some, nI_1]
        by_cases d : b (s + x) = wo_rain.getD x 0
        · rw [if_pos (by rw [d])]
          exact ih (x + 1) f (by omega) (by omega) (fun y h => by
            by_cases e : y = x
            · rw [e]; exact d
            · exact hy y (by omega))
        · rw [if_neg (by rw [nn_eq (by omega) (by omega)]; exact d), if_neg (fun h => d ((hl.mp h) x (by omega)))]
          obtain ⟨f', rfl⟩ : ∃ f', f = f' + 1 := ⟨f - 1, by omega⟩
          show FX12_is_146_5020_b24 _ _ _ _ = _
          unfold FX12_is_146_5020_b24 FX12_is_146_5020_b67
          rw [o1, b_some, if_pos rfl, ite_self, bchk_0, b_some]
    have h0 := key (e - s) 0 FU (by omega) (by show _ < 10000; omega) (fun y h => by omega)
    rw [nI_0] at h0
    exact h0
  · rw [if_neg (by rw [nn_eq (by omega) (by omega)]; exact fun h => c h.symm), if_neg]
    · show FX12_is_146_5020_b24 _ _ _ _ = _
      unfold FX12_is_146_5020_b24 FX12_is_146_5020_b67
      rw [o1, b_some, if_pos rfl, ite_self, bchk_0, b_some]
    · intro h
      have := ct_len b (e - s) s
      rw [h] at this
      exact c this
theorem okS_21 : S_lenW 21 = some (nI wo_hill.length) ∧ wo_hill.length < 20 ∧ ∀ x, x < wo_hill.length → S_chrW 21 (nI x) = some (nI (wo_hill.getD x 0)) ∧ wo_hill.getD x 0 < 256 := by decide +kernel
theorem m_is_21 {k : Nat} {b : Nat → Nat} {n : Nat} {u : Mem} (h : txS k b n u) {s e : Nat} (hs : u 146 19 = nI s) (he : u 146 17 = nI e) (hse : s ≤ e) (hen : e ≤ n) : FX12_is_146_5021 u = some (if ct b s (e - s) = wo_hill then 1 else 0) := by
  obtain ⟨o1, o2, o3⟩ := okS_21
  obtain ⟨-, ⟨t1, t2⟩, -⟩ := h
  unfold FX12_is_146_5021 FX12_is_146_5021_b21
  rw [o1, b_some, he, hs, nI_sub hse]
  by_cases c : wo_hill.length = e - s
  · rw [if_pos (by rw [c])]
    have hl := ct_eq b (e - s) s _ c
    have key : ∀ (m x F : Nat), x + m = e - s → m < F → (∀ y, y < x → b (s + y) = wo_hill.getD y 0) → FX12_is_146_5021_L24 F 1 (nI x) u = some (if ct b s (e - s) = wo_hill then 1 else 0) := by
      intro m
      induction m with
      | zero =>
        intro x F hx hF hy
        obtain ⟨f, rfl⟩ : ∃ f, F = f + 1 := ⟨F - 1, by omega⟩
        show FX12_is_146_5021_b24 _ _ _ _ = _
        unfold FX12_is_146_5021_b24 FX12_is_146_5021_b67
        rw [o1, b_some, ltE _ _ (by omega) (by omega) (by omega), bchk_1, b_some, if_pos (hl.mpr (fun y h => hy y (by omega)))]
      | succ m ih =>
        intro x F hx hF hy
        obtain ⟨f, rfl⟩ : ∃ f, F = f + 1 := ⟨F - 1, by omega⟩
        obtain ⟨p1, p2⟩ := o3 x (by omega)
        obtain ⟨g1, g2⟩ := t2 (s + x) (by omega)
        show FX12_is_146_5021_b24 _ _ _ _ = _
        unfold FX12_is_146_5021_b24 FX12_is_146_5021_b60
        rw [o1, b_some, ltN _ _ (by omega) (by omega) (by omega), if_neg z1, hs, nI_add, rb (by omega) (by omega), g1, p1, b_some, nI_1]
        by_cases d : b (s + x) = wo_hill.getD x 0
        · rw [if_pos (by rw [d])]
          exact ih (x + 1) f (by omega) (by omega) (fun y h => by
            by_cases e : y = x
            · rw [e]; exact d
            · exact hy y (by omega))
        · rw [if_neg (by rw [nn_eq (by omega) (by omega)]; exact d), if_neg (fun h => d ((hl.mp h) x (by omega)))]
          obtain ⟨f', rfl⟩ : ∃ f', f = f' + 1 := ⟨f - 1, by omega⟩
          show FX12_is_146_5021_b24 _ _ _ _ = _
          unfold FX12_is_146_5021_b24 FX12_is_146_5021_b67
          rw [o1, b_some, if_pos rfl, ite_self, bchk_0, b_some]
    have h0 := key (e - s) 0 FU (by omega) (by show _ < 10000; omega) (fun y h => by omega)
    rw [nI_0] at h0
    exact h0
  · rw [if_neg (by rw [nn_eq (by omega) (by omega)]; exact fun h => c h.symm), if_neg]
    · show FX12_is_146_5021_b24 _ _ _ _ = _
      unfold FX12_is_146_5021_b24 FX12_is_146_5021_b67
      rw [o1, b_some, if_pos rfl, ite_self, bchk_0, b_some]
    · intro h
      have := ct_len b (e - s) s
      rw [h] at this
      exact c this
theorem okS_22 : S_lenW 22 = some (nI wo_tells.length) ∧ wo_tells.length < 20 ∧ ∀ x, x < wo_tells.length → S_chrW 22 (nI x) = some (nI (wo_tells.getD x 0)) ∧ wo_tells.getD x 0 < 256 := by decide +kernel
theorem m_is_22 {k : Nat} {b : Nat → Nat} {n : Nat} {u : Mem} (h : txS k b n u) {s e : Nat} (hs : u 146 19 = nI s) (he : u 146 17 = nI e) (hse : s ≤ e) (hen : e ≤ n) : FX12_is_146_5022 u = some (if ct b s (e - s) = wo_tells then 1 else 0) := by
  obtain ⟨o1, o2, o3⟩ := okS_22
  obtain ⟨-, ⟨t1, t2⟩, -⟩ := h
  unfold FX12_is_146_5022 FX12_is_146_5022_b21
  rw [o1, b_some, he, hs, nI_sub hse]
  by_cases c : wo_tells.length = e - s
  · rw [if_pos (by rw [c])]
    have hl := ct_eq b (e - s) s _ c
    have key : ∀ (m x F : Nat), x + m = e - s → m < F → (∀ y, y < x → b (s + y) = wo_tells.getD y 0) → FX12_is_146_5022_L24 F 1 (nI x) u = some (if ct b s (e - s) = wo_tells then 1 else 0) := by
      intro m
      induction m with
      | zero =>
        intro x F hx hF hy
        obtain ⟨f, rfl⟩ : ∃ f, F = f + 1 := ⟨F - 1, by omega⟩
        show FX12_is_146_5022_b24 _ _ _ _ = _
        unfold FX12_is_146_5022_b24 FX12_is_146_5022_b67
        rw [o1, b_some, ltE _ _ (by omega) (by omega) (by omega), bchk_1, b_some, if_pos (hl.mpr (fun y h => hy y (by omega)))]
      | succ m ih =>
        intro x F hx hF hy
        obtain ⟨f, rfl⟩ : ∃ f, F = f + 1 := ⟨F - 1, by omega⟩
        obtain ⟨p1, p2⟩ := o3 x (by omega)
        obtain ⟨g1, g2⟩ := t2 (s + x) (by omega)
        show FX12_is_146_5022_b24 _ _ _ _ = _
        unfold FX12_is_146_5022_b24 FX12_is_146_5022_b60
        rw [o1, b_some, ltN _ _ (by omega) (by omega) (by omega), if_neg z1, hs, nI_add, rb (by omega) (by omega), g1, p1, b_some, nI_1]
        by_cases d : b (s + x) = wo_tells.getD x 0
        · rw [if_pos (by rw [d])]
          exact ih (x + 1) f (by omega) (by omega) (fun y h => by
            by_cases e : y = x
            · rw [e]; exact d
            · exact hy y (by omega))
        · rw [if_neg (by rw [nn_eq (by omega) (by omega)]; exact d), if_neg (fun h => d ((hl.mp h) x (by omega)))]
          obtain ⟨f', rfl⟩ : ∃ f', f = f' + 1 := ⟨f - 1, by omega⟩
          show FX12_is_146_5022_b24 _ _ _ _ = _
          unfold FX12_is_146_5022_b24 FX12_is_146_5022_b67
          rw [o1, b_some, if_pos rfl, ite_self, bchk_0, b_some]
    have h0 := key (e - s) 0 FU (by omega) (by show _ < 10000; omega) (fun y h => by omega)
    rw [nI_0] at h0
    exact h0
  · rw [if_neg (by rw [nn_eq (by omega) (by omega)]; exact fun h => c h.symm), if_neg]
    · show FX12_is_146_5022_b24 _ _ _ _ = _
      unfold FX12_is_146_5022_b24 FX12_is_146_5022_b67
      rw [o1, b_some, if_pos rfl, ite_self, bchk_0, b_some]
    · intro h
      have := ct_len b (e - s) s
      rw [h] at this
      exact c this
theorem okS_23 : S_lenW 23 = some (nI wo_fact.length) ∧ wo_fact.length < 20 ∧ ∀ x, x < wo_fact.length → S_chrW 23 (nI x) = some (nI (wo_fact.getD x 0)) ∧ wo_fact.getD x 0 < 256 := by decide +kernel
theorem m_is_23 {k : Nat} {b : Nat → Nat} {n : Nat} {u : Mem} (h : txS k b n u) {s e : Nat} (hs : u 146 19 = nI s) (he : u 146 17 = nI e) (hse : s ≤ e) (hen : e ≤ n) : FX12_is_146_5023 u = some (if ct b s (e - s) = wo_fact then 1 else 0) := by
  obtain ⟨o1, o2, o3⟩ := okS_23
  obtain ⟨-, ⟨t1, t2⟩, -⟩ := h
  unfold FX12_is_146_5023 FX12_is_146_5023_b21
  rw [o1, b_some, he, hs, nI_sub hse]
  by_cases c : wo_fact.length = e - s
  · rw [if_pos (by rw [c])]
    have hl := ct_eq b (e - s) s _ c
    have key : ∀ (m x F : Nat), x + m = e - s → m < F → (∀ y, y < x → b (s + y) = wo_fact.getD y 0) → FX12_is_146_5023_L24 F 1 (nI x) u = some (if ct b s (e - s) = wo_fact then 1 else 0) := by
      intro m
      induction m with
      | zero =>
        intro x F hx hF hy
        obtain ⟨f, rfl⟩ : ∃ f, F = f + 1 := ⟨F - 1, by omega⟩
        show FX12_is_146_5023_b24 _ _ _ _ = _
        unfold FX12_is_146_5023_b24 FX12_is_146_5023_b67
        rw [o1, b_some, ltE _ _ (by omega) (by omega) (by omega), bchk_1, b_some, if_pos (hl.mpr (fun y h => hy y (by omega)))]
      | succ m ih =>
        intro x F hx hF hy
        obtain ⟨f, rfl⟩ : ∃ f, F = f + 1 := ⟨F - 1, by omega⟩
        obtain ⟨p1, p2⟩ := o3 x (by omega)
        obtain ⟨g1, g2⟩ := t2 (s + x) (by omega)
        show FX12_is_146_5023_b24 _ _ _ _ = _
        unfold FX12_is_146_5023_b24 FX12_is_146_5023_b60
        rw [o1, b_some, ltN _ _ (by omega) (by omega) (by omega), if_neg z1, hs, nI_add, rb (by omega) (by omega), g1, p1, b_some, nI_1]
        by_cases d : b (s + x) = wo_fact.getD x 0
        · rw [if_pos (by rw [d])]
          exact ih (x + 1) f (by omega) (by omega) (fun y h => by
            by_cases e : y = x
            · rw [e]; exact d
            · exact hy y (by omega))
        · rw [if_neg (by rw [nn_eq (by omega) (by omega)]; exact d), if_neg (fun h => d ((hl.mp h) x (by omega)))]
          obtain ⟨f', rfl⟩ : ∃ f', f = f' + 1 := ⟨f - 1, by omega⟩
          show FX12_is_146_5023_b24 _ _ _ _ = _
          unfold FX12_is_146_5023_b24 FX12_is_146_5023_b67
          rw [o1, b_some, if_pos rfl, ite_self, bchk_0, b_some]
    have h0 := key (e - s) 0 FU (by omega) (by show _ < 10000; omega) (fun y h => by omega)
    rw [nI_0] at h0
    exact h0
  · rw [if_neg (by rw [nn_eq (by omega) (by omega)]; exact fun h => c h.symm), if_neg]
    · show FX12_is_146_5023_b24 _ _ _ _ = _
      unfold FX12_is_146_5023_b24 FX12_is_146_5023_b67
      rw [o1, b_some, if_pos rfl, ite_self, bchk_0, b_some]
    · intro h
      have := ct_len b (e - s) s
      rw [h] at this
      exact c this
theorem okS_24 : S_lenW 24 = some (nI wo_weighs.length) ∧ wo_weighs.length < 20 ∧ ∀ x, x < wo_weighs.length → S_chrW 24 (nI x) = some (nI (wo_weighs.getD x 0)) ∧ wo_weighs.getD x 0 < 256 := by decide +kernel
theorem m_is_24 {k : Nat} {b : Nat → Nat} {n : Nat} {u : Mem} (h : txS k b n u) {s e : Nat} (hs : u 146 19 = nI s) (he : u 146 17 = nI e) (hse : s ≤ e) (hen : e ≤ n) : FX12_is_146_5024 u = some (if ct b s (e - s) = wo_weighs then 1 else 0) := by
  obtain ⟨o1, o2, o3⟩ := okS_24
  obtain ⟨-, ⟨t1, t2⟩, -⟩ := h
  unfold FX12_is_146_5024 FX12_is_146_5024_b21
  rw [o1, b_some, he, hs, nI_sub hse]
  by_cases c : wo_weighs.length = e - s
  · rw [if_pos (by rw [c])]
    have hl := ct_eq b (e - s) s _ c
    have key : ∀ (m x F : Nat), x + m = e - s → m < F → (∀ y, y < x → b (s + y) = wo_weighs.getD y 0) → FX12_is_146_5024_L24 F 1 (nI x) u = some (if ct b s (e - s) = wo_weighs then 1 else 0) := by
      intro m
      induction m with
      | zero =>
        intro x F hx hF hy
        obtain ⟨f, rfl⟩ : ∃ f, F = f + 1 := ⟨F - 1, by omega⟩
        show FX12_is_146_5024_b24 _ _ _ _ = _
        unfold FX12_is_146_5024_b24 FX12_is_146_5024_b67
        rw [o1, b_some, ltE _ _ (by omega) (by omega) (by omega), bchk_1, b_some, if_pos (hl.mpr (fun y h => hy y (by omega)))]
      | succ m ih =>
        intro x F hx hF hy
        obtain ⟨f, rfl⟩ : ∃ f, F = f + 1 := ⟨F - 1, by omega⟩
        obtain ⟨p1, p2⟩ := o3 x (by omega)
        obtain ⟨g1, g2⟩ := t2 (s + x) (by omega)
        show FX12_is_146_5024_b24 _ _ _ _ = _
        unfold FX12_is_146_5024_b24 FX12_is_146_5024_b60
        rw [o1, b_some, ltN _ _ (by omega) (by omega) (by omega), if_neg z1, hs, nI_add, rb (by omega) (by omega), g1, p1, b_some, nI_1]
        by_cases d : b (s + x) = wo_weighs.getD x 0
        · rw [if_pos (by rw [d])]
          exact ih (x + 1) f (by omega) (by omega) (fun y h => by
            by_cases e : y = x
            · rw [e]; exact d
            · exact hy y (by omega))
        · rw [if_neg (by rw [nn_eq (by omega) (by omega)]; exact d), if_neg (fun h => d ((hl.mp h) x (by omega)))]
          obtain ⟨f', rfl⟩ : ∃ f', f = f' + 1 := ⟨f - 1, by omega⟩
          show FX12_is_146_5024_b24 _ _ _ _ = _
          unfold FX12_is_146_5024_b24 FX12_is_146_5024_b67
          rw [o1, b_some, if_pos rfl, ite_self, bchk_0, b_some]
    have h0 := key (e - s) 0 FU (by omega) (by show _ < 10000; omega) (fun y h => by omega)
    rw [nI_0] at h0
    exact h0
  · rw [if_neg (by rw [nn_eq (by omega) (by omega)]; exact fun h => c h.symm), if_neg]
    · show FX12_is_146_5024_b24 _ _ _ _ = _
      unfold FX12_is_146_5024_b24 FX12_is_146_5024_b67
      rw [o1, b_some, if_pos rfl, ite_self, bchk_0, b_some]
    · intro h
      have := ct_len b (e - s) s
      rw [h] at this
      exact c this
theorem okS_25 : S_lenW 25 = some (nI wo_on.length) ∧ wo_on.length < 20 ∧ ∀ x, x < wo_on.length → S_chrW 25 (nI x) = some (nI (wo_on.getD x 0)) ∧ wo_on.getD x 0 < 256 := by decide +kernel
theorem m_is_25 {k : Nat} {b : Nat → Nat} {n : Nat} {u : Mem} (h : txS k b n u) {s e : Nat} (hs : u 146 19 = nI s) (he : u 146 17 = nI e) (hse : s ≤ e) (hen : e ≤ n) : FX12_is_146_5025 u = some (if ct b s (e - s) = wo_on then 1 else 0) := by
  obtain ⟨o1, o2, o3⟩ := okS_25
  obtain ⟨-, ⟨t1, t2⟩, -⟩ := h
  unfold FX12_is_146_5025 FX12_is_146_5025_b21
  rw [o1, b_some, he, hs, nI_sub hse]
  by_cases c : wo_on.length = e - s
  · rw [if_pos (by rw [c])]
    have hl := ct_eq b (e - s) s _ c
    have key : ∀ (m x F : Nat), x + m = e - s → m < F → (∀ y, y < x → b (s + y) = wo_on.getD y 0) → FX12_is_146_5025_L24 F 1 (nI x) u = some (if ct b s (e - s) = wo_on then 1 else 0) := by
      intro m
      induction m with
      | zero =>
        intro x F hx hF hy
        obtain ⟨f, rfl⟩ : ∃ f, F = f + 1 := ⟨F - 1, by omega⟩
        show FX12_is_146_5025_b24 _ _ _ _ = _
        unfold FX12_is_146_5025_b24 FX12_is_146_5025_b67
        rw [o1, b_some, ltE _ _ (by omega) (by omega) (by omega), bchk_1, b_some, if_pos (hl.mpr (fun y h => hy y (by omega)))]
      | succ m ih =>
        intro x F hx hF hy
        obtain ⟨f, rfl⟩ : ∃ f, F = f + 1 := ⟨F - 1, by omega⟩
        obtain ⟨p1, p2⟩ := o3 x (by omega)
        obtain ⟨g1, g2⟩ := t2 (s + x) (by omega)
        show FX12_is_146_5025_b24 _ _ _ _ = _
        unfold FX12_is_146_5025_b24 FX12_is_146_5025_b60
        rw [o1, b_some, ltN _ _ (by omega) (by omega) (by omega), if_neg z1, hs, nI_add, rb (by omega) (by omega), g1, p1, b_some, nI_1]
        by_cases d : b (s + x) = wo_on.getD x 0
        · rw [if_pos (by rw [d])]
          exact ih (x + 1) f (by omega) (by omega) (fun y h => by
            by_cases e : y = x
            · rw [e]; exact d
            · exact hy y (by omega))
        · rw [if_neg (by rw [nn_eq (by omega) (by omega)]; exact d), if_neg (fun h => d ((hl.mp h) x (by omega)))]
          obtain ⟨f', rfl⟩ : ∃ f', f = f' + 1 := ⟨f - 1, by omega⟩
          show FX12_is_146_5025_b24 _ _ _ _ = _
          unfold FX12_is_146_5025_b24 FX12_is_146_5025_b67
          rw [o1, b_some, if_pos rfl, ite_self, bchk_0, b_some]
    have h0 := key (e - s) 0 FU (by omega) (by show _ < 10000; omega) (fun y h => by omega)
    rw [nI_0] at h0
    exact h0
  · rw [if_neg (by rw [nn_eq (by omega) (by omega)]; exact fun h => c h.symm), if_neg]
    · show FX12_is_146_5025_b24 _ _ _ _ = _
      unfold FX12_is_146_5025_b24 FX12_is_146_5025_b67
      rw [o1, b_some, if_pos rfl, ite_self, bchk_0, b_some]
    · intro h
      have := ct_len b (e - s) s
      rw [h] at this
      exact c this
theorem okS_26 : S_lenW 26 = some (nI wo_rest.length) ∧ wo_rest.length < 20 ∧ ∀ x, x < wo_rest.length → S_chrW 26 (nI x) = some (nI (wo_rest.getD x 0)) ∧ wo_rest.getD x 0 < 256 := by decide +kernel
theorem m_is_26 {k : Nat} {b : Nat → Nat} {n : Nat} {u : Mem} (h : txS k b n u) {s e : Nat} (hs : u 146 19 = nI s) (he : u 146 17 = nI e) (hse : s ≤ e) (hen : e ≤ n) : FX12_is_146_5026 u = some (if ct b s (e - s) = wo_rest then 1 else 0) := by
  obtain ⟨o1, o2, o3⟩ := okS_26
  obtain ⟨-, ⟨t1, t2⟩, -⟩ := h
  unfold FX12_is_146_5026 FX12_is_146_5026_b21
  rw [o1, b_some, he, hs, nI_sub hse]
  by_cases c : wo_rest.length = e - s
  · rw [if_pos (by rw [c])]
    have hl := ct_eq b (e - s) s _ c
    have key : ∀ (m x F : Nat), x + m = e - s → m < F → (∀ y, y < x → b (s + y) = wo_rest.getD y 0) → FX12_is_146_5026_L24 F 1 (nI x) u = some (if ct b s (e - s) = wo_rest then 1 else 0) := by
      intro m
      induction m with
      | zero =>
        intro x F hx hF hy
        obtain ⟨f, rfl⟩ : ∃ f, F = f + 1 := ⟨F - 1, by omega⟩
        show FX12_is_146_5026_b24 _ _ _ _ = _
        unfold FX12_is_146_5026_b24 FX12_is_146_5026_b67
        rw [o1, b_some, ltE _ _ (by omega) (by omega) (by omega), bchk_1, b_some, if_pos (hl.mpr (fun y h => hy y (by omega)))]
      | succ m ih =>
        intro x F hx hF hy
        obtain ⟨f, rfl⟩ : ∃ f, F = f + 1 := ⟨F - 1, by omega⟩
        obtain ⟨p1, p2⟩ := o3 x (by omega)
        obtain ⟨g1, g2⟩ := t2 (s + x) (by omega)
        show FX12_is_146_5026_b24 _ _ _ _ = _
        unfold FX12_is_146_5026_b24 FX12_is_146_5026_b60
        rw [o1, b_some, ltN _ _ (by omega) (by omega) (by omega), if_neg z1, hs, nI_add, rb (by omega) (by omega), g1, p1, b_some, nI_1]
        by_cases d : b (s + x) = wo_rest.getD x 0
        · rw [if_pos (by rw [d])]
          exact ih (x + 1) f (by omega) (by omega) (fun y h => by
            by_cases e : y = x
            · rw [e]; exact d
            · exact hy y (by omega))
        · rw [if_neg (by rw [nn_eq (by omega) (by omega)]; exact d), if_neg (fun h => d ((hl.mp h) x (by omega)))]
          obtain ⟨f', rfl⟩ : ∃ f', f = f' + 1 := ⟨f - 1, by omega⟩
          show FX12_is_146_5026_b24 _ _ _ _ = _
          unfold FX12_is_146_5026_b24 FX12_is_146_5026_b67
          rw [o1, b_some, if_pos rfl, ite_self, bchk_0, b_some]
    have h0 := key (e - s) 0 FU (by omega) (by show _ < 10000; omega) (fun y h => by omega)
    rw [nI_0] at h0
    exact h0
  · rw [if_neg (by rw [nn_eq (by omega) (by omega)]; exact fun h => c h.symm), if_neg]
    · show FX12_is_146_5026_b24 _ _ _ _ = _
      unfold FX12_is_146_5026_b24 FX12_is_146_5026_b67
      rw [o1, b_some, if_pos rfl, ite_self, bchk_0, b_some]
    · intro h
      have := ct_len b (e - s) s
      rw [h] at this
      exact c this
theorem okS_27 : S_lenW 27 = some (nI wo_go.length) ∧ wo_go.length < 20 ∧ ∀ x, x < wo_go.length → S_chrW 27 (nI x) = some (nI (wo_go.getD x 0)) ∧ wo_go.getD x 0 < 256 := by decide +kernel
theorem m_is_27 {k : Nat} {b : Nat → Nat} {n : Nat} {u : Mem} (h : txS k b n u) {s e : Nat} (hs : u 146 19 = nI s) (he : u 146 17 = nI e) (hse : s ≤ e) (hen : e ≤ n) : FX12_is_146_5027 u = some (if ct b s (e - s) = wo_go then 1 else 0) := by
  obtain ⟨o1, o2, o3⟩ := okS_27
  obtain ⟨-, ⟨t1, t2⟩, -⟩ := h
  unfold FX12_is_146_5027 FX12_is_146_5027_b21
  rw [o1, b_some, he, hs, nI_sub hse]
  by_cases c : wo_go.length = e - s
  · rw [if_pos (by rw [c])]
    have hl := ct_eq b (e - s) s _ c
    have key : ∀ (m x F : Nat), x + m = e - s → m < F → (∀ y, y < x → b (s + y) = wo_go.getD y 0) → FX12_is_146_5027_L24 F 1 (nI x) u = some (if ct b s (e - s) = wo_go then 1 else 0) := by
      intro m
      induction m with
      | zero =>
        intro x F hx hF hy
        obtain ⟨f, rfl⟩ : ∃ f, F = f + 1 := ⟨F - 1, by omega⟩
        show FX12_is_146_5027_b24 _ _ _ _ = _
        unfold FX12_is_146_5027_b24 FX12_is_146_5027_b67
        rw [o1, b_some, ltE _ _ (by omega) (by omega) (by omega), bchk_1, b_some, if_pos (hl.mpr (fun y h => hy y (by omega)))]
      | succ m ih =>
        intro x F hx hF hy
        obtain ⟨f, rfl⟩ : ∃ f, F = f + 1 := ⟨F - 1, by omega⟩
        obtain ⟨p1, p2⟩ := o3 x (by omega)
        obtain ⟨g1, g2⟩ := t2 (s + x) (by omega)
        show FX12_is_146_5027_b24 _ _ _ _ = _
        unfold FX12_is_146_5027_b24 FX12_is_146_5027_b60
        rw [o1, b_some, ltN _ _ (by omega) (by omega) (by omega), if_neg z1, hs, nI_add, rb (by omega) (by omega), g1, p1, b_some, nI_1]
        by_cases d : b (s + x) = wo_go.getD x 0
        · rw [if_pos (by rw [d])]
          exact ih (x + 1) f (by omega) (by omega) (fun y h => by
            by_cases e : y = x
            · rw [e]; exact d
            · exact hy y (by omega))
        · rw [if_neg (by rw [nn_eq (by omega) (by omega)]; exact d), if_neg (fun h => d ((hl.mp h) x (by omega)))]
          obtain ⟨f', rfl⟩ : ∃ f', f = f' + 1 := ⟨f - 1, by omega⟩
          show FX12_is_146_5027_b24 _ _ _ _ = _
          unfold FX12_is_146_5027_b24 FX12_is_146_5027_b67
          rw [o1, b_some, if_pos rfl, ite_self, bchk_0, b_some]
    have h0 := key (e - s) 0 FU (by omega) (by show _ < 10000; omega) (fun y h => by omega)
    rw [nI_0] at h0
    exact h0
  · rw [if_neg (by rw [nn_eq (by omega) (by omega)]; exact fun h => c h.symm), if_neg]
    · show FX12_is_146_5027_b24 _ _ _ _ = _
      unfold FX12_is_146_5027_b24 FX12_is_146_5027_b67
      rw [o1, b_some, if_pos rfl, ite_self, bchk_0, b_some]
    · intro h
      have := ct_len b (e - s) s
      rw [h] at this
      exact c this
theorem m_lw {b : Nat → Nat} {n : Nat} {u : Mem} (h : txS 0 b n u) {s e : Nat} (hs : u 146 19 = nI s) (he : u 146 17 = nI e) (hse : s ≤ e) (hen : e ≤ n) : FX12_lawWord_146 u = some (nI (mtk 0 (kwF (woL 0) 0 (ct b s (e - s))))) := by
  unfold FX12_lawWord_146 FX12_asked_146
  rw [m_is_5 h hs he hse hen, b_some]
  by_cases h5 : ct b s (e - s) = wo_when
  · rw [if_pos h5, if_neg z1, h5]
    exact (show _ = some (nI (mtk 0 (kwF (woL 0) 0 wo_when))) by decide +kernel)
  rw [if_neg h5, if_pos rfl]
  rw [m_is_6 h hs he hse hen, b_some]
  by_cases h6 : ct b s (e - s) = wo_or
  · rw [if_pos h6, if_neg z1, h6]
    exact (show _ = some (nI (mtk 0 (kwF (woL 0) 0 wo_or))) by decide +kernel)
  rw [if_neg h6, if_pos rfl]
  rw [m_is_7 h hs he hse hen, b_some]
  by_cases h7 : ct b s (e - s) = wo_and
  · rw [if_pos h7, if_neg z1, h7]
    exact (show _ = some (nI (mtk 0 (kwF (woL 0) 0 wo_and))) by decide +kernel)
  rw [if_neg h7, if_pos rfl]
  rw [m_is_8 h hs he hse hen, b_some]
  by_cases h8 : ct b s (e - s) = wo_not
  · rw [if_pos h8, if_neg z1, h8]
    exact (show _ = some (nI (mtk 0 (kwF (woL 0) 0 wo_not))) by decide +kernel)
  rw [if_neg h8, if_pos rfl]
  rw [m_is_9 h hs he hse hen, b_some]
  by_cases h9 : ct b s (e - s) = wo_call
  · rw [if_pos h9, if_neg z1, h9]
    exact (show _ = some (nI (mtk 0 (kwF (woL 0) 0 wo_call))) by decide +kernel)
  rw [if_neg h9, if_pos rfl]
  rw [m_is_10 h hs he hse hen, b_some]
  by_cases h10 : ct b s (e - s) = wo_step
  · rw [if_pos h10, if_neg z1, h10]
    exact (show _ = some (nI (mtk 0 (kwF (woL 0) 0 wo_step))) by decide +kernel)
  rw [if_neg h10, if_pos rfl]
  rw [m_is_11 h hs he hse hen, b_some]
  by_cases h11 : ct b s (e - s) = wo_nap
  · rw [if_pos h11, if_neg z1, h11]
    exact (show _ = some (nI (mtk 0 (kwF (woL 0) 0 wo_nap))) by decide +kernel)
  rw [if_neg h11, if_pos rfl]
  rw [m_is_12 h hs he hse hen, b_some]
  by_cases h12 : ct b s (e - s) = wo_fade
  · rw [if_pos h12, if_neg z1, h12]
    exact (show _ = some (nI (mtk 0 (kwF (woL 0) 0 wo_fade))) by decide +kernel)
  rw [if_neg h12, if_pos rfl]
  rw [m_is_13 h hs he hse hen, b_some]
  by_cases h13 : ct b s (e - s) = wo_country
  · rw [if_pos h13, if_neg z1, h13]
    exact (show _ = some (nI (mtk 0 (kwF (woL 0) 0 wo_country))) by decide +kernel)
  rw [if_neg h13, if_pos rfl]
  rw [m_is_14 h hs he hse hen, b_some]
  by_cases h14 : ct b s (e - s) = wo_age
  · rw [if_pos h14, if_neg z1, h14]
    exact (show _ = some (nI (mtk 0 (kwF (woL 0) 0 wo_age))) by decide +kernel)
  rw [if_neg h14, if_pos rfl]
  rw [m_is_15 h hs he hse hen, b_some]
  by_cases h15 : ct b s (e - s) = wo_legs
  · rw [if_pos h15, if_neg z1, h15]
    exact (show _ = some (nI (mtk 0 (kwF (woL 0) 0 wo_legs))) by decide +kernel)
  rw [if_neg h15, if_pos rfl]
  rw [m_is_16 h hs he hse hen, b_some]
  by_cases h16 : ct b s (e - s) = wo_breath
  · rw [if_pos h16, if_neg z1, h16]
    exact (show _ = some (nI (mtk 0 (kwF (woL 0) 0 wo_breath))) by decide +kernel)
  rw [if_neg h16, if_pos rfl]
  rw [m_is_17 h hs he hse hen, b_some]
  by_cases h17 : ct b s (e - s) = wo_facts
  · rw [if_pos h17, if_neg z1, h17]
    exact (show _ = some (nI (mtk 0 (kwF (woL 0) 0 wo_facts))) by decide +kernel)
  rw [if_neg h17, if_pos rfl]
  rw [m_is_18 h hs he hse hen, b_some]
  by_cases h18 : ct b s (e - s) = wo_cell
  · rw [if_pos h18, if_neg z1, h18]
    exact (show _ = some (nI (mtk 0 (kwF (woL 0) 0 wo_cell))) by decide +kernel)
  rw [if_neg h18, if_pos rfl]
  rw [m_is_19 h hs he hse hen, b_some]
  by_cases h19 : ct b s (e - s) = wo_day
  · rw [if_pos h19, if_neg z1, h19]
    exact (show _ = some (nI (mtk 0 (kwF (woL 0) 0 wo_day))) by decide +kernel)
  rw [if_neg h19, if_pos rfl]
  rw [m_is_20 h hs he hse hen, b_some]
  by_cases h20 : ct b s (e - s) = wo_rain
  · rw [if_pos h20, if_neg z1, h20]
    exact (show _ = some (nI (mtk 0 (kwF (woL 0) 0 wo_rain))) by decide +kernel)
  rw [if_neg h20, if_pos rfl]
  rw [m_is_21 h hs he hse hen, b_some]
  by_cases h21 : ct b s (e - s) = wo_hill
  · rw [if_pos h21, if_neg z1, h21]
    exact (show _ = some (nI (mtk 0 (kwF (woL 0) 0 wo_hill))) by decide +kernel)
  rw [if_neg h21, if_pos rfl]
  have e255 : kwF (woL 0) 0 (ct b s (e - s)) = 255 := by
    generalize ct b s (e - s) = c at *
    show (if c = wo_call then 256 else if c = wo_step then 257 else if c = wo_nap then 258 else if c = wo_fade then 259 else if c = wo_when then 260 else if c = wo_or then 261 else if c = wo_and then 262 else if c = wo_not then 263 else if c = wo_country then 264 else if c = wo_age then 265 else if c = wo_legs then 266 else if c = wo_breath then 267 else if c = wo_facts then 268 else if c = wo_cell then 269 else if c = wo_day then 270 else if c = wo_rain then 271 else if c = wo_hill then 272 else 255) = 255
    rw [if_neg h9, if_neg h10, if_neg h11, if_neg h12, if_neg h5, if_neg h6, if_neg h7, if_neg h8, if_neg h13, if_neg h14, if_neg h15, if_neg h16, if_neg h17, if_neg h18, if_neg h19, if_neg h20, if_neg h21]
  rw [e255]; rfl
theorem m_tw {b : Nat → Nat} {n : Nat} {u : Mem} (h : txS 1 b n u) {s e : Nat} (hs : u 146 19 = nI s) (he : u 146 17 = nI e) (hse : s ≤ e) (hen : e ≤ n) : FX12_tellWord_146 u = some (nI (mtk 1 (kwF (woL 1) 0 (ct b s (e - s))))) := by
  unfold FX12_tellWord_146
  rw [m_is_22 h hs he hse hen, b_some]
  by_cases h22 : ct b s (e - s) = wo_tells
  · rw [if_pos h22, if_neg z1, h22]
    exact (show _ = some (nI (mtk 1 (kwF (woL 1) 0 wo_tells))) by decide +kernel)
  rw [if_neg h22, if_pos rfl]
  rw [m_is_7 h hs he hse hen, b_some]
  by_cases h7 : ct b s (e - s) = wo_and
  · rw [if_pos h7, if_neg z1, h7]
    exact (show _ = some (nI (mtk 1 (kwF (woL 1) 0 wo_and))) by decide +kernel)
  rw [if_neg h7, if_pos rfl]
  have e255 : kwF (woL 1) 0 (ct b s (e - s)) = 255 := by
    generalize ct b s (e - s) = c at *
    show (if c = wo_tells then 256 else if c = wo_and then 257 else 255) = 255
    rw [if_neg h22, if_neg h7]
  rw [e255]; rfl
theorem m_ww {b : Nat → Nat} {n : Nat} {u : Mem} (h : txS 2 b n u) {s e : Nat} (hs : u 146 19 = nI s) (he : u 146 17 = nI e) (hse : s ≤ e) (hen : e ≤ n) : FX12_weighWord_146 u = some (nI (mtk 2 (kwF (woL 2) 0 (ct b s (e - s))))) := by
  unfold FX12_weighWord_146
  rw [m_is_23 h hs he hse hen, b_some]
  by_cases h23 : ct b s (e - s) = wo_fact
  · rw [if_pos h23, if_neg z1, h23]
    exact (show _ = some (nI (mtk 2 (kwF (woL 2) 0 wo_fact))) by decide +kernel)
  rw [if_neg h23, if_pos rfl]
  rw [m_is_24 h hs he hse hen, b_some]
  by_cases h24 : ct b s (e - s) = wo_weighs
  · rw [if_pos h24, if_neg z1, h24]
    exact (show _ = some (nI (mtk 2 (kwF (woL 2) 0 wo_weighs))) by decide +kernel)
  rw [if_neg h24, if_pos rfl]
  have e255 : kwF (woL 2) 0 (ct b s (e - s)) = 255 := by
    generalize ct b s (e - s) = c at *
    show (if c = wo_fact then 256 else if c = wo_weighs then 257 else 255) = 255
    rw [if_neg h23, if_neg h24]
  rw [e255]; rfl
theorem m_ow {b : Nat → Nat} {n : Nat} {u : Mem} (h : txS 3 b n u) {s e : Nat} (hs : u 146 19 = nI s) (he : u 146 17 = nI e) (hse : s ≤ e) (hen : e ≤ n) : FX12_orderWord_146 u = some (nI (mtk 3 (kwF (woL 3) 0 (ct b s (e - s))))) := by
  unfold FX12_orderWord_146
  rw [m_is_25 h hs he hse hen, b_some]
  by_cases h25 : ct b s (e - s) = wo_on
  · rw [if_pos h25, if_neg z1, h25]
    exact (show _ = some (nI (mtk 3 (kwF (woL 3) 0 wo_on))) by decide +kernel)
  rw [if_neg h25, if_pos rfl]
  rw [m_is_26 h hs he hse hen, b_some]
  by_cases h26 : ct b s (e - s) = wo_rest
  · rw [if_pos h26, if_neg z1, h26]
    exact (show _ = some (nI (mtk 3 (kwF (woL 3) 0 wo_rest))) by decide +kernel)
  rw [if_neg h26, if_pos rfl]
  rw [m_is_27 h hs he hse hen, b_some]
  by_cases h27 : ct b s (e - s) = wo_go
  · rw [if_pos h27, if_neg z1, h27]
    exact (show _ = some (nI (mtk 3 (kwF (woL 3) 0 wo_go))) by decide +kernel)
  rw [if_neg h27, if_pos rfl]
  have e255 : kwF (woL 3) 0 (ct b s (e - s)) = 255 := by
    generalize ct b s (e - s) = c at *
    show (if c = wo_on then 256 else if c = wo_rest then 257 else if c = wo_go then 258 else 255) = 255
    rw [if_neg h25, if_neg h26, if_neg h27]
  rw [e255]; rfl
theorem m_word {k : Nat} (hk : k < 4) {b : Nat → Nat} {n : Nat} {u : Mem} (h : txS k b n u) {s e : Nat} (hs : u 146 19 = nI s) (he : u 146 17 = nI e) (hse : s ≤ e) (hen : e ≤ n) : FX12_word_146 u = some (nI (mtk k (kwF (woL k) 0 (ct b s (e - s))))) := by
  unfold FX12_word_146
  rw [h.2.2]
  rcases (by omega : k = 0 ∨ k = 1 ∨ k = 2 ∨ k = 3) with rfl | rfl | rfl | rfl
  · rw [if_pos (by decide), m_lw h hs he hse hen, b_some]
  · rw [if_neg (by decide), if_pos (by decide), m_tw h hs he hse hen, b_some]
  · rw [if_neg (by decide), if_neg (by decide), if_pos (by decide), m_ww h hs he hse hen, b_some]
  · rw [if_neg (by decide), if_neg (by decide), if_neg (by decide), m_ow h hs he hse hen, b_some]

