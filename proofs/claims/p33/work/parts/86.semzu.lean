/-! the model's next token -/
theorem sg_if {β : Type} (A B : β) {x : Nat} (hx : x < 256) : (if nI x = 59 then A else (if nI x = 43 then A else (if nI x = 45 then A else (if nI x = 42 then A else (if nI x = 47 then A else (if nI x = 40 then A else (if nI x = 41 then A else (if nI x = 60 then A else (if nI x = 61 then A else (if nI x = 62 then A else B)))))))))) = if sgn x = true then A else B := by
  by_cases h59 : x = 59
  · rw [h59]; rfl
  rw [if_neg (show ¬ nI x = 59 by rw [eq_li (by decide) (by omega)]; exact h59)]
  by_cases h43 : x = 43
  · rw [h43]; rfl
  rw [if_neg (show ¬ nI x = 43 by rw [eq_li (by decide) (by omega)]; exact h43)]
  by_cases h45 : x = 45
  · rw [h45]; rfl
  rw [if_neg (show ¬ nI x = 45 by rw [eq_li (by decide) (by omega)]; exact h45)]
  by_cases h42 : x = 42
  · rw [h42]; rfl
  rw [if_neg (show ¬ nI x = 42 by rw [eq_li (by decide) (by omega)]; exact h42)]
  by_cases h47 : x = 47
  · rw [h47]; rfl
  rw [if_neg (show ¬ nI x = 47 by rw [eq_li (by decide) (by omega)]; exact h47)]
  by_cases h40 : x = 40
  · rw [h40]; rfl
  rw [if_neg (show ¬ nI x = 40 by rw [eq_li (by decide) (by omega)]; exact h40)]
  by_cases h41 : x = 41
  · rw [h41]; rfl
  rw [if_neg (show ¬ nI x = 41 by rw [eq_li (by decide) (by omega)]; exact h41)]
  by_cases h60 : x = 60
  · rw [h60]; rfl
  rw [if_neg (show ¬ nI x = 60 by rw [eq_li (by decide) (by omega)]; exact h60)]
  by_cases h61 : x = 61
  · rw [h61]; rfl
  rw [if_neg (show ¬ nI x = 61 by rw [eq_li (by decide) (by omega)]; exact h61)]
  by_cases h62 : x = 62
  · rw [h62]; rfl
  rw [if_neg (show ¬ nI x = 62 by rw [eq_li (by decide) (by omega)]; exact h62)]
  rw [if_neg]
  unfold sgn
  simp [h59, h43, h45, h42, h47, h40, h41, h60, h61, h62]
theorem sgn_m : ∀ x, x < 256 → sgn x = true → (x ≠ 0 ∧ x ≠ 1 ∧ x ≠ 2 ∧ x < 255) := by decide +kernel
theorem mtk_sg (k : Nat) {x : Nat} (hx : x < 256) (h : sgn x = true) : mtk k x = 100 + x := by
  obtain ⟨a, b, c, d⟩ := sgn_m x hx h
  unfold mtk
  rw [if_neg a, if_neg b, if_neg c, if_neg (by omega), if_pos d]
theorem vlF_0 (b : Nat → Nat) (n : Nat) {i v : Nat} (h : ¬ (i < n ∧ isDg (b i) = true)) : ∀ k, vlF b n k i v = v
  | 0 => rfl
  | k + 1 => by
    unfold vlF
    rw [if_neg]
    rw [Bool.and_eq_true, decide_eq_true_eq]; exact h
theorem m_nxW {k : Nat} (hk : k < 4) {b : Nat → Nat} {n s : Nat} {u0 : Mem} (hS : txS k b n u0) (h19 : u0 146 19 = nI s) (hs : s < n) : ∀ (m i F : Nat) (u : Mem), i + m = n → m < F → s ≤ i → (∀ j, s ≤ j → j < i → isLt (b j) = true) → txF u0 u → u 146 19 = nI s → u 146 17 = nI i → ∃ u', FX12_next0_146_L76 F u = some u' ∧ txF u0 u' ∧ u' 146 19 = nI s ∧ u' 146 17 = nI (rnP isLt b n m i) ∧ u' 146 18 = nI (mtk k (kwF (woL k) 0 (ct b s (rnP isLt b n m i - s)))) ∧ u' 146 20 = u 146 20 := by
  intro m
  have hn := hS.2.1.1
  have stop : ∀ (i f : Nat) (u : Mem), i ≤ n → s ≤ i → ¬ (i < n ∧ isLt (b i) = true) → txF u0 u → u 146 19 = nI s → u 146 17 = nI i → ∃ u', FX12_next0_146_L76 (f + 1) u = some u' ∧ txF u0 u' ∧ u' 146 19 = nI s ∧ u' 146 17 = nI i ∧ u' 146 18 = nI (mtk k (kwF (woL k) 0 (ct b s (i - s)))) ∧ u' 146 20 = u 146 20 := by
    intro i f u hi h0 hc hF h1 h2
    have hSu := txS_F hS hF
    have hx : FX12_next0_146_L76 (f + 1) u = some (mupd u 146 18 (nI (mtk k (kwF (woL k) 0 (ct b s (i - s)))))) := by
      show FX12_next0_146_b76 _ _ = _
      unfold FX12_next0_146_b76
      rw [h2, m_seeL hSu hi, if_neg hc, if_pos rfl, m_word hk hSu h1 h2 h0 hi, b_some, b_some]
    exact ⟨_, hx, txF_t hF (txF_u u _ (by omega)), by rw [m_eq, up_ne (by decide)]; exact h1, by rw [m_eq, up_ne (by decide)]; exact h2, by rw [m_eq, up_eq], by rw [m_eq, up_ne (by decide)]⟩
  induction m with
  | zero =>
    intro i F u hi hF h0 ha hf h1 h2
    obtain ⟨f, rfl⟩ : ∃ f, F = f + 1 := ⟨F - 1, by omega⟩
    exact stop i f u (by omega) h0 (by omega) hf h1 h2
  | succ m ih =>
    intro i F u hi hF h0 ha hf h1 h2
    obtain ⟨f, rfl⟩ : ∃ f, F = f + 1 := ⟨F - 1, by omega⟩
    unfold rnP
    rw [decide_eq_true (show i < n by omega), Bool.true_and]
    by_cases c : isLt (b i) = true
    · rw [if_pos c]
      have hx : FX12_next0_146_L76 (f + 1) u = FX12_next0_146_L76 f (mupd u 146 17 (nI (i + 1))) := by
        show FX12_next0_146_b76 _ _ = _
        unfold FX12_next0_146_b76
        rw [h2, m_seeL (txS_F hS hf) (by omega), if_pos (show i < n ∧ isLt (b i) = true from ⟨by omega, c⟩), if_neg z1, b_some, nI_1]
      rw [hx]
      obtain ⟨u', e1, e2, e3, e4, e5, e6⟩ := ih (i + 1) f (mupd u 146 17 (nI (i + 1))) (by omega) (by omega) (by omega) (fun j j1 j2 => by
        by_cases e : j = i
        · rw [e]; exact c
        · exact ha j j1 (by omega)) (txF_t hf (txF_u u _ (by omega))) (by rw [m_eq, up_ne (by decide)]; exact h1) (by rw [m_eq, up_eq])
      exact ⟨u', e1, e2, e3, e4, e5, by rw [e6, m_eq, up_ne (by decide)]⟩
    · rw [if_neg c]
      exact stop i f u (by omega) h0 (fun h => c h.2) hf h1 h2
theorem m_nxD {k : Nat} {b : Nat → Nat} {n s : Nat} {u0 : Mem} (hS : txS k b n u0) (hs : s < n) : ∀ (m i v F : Nat) (u : Mem), i + m = n → m < F → s ≤ i → vlF b n (s + 4 - i) i v = vl b n s → txF u0 u → u 146 19 = nI s → u 146 17 = nI i → u 146 20 = nI v → ∃ u', FX12_next0_146_L126 F u = some u' ∧ txF u0 u' ∧ u' 146 19 = nI s ∧ u' 146 17 = nI (rnP isDg b n m i) ∧ u' 146 18 = nI (if rnP isDg b n m i - s ≤ 4 then 2 else 1) ∧ u' 146 20 = nI (vl b n s) := by
  intro m
  have hn := hS.2.1.1
  have stop : ∀ (i v f : Nat) (u : Mem), i ≤ n → s ≤ i → ¬ (i < n ∧ isDg (b i) = true) → vlF b n (s + 4 - i) i v = vl b n s → txF u0 u → u 146 19 = nI s → u 146 17 = nI i → u 146 20 = nI v → ∃ u', FX12_next0_146_L126 (f + 1) u = some u' ∧ txF u0 u' ∧ u' 146 19 = nI s ∧ u' 146 17 = nI i ∧ u' 146 18 = nI (if i - s ≤ 4 then 2 else 1) ∧ u' 146 20 = nI (vl b n s) := by
    intro i v f u hi h0 hc hv hF h1 h2 h3
    have hSu := txS_F hS hF
    rw [vlF_0 b n hc] at hv
    have hx : FX12_next0_146_L126 (f + 1) u = some (mupd u 146 18 (nI (if i - s ≤ 4 then 2 else 1))) := by
      show FX12_next0_146_b126 _ _ = _
      unfold FX12_next0_146_b126
      rw [h2, m_seeD hSu hi, if_neg hc, if_pos rfl, h1, nI_sub h0]
      unfold FX12_next0_146_b208
      by_cases c : i - s ≤ 4
      · rw [if_neg (by rw [li_le (by decide) (by omega)]; show ¬ 5 ≤ i - s; omega), if_pos c, b_some]; rfl
      · rw [if_pos (by rw [li_le (by decide) (by omega)]; show 5 ≤ i - s; omega), if_neg c, b_some]; rfl
    exact ⟨_, hx, txF_t hF (txF_u u _ (by omega)), by rw [m_eq, up_ne (by decide)]; exact h1, by rw [m_eq, up_ne (by decide)]; exact h2, by rw [m_eq, up_eq], by rw [m_eq, up_ne (by decide), h3, hv]⟩
  induction m with
  | zero =>
    intro i v F u hi hF h0 hv hf h1 h2 h3
    obtain ⟨f, rfl⟩ : ∃ f, F = f + 1 := ⟨F - 1, by omega⟩
    exact stop i v f u (by omega) h0 (by omega) hv hf h1 h2 h3
  | succ m ih =>
    intro i v F u hi hF h0 hv hf h1 h2 h3
    obtain ⟨f, rfl⟩ : ∃ f, F = f + 1 := ⟨F - 1, by omega⟩
    unfold rnP
    rw [decide_eq_true (show i < n by omega), Bool.true_and]
    by_cases c : isDg (b i) = true
    · rw [if_pos c]
      have h48 : 48 ≤ b i := by
        have hd2 := c
        unfold isDg at hd2
        rw [Bool.and_eq_true, decide_eq_true_eq] at hd2
        exact hd2.1
      by_cases c4 : s + 4 ≤ i
      · have hx : FX12_next0_146_L126 (f + 1) u = FX12_next0_146_L126 f (mupd u 146 17 (nI (i + 1))) := by
          show FX12_next0_146_b126 _ _ = _
          unfold FX12_next0_146_b126 FX12_next0_146_b176
          rw [h2, m_seeD (txS_F hS hf) (by omega), if_pos (show i < n ∧ isDg (b i) = true from ⟨by omega, c⟩), if_neg z1, h1, show nI s + 4 = nI (s + 4) from add_li 4 s, ltE _ _ (by omega) (by omega) c4, b_some, nI_1]
        rw [hx]
        refine ih (i + 1) v f (mupd u 146 17 (nI (i + 1))) (by omega) (by omega) (by omega) ?_ (txF_t hf (txF_u u _ (by omega))) (by rw [m_eq, up_ne (by decide)]; exact h1) (by rw [m_eq, up_eq]) (by rw [m_eq, up_ne (by decide)]; exact h3)
        rw [show s + 4 - i = 0 by omega] at hv
        rw [show s + 4 - (i + 1) = 0 by omega]
        exact hv
      · have hx : FX12_next0_146_L126 (f + 1) u = FX12_next0_146_L126 f (mupd (mupd u 146 20 (nI (10 * v + (b i - 48)))) 146 17 (nI (i + 1))) := by
          show FX12_next0_146_b126 _ _ = _
          unfold FX12_next0_146_b126 FX12_next0_146_b176
          have hsee := m_see (txS_F hS hf) (i := i) (by omega)
          rw [if_pos (show i < n by omega)] at hsee
          rw [h2, m_seeD (txS_F hS hf) (by omega), if_pos (show i < n ∧ isDg (b i) = true from ⟨by omega, c⟩), if_neg z1, h1, show nI s + 4 = nI (s + 4) from add_li 4 s, ltN _ _ (by omega) (by omega) (by omega), hsee, b_some, b_some, b_some, h3, m_eq, up_ne (by decide), h2, li_mul, nI_add, sub_li (by show 48 ≤ _; omega), nI_1]
          rw [show (OfNat.ofNat 10 : Nat) * v + b i - (OfNat.ofNat 48 : Nat) = 10 * v + (b i - 48) by show 10 * v + b i - 48 = _; omega]
        rw [hx]
        refine ih (i + 1) (10 * v + (b i - 48)) f _ (by omega) (by omega) (by omega) ?_ (txF_t (txF_t hf (txF_u u _ (by omega))) (txF_u _ _ (by omega))) (by rw [m_eq, up_ne (by decide), m_eq, up_ne (by decide)]; exact h1) (by rw [m_eq, up_eq]) (by rw [m_eq, up_ne (by decide), m_eq, up_eq])
        rw [show s + 4 - i = s + 4 - (i + 1) + 1 by omega] at hv
        unfold vlF at hv
        rw [decide_eq_true (show i < n by omega), c, Bool.true_and, if_pos rfl] at hv
        exact hv
    · rw [if_neg c]
      exact stop i v f u (by omega) h0 (fun h => c h.2) hv hf h1 h2 h3
theorem m_next0 {k : Nat} (_hk : k < 4) {b : Nat → Nat} {n p F : Nat} {u : Mem} (hpn : p = n) (hF : 0 < F) (hS : txS k b n u) (h17 : u 146 17 = nI p) : ∃ u', FX12_next0_146_L0 F u = some u' ∧ txF u u' ∧ u' 146 19 = nI (ed isBl b n p) ∧ u' 146 17 = nI (te b n (ed isBl b n p)) ∧ u' 146 18 = nI (mtk k (kd k b n (ed isBl b n p))) ∧ u' 146 20 = svF b n (ed isBl b n p) (u 146 20) := by
  have hp : p ≤ n := by omega
  obtain ⟨f, rfl⟩ : ∃ f, F = f + 1 := ⟨F - 1, by omega⟩
  have hn := hS.2.1.1
  have hsee := m_see hS (i := p) hp
  rw [if_neg (by omega)] at hsee
  have hsee2 := m_see (txS_F hS (txF_u u (j := 19) (nI p) (by omega))) (i := p) hp
  rw [if_neg (by omega)] at hsee2
  rw [ed_e (show n ≤ p by omega), te_e (show n ≤ p by omega)]
  have hx : FX12_next0_146_L0 (f + 1) u = some (mupd (mupd u 146 19 (nI p)) 146 18 0) := by
    show FX12_next0_146_b0 _ _ = _
    unfold FX12_next0_146_b0
    rw [h17, hsee, b_some, if_neg (by decide), b_some, if_neg (by decide), b_some, m_eq, up_ne (show 17 ≠ 19 by decide), h17, hsee2, b_some, if_pos rfl, b_some]
  refine ⟨_, hx, txF_t (txF_u u _ (by omega)) (txF_u _ _ (by omega)), by rw [m_eq, up_ne (by decide), m_eq, up_eq], by rw [m_eq, up_ne (by decide), m_eq, up_ne (by decide)]; exact h17, ?_, ?_⟩
  · rw [m_eq, up_eq]
    unfold kd
    rw [if_pos (by omega)]; exact nI_0.symm
  · rw [m_eq, up_ne (by decide), m_eq, up_ne (by decide)]
    unfold svF
    rw [if_pos (by omega)]
theorem m_next {k : Nat} (hk : k < 4) {b : Nat → Nat} {n : Nat} : ∀ (d p F : Nat) (u : Mem), n - p ≤ d → d < F → p ≤ n → txS k b n u → u 146 17 = nI p → ∃ u', FX12_next0_146_L0 F u = some u' ∧ txF u u' ∧ u' 146 19 = nI (ed isBl b n p) ∧ u' 146 17 = nI (te b n (ed isBl b n p)) ∧ u' 146 18 = nI (mtk k (kd k b n (ed isBl b n p))) ∧ u' 146 20 = svF b n (ed isBl b n p) (u 146 20) := by
  intro d
  induction d with
  | zero =>
    intro p F u hd hF hp hS h17
    exact m_next0 hk (by omega) (by omega) hS h17
  | succ d ih =>
    intro p F u hd hF hp hS h17
    by_cases hpn : p = n
    · exact (m_next0 hk hpn (by omega) hS h17)
    obtain ⟨f, rfl⟩ : ∃ f, F = f + 1 := ⟨F - 1, by omega⟩
    have hn := hS.2.1.1
    have hlt : p < n := by omega
    have hb := (hS.2.1.2 p hlt).2
    have hsee := m_see hS (i := p) hp
    rw [if_pos hlt] at hsee
    by_cases c : isBl (b p) = true
    · have hx : FX12_next0_146_L0 (f + 1) u = FX12_next0_146_L0 f (mupd u 146 17 (nI (p + 1))) := by
        show FX12_next0_146_b0 _ _ = _
        unfold FX12_next0_146_b0 FX12_next0_146_b26
        rw [h17, hsee, b_some, b_some, nI_1]
        by_cases c1 : b p = 32
        · rw [if_pos (by rw [c1]; decide)]
        · have c2 : b p = 10 := by
            unfold isBl at c
            rw [decide_eq_false c1, Bool.false_or, decide_eq_true_eq] at c
            exact c
          rw [if_neg (by rw [eq_li (by decide) (by omega)]; exact c1), b_some, if_pos (by rw [c2]; decide)]
      have hF := txF_u u (j := 17) (nI (p + 1)) (by omega)
      obtain ⟨u', e1, e2, e3, e4, e5, e6⟩ := ih (p + 1) f (mupd u 146 17 (nI (p + 1))) (by omega) (by omega) (by omega) (txS_F hS hF) (by rw [m_eq, up_eq])
      rw [m_eq, up_ne (show 20 ≠ 17 by decide)] at e6
      rw [hx, ed_y hlt c]
      exact ⟨u', e1, txF_t hF e2, e3, e4, e5, e6⟩
    · have es : ed isBl b n p = p := ed_n c
      rw [es]
      have c1 : ¬ b p = 32 := fun h => c (by rw [h]; decide)
      have c2 : ¬ b p = 10 := fun h => c (by rw [h]; decide)
      have hF19 := txF_u u (j := 19) (nI p) (by omega)
      have hS5 := txS_F hS hF19
      have hsee2 := m_see hS5 (i := p) hp
      rw [if_pos hlt] at hsee2
      have r19 : (mupd u 146 19 (nI p)) 146 19 = nI p := by rw [m_eq, up_eq]
      have r17 : (mupd u 146 19 (nI p)) 146 17 = nI p := by rw [m_eq, up_ne (by decide)]; exact h17
      have r20 : (mupd u 146 19 (nI p)) 146 20 = u 146 20 := by rw [m_eq, up_ne (by decide)]
      have start : FX12_next0_146_L0 (f + 1) u = (if isLt (b p) = true then FX12_next0_146_L76 FU (mupd u 146 19 (nI p)) else if isDg (b p) = true then FX12_next0_146_L126 FU (mupd (mupd u 146 19 (nI p)) 146 20 0) else if sgn (b p) = true then some (mupd (mupd (mupd u 146 19 (nI p)) 146 17 (nI (p + 1))) 146 18 (100 + nI (b p))) else some (mupd (mupd (mupd u 146 19 (nI p)) 146 17 (nI (p + 1))) 146 18 1)) := by
        show FX12_next0_146_b0 _ _ = _
        unfold FX12_next0_146_b0
        rw [h17, hsee, b_some, if_neg (by rw [eq_li (by decide) (by omega)]; exact c1), b_some, if_neg (by rw [eq_li (by decide) (by omega)]; exact c2), b_some, r17, hsee2, b_some, if_neg (nI_m1 (by omega)), m_isLt _ hb, b_some]
        by_cases d1 : isLt (b p) = true
        · rw [if_pos d1, if_neg z1, if_pos d1]
        · rw [if_neg d1, if_pos rfl, if_neg d1, m_isDg _ hb, b_some]
          by_cases d2 : isDg (b p) = true
          · rw [if_pos d2, if_neg z1, if_pos d2, b_some]
          · rw [if_neg d2, if_pos rfl, if_neg d2, b_some, sg_if _ _ hb, nI_1]
            unfold FX12_next0_146_b289 FX12_next0_146_b303
            by_cases d3 : sgn (b p) = true
            · rw [if_pos d3, if_neg z1, if_pos d3, b_some]
            · rw [if_neg d3, if_pos rfl, if_neg d3, b_some]
      rw [start]
      by_cases d1 : isLt (b p) = true
      · obtain ⟨k1, k2⟩ := kd_lt (k := k) hlt d1
        obtain ⟨u', e1, e2, e3, e4, e5, e6⟩ := m_nxW hk hS5 r19 hlt (n - p) p FU (mupd u 146 19 (nI p)) (by omega) (by show _ < 10000; omega) (Nat.le_refl _) (fun j h1 h2 => by omega) (txF_r _) r19 r17
        rw [if_pos d1, k1, k2]
        refine ⟨u', e1, txF_t hF19 e2, e3, e4, e5, ?_⟩
        rw [e6, r20]
        unfold svF
        rw [if_neg (by omega), if_pos d1]
      · rw [if_neg d1]
        by_cases d2 : isDg (b p) = true
        · obtain ⟨k1, k2⟩ := kd_dg (k := k) hlt d1 d2
          have hF20 := txF_u (mupd u 146 19 (nI p)) (j := 20) 0 (by omega)
          obtain ⟨u', e1, e2, e3, e4, e5, e6⟩ := m_nxD hS5 hlt (n - p) p 0 FU (mupd (mupd u 146 19 (nI p)) 146 20 0) (by omega) (by show _ < 10000; omega) (Nat.le_refl _) (by rw [show p + 4 - p = 4 by omega]; rfl) hF20 (by rw [m_eq, up_ne (by decide)]; exact r19) (by rw [m_eq, up_ne (by decide)]; exact r17) (by rw [m_eq, up_eq]; exact nI_0.symm)
          rw [if_pos d2, k1, k2]
          refine ⟨u', e1, txF_t hF19 e2, e3, e4, ?_, ?_⟩
          · rw [e5]
            show nI (if ed isDg b n p - p ≤ 4 then 2 else 1) = _
            split <;> rfl
          · rw [e6]
            unfold svF
            rw [if_neg (by omega), if_neg d1, if_pos d2]
        · obtain ⟨k1, k2⟩ := kd_sg (k := k) hlt d1 d2
          rw [if_neg d2, k1, k2]
          have hF2 : ∀ x, txF u (mupd (mupd (mupd u 146 19 (nI p)) 146 17 (nI (p + 1))) 146 18 x) := fun x => txF_t (txF_t hF19 (txF_u _ _ (by omega))) (txF_u _ _ (by omega))
          have hv : svF b n p (u 146 20) = u 146 20 := by
            unfold svF; rw [if_neg (by omega), if_neg d1, if_neg d2]
          by_cases d3 : sgn (b p) = true
          · rw [if_pos d3, if_pos d3, mtk_sg k hb d3]
            exact ⟨_, rfl, hF2 _, by rw [m_eq, up_ne (by decide), m_eq, up_ne (by decide)]; exact r19, by rw [m_eq, up_ne (by decide), m_eq, up_eq], by rw [m_eq, up_eq]; exact li_add 100 (b p), by rw [m_eq, up_ne (by decide), m_eq, up_ne (by decide), r20, hv]⟩
          · rw [if_neg d3, if_neg d3]
            exact ⟨_, rfl, hF2 _, by rw [m_eq, up_ne (by decide), m_eq, up_ne (by decide)]; exact r19, by rw [m_eq, up_ne (by decide), m_eq, up_eq], by rw [m_eq, up_eq]; rfl, by rw [m_eq, up_ne (by decide), m_eq, up_ne (by decide), r20, hv]⟩

