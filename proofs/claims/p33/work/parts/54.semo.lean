/-! what holds between two calls -/
def RW (W Bk : Wt) (r : Nat) : Wt := fun k => if k < 78 then Bk (78 * r + k) else W k
def UN (v : Mem) (W Bk M : Wt) : Prop := ∃ n x, n ≤ 6 ∧ x < 6 ∧ v 52 2 = nI n ∧ v 52 1 = nI x ∧ M 4 = nI n ∧ ∀ j, j < n → BR (54 + 7 * ((x + 5 - j) % 6)) v (RW W Bk (n - 1 - j)) ∧ OkD (RW W Bk (n - 1 - j))
def IMG (v : Mem) (K M : Wt) : Prop := v 0 11 = M 5 ∧ (M 5 = 0 ∨ (M 5 = 1 ∧ WO K ∧ TR 115 v K ∧ LC 122 v K ∧ BR 137 v K ∧ BK 145 v K))
def RD (v : Mem) (M Tp : Wt) : Prop := ∃ n, n ≤ 400 ∧ v 34 12 = nI n ∧ M 16 = nI n ∧ (∀ i, i < n → v 35 i = Tp i ∧ ∃ b, b < 256 ∧ Tp i = nI b) ∧ v 34 13 = M 23 ∧ v 34 14 = M 25
def XD (v : Mem) (W : Wt) : Prop := XR_32 0 0 (fun _ => 0) v W
def SP (v w : Mem) : Prop := WO (w 147) ∧ XD v (w 147) ∧ v 104 3 = 0 ∧ UN v (w 147) (w 149) (w 146) ∧ IMG v (w 148) (w 146) ∧ RD v (w 146) (w 154)
/-- all but what can be undone -/
def SQ (v w : Mem) : Prop := WO (w 147) ∧ XD v (w 147) ∧ v 104 3 = 0 ∧ (∃ x, x < 6 ∧ v 52 1 = nI x) ∧ IMG v (w 148) (w 146) ∧ RD v (w 146) (w 154)
theorem OkD_cg {A B : Wt} (e : ∀ k, k ≤ 78 → B k = A k) (h : OkD A) : OkD B := by
  have hn : nmen B = nmen A := by unfold nmen; rw [e 78 (by omega)]
  exact ⟨fun m hm => by rw [e _ (by omega)]; exact OkD_br h m hm, fun m hm => by rw [e _ (by omega)]; exact OkD_kn h m hm, fun m hm => by rw [e _ (by omega)]; exact OkD_cn h m hm, fun m hm => by rw [e _ (by omega)]; exact OkD_wh h m hm, fun m hm => by rw [e _ (by omega)]; exact OkD_ce h m hm, by rw [e _ (by omega)]; exact OkD_war h, by rw [e _ (by omega)]; exact OkD_ln h, fun m hm hm' => by rw [hn] at hm'; rw [e _ (by omega)]; exact OkD_hm h m hm hm'⟩
theorem BR_W {b : Nat} {u : Mem} {A B : Wt} (e : ∀ k, k < 78 → B k = A k) (h : BR b u A) : BR b u B := by
  refine ⟨by rw [e _ (by omega)]; exact h.1, by rw [e _ (by omega)]; exact h.2.1, by rw [e _ (by omega)]; exact h.2.2.1, by rw [e _ (by omega)]; exact h.2.2.2.1, fun j m hj hm => by rw [e _ (by omega)]; exact h.2.2.2.2 j m hj hm⟩
theorem UN_W {v : Mem} {W W' Bk M : Wt} (s : W' 78 = W 78) (h : UN v W Bk M) : UN v W' Bk M := by
  obtain ⟨n, x, a, b, c, d, e, f⟩ := h
  refine ⟨n, x, a, b, c, d, e, fun j hj => ?_⟩
  obtain ⟨p, q⟩ := f j hj
  refine ⟨BR_W (fun k hk => ?_) p, OkD_cg (fun k hk => ?_) q⟩
  · unfold RW; rw [if_pos hk, if_pos hk]
  · unfold RW
    by_cases h : k < 78
    · rw [if_pos h, if_pos h]
    · rw [if_neg h, if_neg h, show k = 78 by omega, s]
theorem UN_cg {v v' : Mem} {W Bk M : Wt} (e : ∀ c, c = 52 ∨ (54 ≤ c ∧ c ≤ 95) → v' c = v c) (h : UN v W Bk M) : UN v' W Bk M := by
  obtain ⟨n, x, a, b, c, d, g, f⟩ := h
  refine ⟨n, x, a, b, by rw [e 52 (by omega)]; exact c, by rw [e 52 (by omega)]; exact d, g, fun j hj => ?_⟩
  obtain ⟨p, q⟩ := f j hj
  exact ⟨BR_cg p (fun i hi => e _ (by omega)), q⟩
theorem UN_M {v : Mem} {W Bk M M' : Wt} (e : M' 4 = M 4) (h : UN v W Bk M) : UN v W Bk M' := by
  obtain ⟨n, x, a, b, c, d, g, f⟩ := h
  exact ⟨n, x, a, b, c, d, e.trans g, f⟩
theorem BK_cg {c : Nat} {v v' : Mem} {W : Wt} (e : v' c = v c) (h : BK c v W) : BK c v' W := fun i hi => by rw [e]; exact h i hi
theorem IMG_cg {v v' : Mem} {K M : Wt} (e : ∀ c, c = 0 ∨ (115 ≤ c ∧ c ≤ 145) → v' c = v c) (h : IMG v K M) : IMG v' K M := by
  refine ⟨by rw [e 0 (by omega)]; exact h.1, ?_⟩
  rcases h.2 with a | ⟨a, b, c, d, f, g⟩
  · exact Or.inl a
  · exact Or.inr ⟨a, b, TR_cg c (fun j hj => e _ (by omega)), LC_cg d (fun j hj => e _ (by omega)), BR_cg f (fun j hj => e _ (by omega)), BK_cg (e 145 (by omega)) g⟩
theorem IMG_M {v : Mem} {K M M' : Wt} (e : M' 5 = M 5) (h : IMG v K M) : IMG v K M' := by unfold IMG; rw [e]; exact h
theorem RD_cg {v v' : Mem} {M Tp : Wt} (e1 : v' 34 = v 34) (e2 : v' 35 = v 35) (h : RD v M Tp) : RD v' M Tp := by
  unfold RD; rw [e1, e2]; exact h
theorem RD_M {v : Mem} {M M' Tp : Wt} (e : M' 16 = M 16) (e2 : M' 23 = M 23) (e3 : M' 25 = M 25) (h : RD v M Tp) : RD v M' Tp := by unfold RD; rw [e, e2, e3]; exact h
theorem CR_cg {b : Nat} {v v' : Mem} {W : Wt} (e : ∀ c, (1 ≤ c ∧ c ≤ 22 ∧ c ≠ 14) ∨ (b ≤ c ∧ c ≤ b + 6) → v' c = v c) (h : CR b v W) : CR b v' W := by
  refine ⟨?_, LC_cg h.2.1 (fun j hj => e _ (by omega)), BR_cg h.2.2 (fun j hj => e _ (by omega))⟩
  have hT := h.1
  unfold TR at hT ⊢
  rw [e 1 (by omega), e (1 + 1) (by omega), e (1 + 2) (by omega), e (1 + 3) (by omega), e (1 + 4) (by omega), e (1 + 5) (by omega), e (1 + 6) (by omega), e (1 + 14) (by omega), e (1 + 15) (by omega), e (1 + 16) (by omega), e (1 + 17) (by omega), e (1 + 18) (by omega), e (1 + 19) (by omega), e (1 + 20) (by omega), e (1 + 21) (by omega)]
  exact hT
theorem XD_cg {v v' : Mem} {W : Wt} (e : ∀ c, (1 ≤ c ∧ c ≤ 32 ∧ c ≠ 14) → v' c = v c) (h : XD v W) : XD v' W := by
  obtain ⟨a, b, c, d⟩ := h
  exact ⟨CR_cg (fun c hc => e c (by omega)) a, BK_cg (e 31 (by omega)) b, by rw [e 32 (by omega)]; exact c, by rw [e 32 (by omega)]; exact d⟩
theorem SP_cg {v v' w : Mem} (e : ∀ c, c < 146 → v' c = v c) (h : SP v w) : SP v' w := by
  obtain ⟨a, b, c, d, f, g⟩ := h
  exact ⟨a, XD_cg (fun c hc => e c (by omega)) b, by rw [e 104 (by omega)]; exact c, UN_cg (fun c hc => e c (by omega)) d, IMG_cg (fun c hc => e c (by omega)) f, RD_cg (e 34 (by omega)) (e 35 (by omega)) g⟩
theorem SP_w {v w w' : Mem} (e : ∀ c, 146 ≤ c → w' c = w c) (h : SP v w) : SP v w' := by
  unfold SP
  rw [e 146 (by omega), e 147 (by omega), e 148 (by omega), e 149 (by omega), e 154 (by omega)]
  exact h
theorem SP_Q {v w : Mem} (h : SP v w) : SQ v w := by
  obtain ⟨a, b, c, ⟨n, x, _, h2, _, h4, -⟩, f, g⟩ := h
  exact ⟨a, b, c, ⟨x, h2, h4⟩, f, g⟩
/-- what can be undone is forgotten -/
theorem SQ_f {v w : Mem} (h : SQ v w) : SP (mupd v 52 2 0) (mupd w 146 4 0) := by
  obtain ⟨a, b, c, ⟨x, h1, h2⟩, f, g⟩ := h
  unfold SP
  rw [m_ne (show 147 ≠ 146 by decide), m_ne (show 148 ≠ 146 by decide), m_ne (show 149 ≠ 146 by decide), m_ne (show 154 ≠ 146 by decide), m_eq w]
  refine ⟨a, XD_cg (fun c hc => m_ne (by omega)) b, by rw [m_ne (by decide)]; exact c, ⟨0, x, by omega, h1, by rw [m_eq, up_eq]; rfl, by rw [m_eq, up_ne (by omega)]; exact h2, by rw [up_eq]; rfl, fun j hj => by omega⟩, IMG_M (up_ne (by omega)) (IMG_cg (fun c hc => m_ne (by omega)) f), RD_M (up_ne (by omega)) (up_ne (by omega)) (up_ne (by omega)) (RD_cg (m_ne (by decide)) (m_ne (by decide)) g)⟩
theorem c_forget (u : Mem) : FX10_forgetAll_52 u = some (mupd u 52 2 0) := rfl
theorem m_forget (u : Mem) : FX12_forgetsActs_146 u = some (mupd u 146 4 0) := rfl
/-- the two sides of a call -/
def A2 (f g : Mem → Option (Int32 × Mem)) : Prop := ∀ v w, SP v w → ∃ r v' w', f v = some (r, v') ∧ g w = some (r, w') ∧ SP v' w'
def A1 (f g : Mem → Option Int32) : Prop := ∀ v w, SP v w → ∃ r, f v = some r ∧ g w = some r
theorem A2_go {f g : Mem → Option (Int32 × Mem)} (h : A2 f g) {Lf Lg : List Nat} (hf : ∀ v r v', f v = some (r, v') → FrL Lf v v') (hg : ∀ v r v', g v = some (r, v') → FrL Lg v v') (lf1 : Lf.all (fun c => decide (c < 146)) = true) (lg1 : Lg.all (fun c => decide (146 ≤ c)) = true) {u : Mem} (hu : SP u u) : ∃ r u1 u2, f u = some (r, u1) ∧ g u1 = some (r, u2) ∧ SP u2 u2 := by
  have nl : ∀ c, 146 ≤ c → Lf.contains c = false := fun c hc => by
    cases e : Lf.contains c with
    | false => rfl
    | true =>
      have := List.all_eq_true.mp lf1 c (List.contains_iff_mem.mp e)
      rw [decide_eq_true_eq] at this
      omega
  have nl2 : ∀ c, c < 146 → Lg.contains c = false := fun c hc => by
    cases e : Lg.contains c with
    | false => rfl
    | true =>
      have := List.all_eq_true.mp lg1 c (List.contains_iff_mem.mp e)
      rw [decide_eq_true_eq] at this
      omega
  obtain ⟨r, u1, _, e1, -, -⟩ := h u u hu
  have f1 := hf _ _ _ e1
  obtain ⟨r', v', w', e2, e3, hs⟩ := h u u1 (SP_w (fun c hc => f1 c (nl c hc)) hu)
  rw [e1] at e2
  cases e2
  have f2 := hg _ _ _ e3
  exact ⟨r, u1, w', e1, e3, SP_cg (fun c hc => f2 c (nl2 c hc)) hs⟩
/-! tests -/
theorem m_in (p a b : Int32) : FX12_isIn p a b = some (if a ≤ p ∧ p ≤ b then 1 else 0) := by
  unfold FX12_isIn
  by_cases c : p < a
  · rw [if_pos c, if_neg]
    rintro ⟨h, -⟩
    exact absurd c (by rw [Int32.not_lt]; exact h)
  · rw [if_neg c]
    by_cases c2 : b < p
    · rw [if_pos c2, if_neg]
      rintro ⟨-, h⟩
      exact absurd c2 (by rw [Int32.not_lt]; exact h)
    · rw [if_neg c2, if_pos ⟨by rw [← Int32.not_lt]; exact c, by rw [← Int32.not_lt]; exact c2⟩]
theorem c_co (p : Int32) : FX11_isCountry p = some (if p = 0 ∨ p = 1 then 1 else 0) := by
  unfold FX11_isCountry
  by_cases c : p = 0
  · rw [if_pos c, if_pos (Or.inl c)]
  · by_cases c2 : p = 1
    · rw [if_neg c, if_pos c2, if_pos (Or.inr c2)]
    · rw [if_neg c, if_neg c2, if_neg (fun h => h.elim c c2)]
theorem in_n {n : Nat} (hn : n < 2147483648) {p : Int32} : (0 ≤ p ∧ p ≤ nI n) = (∃ j, j ≤ n ∧ p = nI j) := by
  apply propext
  constructor
  · rintro ⟨a, b⟩
    obtain ⟨j, hj, rfl⟩ := nI_of (x := p) (by rw [Int32.not_lt]; exact a)
    rw [nn_le hj hn] at b
    exact ⟨j, b, rfl⟩
  · rintro ⟨j, hj, rfl⟩
    exact ⟨nI_pos' (by omega), by rw [nn_le (by omega) hn]; exact hj⟩
theorem m_co (p : Int32) : FX12_isCountry p = some (if p = 0 ∨ p = 1 then 1 else 0) := by
  unfold FX12_isCountry
  rw [m_in, b_some]
  have e : (0 ≤ p ∧ p ≤ 1) = (p = 0 ∨ p = 1) := by
    rw [show (1 : Int32) = nI 1 by decide, in_n (by decide)]
    apply propext
    constructor
    · rintro ⟨j, hj, rfl⟩
      rcases (by omega : j = 0 ∨ j = 1) with rfl | rfl
      · exact Or.inl nI_0
      · exact Or.inr rfl
    · rintro (rfl | rfl)
      · exact ⟨0, by omega, nI_0.symm⟩
      · exact ⟨1, by omega, rfl⟩
  simp only [e]
  by_cases c : p = 0 ∨ p = 1
  · rw [if_pos c]; rfl
  · rw [if_neg c]; rfl
/-! state -/
theorem A_state (p : Int32) : A2 (FX11_state_0 p) (FX12_state_146 p) := by
  intro v w h
  obtain ⟨a, b, c, d, f, g⟩ := SP_Q h
  refine ⟨w 147 2, mupd (mupd v 23 8 p) 52 2 0, mupd (mupd w 147 2 p) 146 4 0, ?_, rfl, SQ_f ?_⟩
  · show some (v 23 8, _) = _
    rw [gdr_23 b.1]
  · unfold SQ
    rw [m_eq w, m_ne (show 146 ≠ 147 by decide), m_ne (show 148 ≠ 147 by decide), m_ne (show 154 ≠ 147 by decide)]
    exact ⟨WO_dr a p, XR_f32 b a.1 (k := 8) (q := 2) (by omega) p, by rw [m_ne (by decide)]; exact c, by rw [m_ne (by decide)]; exact d, IMG_cg (fun c hc => m_ne (by omega)) f, RD_cg (m_ne (by decide)) (m_ne (by decide)) g⟩
/-! tape, end, fault -/
theorem A_fault (p : Int32) : A1 (FX11_fault_0 p) (FX12_fault_146 p) := by
  intro v w h
  obtain ⟨a, b, c, d, f, n, h1, h2, h3, h4, h5, h6⟩ := h
  unfold FX11_fault_0 FX12_fault_146
  rw [h5, h6]
  by_cases c0 : p = 0
  · subst c0; exact ⟨_, rfl, rfl⟩
  · by_cases c1 : p = 1
    · subst c1; exact ⟨_, rfl, rfl⟩
    · refine ⟨-1, ?_, ?_⟩
      · simp only [if_neg c0, if_neg c1]
      · simp only [if_neg c0, if_neg c1]

