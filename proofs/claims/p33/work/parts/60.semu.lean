/-! what can be undone -/
def be6 (v : Mem) (s d : Nat) : Mem := cpM (cpM (cpM (cpM (cpM (cpM v (s + 1) (d + 1) 12) (s + 2) (d + 2) 12) (s + 3) (d + 3) 12) (s + 4) (d + 4) 12) (s + 5) (d + 5) 12) (s + 6) (d + 6) 12
def be7 (v : Mem) (s d : Nat) : Mem := mupd (be6 v s d) d 6 (be6 v s d s 6)
def be8 (v : Mem) (s d : Nat) : Mem := mupd (be7 v s d) d 7 (be7 v s d s 7)
def be9 (v : Mem) (s d : Nat) : Mem := mupd (be8 v s d) d 8 (be8 v s d s 8)
def beM (v : Mem) (s d : Nat) : Mem := mupd (be9 v s d) d 9 (be9 v s d s 9)
theorem be6_ne (v : Mem) (s d : Nat) {c : Nat} (h : c ≤ d ∨ d + 6 < c) : be6 v s d c = v c := by
  unfold be6
  rw [cpM_ne _ (by omega), cpM_ne _ (by omega), cpM_ne _ (by omega), cpM_ne _ (by omega), cpM_ne _ (by omega), cpM_ne _ (by omega)]
theorem beM_ne (v : Mem) (s d : Nat) {c : Nat} (h : c < d ∨ d + 6 < c) : beM v s d c = v c := by
  unfold beM be9 be8 be7
  rw [m_ne (by omega), m_ne (by omega), m_ne (by omega), m_ne (by omega), be6_ne v s d (by omega)]
theorem be6_at (v : Mem) {s d : Nat} (h : s + 6 < d ∨ d + 6 < s) {j m : Nat} (hj : j < 6) (hm : m < 12) : be6 v s d (d + 1 + j) m = v (s + 1 + j) m := by
  rcases (by omega : j = 0 ∨ j = 1 ∨ j = 2 ∨ j = 3 ∨ j = 4 ∨ j = 5) with rfl | rfl | rfl | rfl | rfl | rfl
  · show be6 v s d (d + 1) m = v (s + 1) m
    unfold be6
    rw [cpM_ne _ (by omega), cpM_ne _ (by omega), cpM_ne _ (by omega), cpM_ne _ (by omega), cpM_ne _ (by omega), cpM_at, if_pos hm]
  · show be6 v s d (d + 2) m = v (s + 2) m
    unfold be6
    rw [cpM_ne _ (by omega), cpM_ne _ (by omega), cpM_ne _ (by omega), cpM_ne _ (by omega), cpM_at, if_pos hm, cpM_ne _ (by omega)]
  · show be6 v s d (d + 3) m = v (s + 3) m
    unfold be6
    rw [cpM_ne _ (by omega), cpM_ne _ (by omega), cpM_ne _ (by omega), cpM_at, if_pos hm, cpM_ne _ (by omega), cpM_ne _ (by omega)]
  · show be6 v s d (d + 4) m = v (s + 4) m
    unfold be6
    rw [cpM_ne _ (by omega), cpM_ne _ (by omega), cpM_at, if_pos hm, cpM_ne _ (by omega), cpM_ne _ (by omega), cpM_ne _ (by omega)]
  · show be6 v s d (d + 5) m = v (s + 5) m
    unfold be6
    rw [cpM_ne _ (by omega), cpM_at, if_pos hm, cpM_ne _ (by omega), cpM_ne _ (by omega), cpM_ne _ (by omega), cpM_ne _ (by omega)]
  · show be6 v s d (d + 6) m = v (s + 6) m
    unfold be6
    rw [cpM_at, if_pos hm, cpM_ne _ (by omega), cpM_ne _ (by omega), cpM_ne _ (by omega), cpM_ne _ (by omega), cpM_ne _ (by omega)]
theorem be_BR {v : Mem} {s d : Nat} {W : Wt} (hsd : s + 6 < d ∨ d + 6 < s) (h : BR s v W) : BR d (beM v s d) W := by
  have r7 : be7 v s d s = v s := by unfold be7; rw [m_ne (by omega), be6_ne v s d (by omega)]
  have r8 : be8 v s d s = v s := by unfold be8; rw [m_ne (by omega), r7]
  have r9 : be9 v s d s = v s := by unfold be9; rw [m_ne (by omega), r8]
  refine ⟨?_, ?_, ?_, ?_, fun j m hj hm => ?_⟩
  · unfold beM be9 be8 be7
    rw [m_eq, up_ne (by omega), m_eq, up_ne (by omega), m_eq, up_ne (by omega), m_eq, up_eq, be6_ne v s d (by omega)]; exact BR_war h
  · unfold beM be9 be8
    rw [m_eq, up_ne (by omega), m_eq, up_ne (by omega), m_eq, up_eq, r7]; exact BR_day h
  · unfold beM be9
    rw [m_eq, up_ne (by omega), m_eq, up_eq, r8]; exact BR_dr h
  · unfold beM
    rw [m_eq, up_eq, r9]; exact BR_ln h
  · unfold beM be9 be8 be7
    rw [m_ne (by omega), m_ne (by omega), m_ne (by omega), m_ne (by omega), be6_at v hsd hj hm]
    exact BR_ar h j m hj hm
theorem bec_54 {v : Mem} {W : Wt} (h : BR 23 v W) : ∃ v', FX0_become_54_23 v = some v' ∧ (∀ c, c < 54 ∨ 60 < c → v' c = v c) ∧ BR 54 v' W :=
  ⟨beM v 23 54, rfl, fun c hc => beM_ne v 23 54 hc, be_BR (by omega) h⟩
theorem bck_54 {v : Mem} {W : Wt} (h : BR 54 v W) : ∃ v', FX0_become_23_54 v = some v' ∧ (∀ c, c < 23 ∨ 29 < c → v' c = v c) ∧ BR 23 v' W :=
  ⟨beM v 54 23, rfl, fun c hc => beM_ne v 54 23 hc, be_BR (by omega) h⟩
theorem bec_61 {v : Mem} {W : Wt} (h : BR 23 v W) : ∃ v', FX0_become_61_23 v = some v' ∧ (∀ c, c < 61 ∨ 67 < c → v' c = v c) ∧ BR 61 v' W :=
  ⟨beM v 23 61, rfl, fun c hc => beM_ne v 23 61 hc, be_BR (by omega) h⟩
theorem bck_61 {v : Mem} {W : Wt} (h : BR 61 v W) : ∃ v', FX0_become_23_61 v = some v' ∧ (∀ c, c < 23 ∨ 29 < c → v' c = v c) ∧ BR 23 v' W :=
  ⟨beM v 61 23, rfl, fun c hc => beM_ne v 61 23 hc, be_BR (by omega) h⟩
theorem bec_68 {v : Mem} {W : Wt} (h : BR 23 v W) : ∃ v', FX0_become_68_23 v = some v' ∧ (∀ c, c < 68 ∨ 74 < c → v' c = v c) ∧ BR 68 v' W :=
  ⟨beM v 23 68, rfl, fun c hc => beM_ne v 23 68 hc, be_BR (by omega) h⟩
theorem bck_68 {v : Mem} {W : Wt} (h : BR 68 v W) : ∃ v', FX0_become_23_68 v = some v' ∧ (∀ c, c < 23 ∨ 29 < c → v' c = v c) ∧ BR 23 v' W :=
  ⟨beM v 68 23, rfl, fun c hc => beM_ne v 68 23 hc, be_BR (by omega) h⟩
theorem bec_75 {v : Mem} {W : Wt} (h : BR 23 v W) : ∃ v', FX0_become_75_23 v = some v' ∧ (∀ c, c < 75 ∨ 81 < c → v' c = v c) ∧ BR 75 v' W :=
  ⟨beM v 23 75, rfl, fun c hc => beM_ne v 23 75 hc, be_BR (by omega) h⟩
theorem bck_75 {v : Mem} {W : Wt} (h : BR 75 v W) : ∃ v', FX0_become_23_75 v = some v' ∧ (∀ c, c < 23 ∨ 29 < c → v' c = v c) ∧ BR 23 v' W :=
  ⟨beM v 75 23, rfl, fun c hc => beM_ne v 75 23 hc, be_BR (by omega) h⟩
theorem bec_82 {v : Mem} {W : Wt} (h : BR 23 v W) : ∃ v', FX0_become_82_23 v = some v' ∧ (∀ c, c < 82 ∨ 88 < c → v' c = v c) ∧ BR 82 v' W :=
  ⟨beM v 23 82, rfl, fun c hc => beM_ne v 23 82 hc, be_BR (by omega) h⟩
theorem bck_82 {v : Mem} {W : Wt} (h : BR 82 v W) : ∃ v', FX0_become_23_82 v = some v' ∧ (∀ c, c < 23 ∨ 29 < c → v' c = v c) ∧ BR 23 v' W :=
  ⟨beM v 82 23, rfl, fun c hc => beM_ne v 82 23 hc, be_BR (by omega) h⟩
theorem bec_89 {v : Mem} {W : Wt} (h : BR 23 v W) : ∃ v', FX0_become_89_23 v = some v' ∧ (∀ c, c < 89 ∨ 95 < c → v' c = v c) ∧ BR 89 v' W :=
  ⟨beM v 23 89, rfl, fun c hc => beM_ne v 23 89 hc, be_BR (by omega) h⟩
theorem bck_89 {v : Mem} {W : Wt} (h : BR 89 v W) : ∃ v', FX0_become_23_89 v = some v' ∧ (∀ c, c < 23 ∨ 29 < c → v' c = v c) ∧ BR 23 v' W :=
  ⟨beM v 89 23, rfl, fun c hc => beM_ne v 89 23 hc, be_BR (by omega) h⟩
theorem rm6 {x : Int32} {β : Type} (f : Int32 → Option β) : (rmI x 6).bind f = f (x - x / 6 * 6) := by
  unfold rmI; rw [if_neg (by decide), b_some]
theorem md6 : ∀ x, x < 12 → nI x - nI x / 6 * 6 = nI (x % 6) := by decide +kernel
theorem mn6 {n : Nat} (h : n ≤ 6) : (if nI n + 1 < 6 then nI n + 1 else 6) = nI (min 6 (n + 1)) := by
  have : ∀ n, n ≤ 6 → (if nI n + 1 < 6 then nI n + 1 else 6) = nI (min 6 (n + 1)) := by decide +kernel
  exact this n h
theorem c_rem {v : Mem} {W : Wt} {n x : Nat} (h : BR 23 v W) (hn : n ≤ 6) (hx : x < 6) (h2 : v 52 2 = nI n) (h1 : v 52 1 = nI x) : ∃ v', FX10_remember_52_23 v = some v' ∧ (∀ c, c ≠ 52 → (c < 54 + 7 * x ∨ 60 + 7 * x < c) → v' c = v c) ∧ BR (54 + 7 * x) v' W ∧ v' 52 1 = nI ((x + 1) % 6) ∧ v' 52 2 = nI (min 6 (n + 1)) := by
  have fin : ∀ (b : Nat) (v1 : Mem), b = 54 + 7 * x → (∀ c, c < b ∨ b + 6 < c → v1 c = v c) → BR b v1 W → ∃ v', ((rmI ((v1 52 1) + 1) 6).bind fun x6 => (some (mupd v1 52 1 x6)).bind fun u7 => (some (mupd u7 52 2 (if ((u7 52 2) + 1) < 6 then ((u7 52 2) + 1) else 6))).bind fun u8 => some u8) = some v' ∧ (∀ c, c ≠ 52 → (c < 54 + 7 * x ∨ 60 + 7 * x < c) → v' c = v c) ∧ BR (54 + 7 * x) v' W ∧ v' 52 1 = nI ((x + 1) % 6) ∧ v' 52 2 = nI (min 6 (n + 1)) := by
    intro b v1 hb hc hB
    subst hb
    have e52 : v1 52 = v 52 := hc 52 (by omega)
    rw [e52, h1, nI_1, rm6, md6 (x + 1) (by omega), b_some, b_some, m_eq, up_ne (by omega), e52, h2, mn6 hn]
    refine ⟨_, rfl, fun c h3 h4 => by rw [m_ne h3, m_ne h3]; exact hc c (by omega), BR_cg hB (fun j hj => by rw [m_ne (by omega), m_ne (by omega)]), by rw [m_eq, up_ne (by omega), m_eq, up_eq], by rw [m_eq, up_eq]⟩
  unfold FX10_remember_52_23
  rw [h1, if_neg (nI_pos (by omega)), if_neg (by rw [li_le (by decide) (by omega)]; show ¬ 6 ≤ x; omega)]
  rcases (by omega : x = 0 ∨ x = 1 ∨ x = 2 ∨ x = 3 ∨ x = 4 ∨ x = 5) with rfl | rfl | rfl | rfl | rfl | rfl
  · obtain ⟨v1, g1, g2, g3⟩ := bec_54 h
    rw [if_pos (by decide), g1, b_some]
    exact fin 54 v1 rfl g2 g3
  · obtain ⟨v1, g1, g2, g3⟩ := bec_61 h
    rw [if_neg (by decide), if_pos (by decide), g1, b_some]
    exact fin 61 v1 rfl g2 g3
  · obtain ⟨v1, g1, g2, g3⟩ := bec_68 h
    rw [if_neg (by decide), if_neg (by decide), if_pos (by decide), g1, b_some]
    exact fin 68 v1 rfl g2 g3
  · obtain ⟨v1, g1, g2, g3⟩ := bec_75 h
    rw [if_neg (by decide), if_neg (by decide), if_neg (by decide), if_pos (by decide), g1, b_some]
    exact fin 75 v1 rfl g2 g3
  · obtain ⟨v1, g1, g2, g3⟩ := bec_82 h
    rw [if_neg (by decide), if_neg (by decide), if_neg (by decide), if_neg (by decide), if_pos (by decide), g1, b_some]
    exact fin 82 v1 rfl g2 g3
  · obtain ⟨v1, g1, g2, g3⟩ := bec_89 h
    rw [if_neg (by decide), if_neg (by decide), if_neg (by decide), if_neg (by decide), if_neg (by decide), if_pos (by decide), g1, b_some]
    exact fin 89 v1 rfl g2 g3
/-- the model's rows are moved up, and the latest is laid behind them -/
theorem m_lay {w : Mem} {n : Nat} (hn : n < 6) (h4 : w 146 4 = nI n) : ∃ w', FX12_keeps_146_L51 FU 0 w = some w' ∧ w' 146 = upd (w 146) 4 (nI (n + 1)) ∧ FrL [146, 149] w w' ∧ (∀ k, k < 78 → w' 149 (78 * n + k) = w 147 k) ∧ ∀ k, k < 78 * n → w' 149 k = w 149 k := by
  have hh := lp_r (S := Wt) (fun F i P => FX12_keeps_146_L51 F i (mset w 149 P)) 78 (fun i P => (∀ k, k < i → P (78 * n + k) = w 147 k) ∧ ∀ k, k < 78 * n → P k = w 149 k) (fun o => ∃ w', o = some w' ∧ w' 146 = upd (w 146) 4 (nI (n + 1)) ∧ FrL [146, 149] w w' ∧ (∀ k, k < 78 → w' 149 (78 * n + k) = w 147 k) ∧ ∀ k, k < 78 * n → w' 149 k = w 149 k) (fun i P hi hI => ?_) (fun P hI F => ?_) FU 0 (w 149) (by omega) (by decide) ⟨fun k hk => by omega, fun _ _ => rfl⟩
  · rw [ms_self, nI_0] at hh; exact hh
  · refine Or.inl ⟨upd P (78 * n + i) (w 147 i), ⟨fun k hk => ?_, fun k hk => ?_⟩, fun F => ?_⟩
    · by_cases c : k = i
      · subst c; rw [up_eq]
      · rw [up_ne (by omega)]; exact hI.1 k (by omega)
    · rw [up_ne (by omega)]; exact hI.2 k hk
    · show FX12_keeps_146_b51 _ _ _ = _
      unfold FX12_keeps_146_b51
      have e1 : (78 * nI n) + nI i = nI (78 * n + i) := by rw [show (78 : Int32) = nI 78 by decide, nI_mul, nI_add]
      rw [if_neg (by rw [li_le (by decide) (by omega)]; show ¬ 78 ≤ i; omega), rbs (by omega) (by omega) (by decide), ms_ne (by decide), h4, e1, wbs (by omega) (by omega), nI_1]
  · show ∃ w', FX12_keeps_146_b51 _ _ _ = some w' ∧ _
    unfold FX12_keeps_146_b51
    rw [if_pos (by decide), b_some, ms_ne (by decide), h4, nI_1]
    refine ⟨_, rfl, by rw [m_eq, ms_ne (by decide)], fun c hc => ?_, fun k hk => by rw [m_ne (by decide), ms_eq]; exact hI.1 k hk, fun k hk => by rw [m_ne (by decide), ms_eq]; exact hI.2 k hk⟩
    rw [m_ne (by intro e; subst e; simp at hc), ms_ne (by intro e; subst e; simp at hc)]
theorem m_keep {w : Mem} {n : Nat} (hn : n ≤ 6) (h4 : w 146 4 = nI n) : ∃ w', FX12_keeps_146 w = some w' ∧ (∃ y, w' 146 = upd (w 146) 4 y ∧ y = nI (min 6 (n + 1))) ∧ FrL [146, 149] w w' ∧ (∀ k, k < 78 → w' 149 (78 * (min 6 (n + 1) - 1) + k) = w 147 k) ∧ ∀ r, r + 1 < min 6 (n + 1) → ∀ k, k < 78 → w' 149 (78 * r + k) = w 149 (78 * (r + (n + 1 - min 6 (n + 1))) + k) := by
  unfold FX12_keeps_146 FX12_keeps_146_b49
  rw [h4]
  by_cases c : n = 6
  · subst c
    rw [if_pos (by decide)]
    have hh := lp_r (S := Wt) (fun F i P => FX12_keeps_146_L11 F i (mset w 149 P)) 390 (fun i P => (∀ k, k < i → P k = w 149 (k + 78)) ∧ ∀ k, i ≤ k → P k = w 149 k) (fun o => ∃ w1 : Mem, o = FX12_keeps_146_b49 w1 ∧ w1 146 = upd (w 146) 4 (nI 5) ∧ FrL [146, 149] w w1 ∧ ∀ k, k < 390 → w1 149 k = w 149 (k + 78)) (fun i P hi hI => ?_) (fun P hI F => ?_) FU 0 (w 149) (by omega) (by decide) ⟨fun k hk => by omega, fun _ _ => rfl⟩
    · rw [ms_self, nI_0] at hh
      obtain ⟨w1, g1, g2, g3, g4⟩ := hh
      obtain ⟨w2, k1, k2, k3, k4, k5⟩ := m_lay (w := w1) (n := 5) (by omega) (by rw [g2, up_eq])
      unfold FX12_keeps_146_b49 at g1
      rw [g1]
      refine ⟨w2, k1, ⟨nI 6, ?_, rfl⟩, ft g3 k3, fun k hk => ?_, fun r hr k hk => ?_⟩
      · rw [k2, g2]
        funext z
        by_cases hz : z = 4
        · rw [hz, up_eq, up_eq]
        · rw [up_ne hz, up_ne hz, up_ne hz]
      · have := k4 k hk
        rw [g3 147 (by decide)] at this
        exact this
      · have hr : r + 1 < 6 := hr
        rw [k5 _ (by omega), g4 _ (by omega)]
        rw [show 78 * (r + (6 + 1 - min 6 (6 + 1))) + k = 78 * r + k + 78 by omega]
    · refine Or.inl ⟨upd P i (w 149 (i + 78)), ⟨fun k hk => ?_, fun k hk => ?_⟩, fun F => ?_⟩
      · by_cases c : k = i
        · subst c; rw [up_eq]
        · rw [up_ne c]; exact hI.1 k (by omega)
      · rw [up_ne (by omega)]; exact hI.2 k (by omega)
      · show FX12_keeps_146_b11 _ _ _ = _
        unfold FX12_keeps_146_b11
        rw [if_neg (by rw [li_le (by decide) (by omega)]; show ¬ 390 ≤ i; omega), show nI i + 78 = nI (i + 78) from nI_add i 78, rb (by omega) (by omega), ms_eq, hI.2 _ (by omega), wbs (by omega) (by omega), nI_1]
    · show ∃ w1 : Mem, FX12_keeps_146_b11 _ _ _ = FX12_keeps_146_b49 w1 ∧ _
      unfold FX12_keeps_146_b11
      rw [if_pos (by decide), b_some, ms_ne (by decide), h4]
      refine ⟨_, rfl, by rw [m_eq, ms_ne (by decide)]; rfl, fun c hc => ?_, fun k hk => by rw [m_ne (by decide), ms_eq]; exact hI.1 k hk⟩
      rw [m_ne (by intro e; subst e; simp at hc), ms_ne (by intro e; subst e; simp at hc)]
  · rw [if_neg (by rw [eq_li (by decide) (by omega)]; exact c)]
    obtain ⟨w2, k1, k2, k3, k4, k5⟩ := m_lay (w := w) (n := n) (by omega) h4
    have e : min 6 (n + 1) = n + 1 := by omega
    rw [e]
    refine ⟨w2, k1, ⟨_, k2, rfl⟩, k3, fun k hk => k4 k hk, fun r hr k hk => ?_⟩
    rw [k5 _ (by omega), Nat.sub_self, Nat.add_zero]
/-- a step that can be undone begins -/
theorem A_keep {v w : Mem} (h : SP v w) : ∃ v' w', FX10_remember_52_23 v = some v' ∧ FX12_keeps_146 w = some w' ∧ SP v' w' ∧ w' 147 = w 147 ∧ (∀ k, k ≠ 4 → w' 146 k = w 146 k) := by
  obtain ⟨a, b, c, ⟨n, x, hn, hx, u2, u1, u4, ur⟩, f, g⟩ := id h
  obtain ⟨v', e1, e2, e3, e4, e5⟩ := c_rem b.1.2.2 hn hx u2 u1
  obtain ⟨w', k1, ⟨y, k2, ky⟩, k3, k4, k5⟩ := m_keep hn u4
  refine ⟨v', w', e1, k1, ?_, k3 147 (by decide), fun k hk => by rw [k2, up_ne hk]⟩
  have k7 := k3 147 (by decide)
  unfold SP
  rw [k7, k3 148 (by decide), k3 154 (by decide), k2]
  refine ⟨a, XD_cg (fun c hc => e2 c (by omega) (by omega)) b, by rw [e2 104 (by omega) (by omega)]; exact c, ⟨min 6 (n + 1), (x + 1) % 6, by omega, by omega, e5, e4, by rw [up_eq, ky], fun j hj => ?_⟩, IMG_M (up_ne (by omega)) (IMG_cg (fun c hc => e2 c (by omega) (by omega)) f), RD_M (up_ne (by omega)) (up_ne (by omega)) (up_ne (by omega)) (RD_cg (e2 34 (by omega) (by omega)) (e2 35 (by omega) (by omega)) g)⟩
  by_cases j0 : j = 0
  · subst j0
    have es : ((x + 1) % 6 + 5 - 0) % 6 = x := by omega
    rw [es, Nat.sub_zero]
    have er : ∀ k, k < 78 → RW (w 147) (w' 149) (min 6 (n + 1) - 1) k = w 147 k := fun k hk => by
      unfold RW; rw [if_pos hk]; exact k4 k hk
    refine ⟨BR_W er e3, OkD_cg (fun k hk => ?_) a.2.1⟩
    by_cases q : k < 78
    · exact er k q
    · unfold RW; rw [if_neg q]
  · have es : ((x + 1) % 6 + 5 - j) % 6 = (x + 5 - (j - 1)) % 6 := by omega
    have hne : (x + 5 - (j - 1)) % 6 ≠ x := by omega
    rw [es]
    obtain ⟨p, q⟩ := ur (j - 1) (by omega)
    have er : ∀ k, RW (w 147) (w' 149) (min 6 (n + 1) - 1 - j) k = RW (w 147) (w 149) (n - 1 - (j - 1)) k := fun k => by
      unfold RW
      by_cases q : k < 78
      · rw [if_pos q, if_pos q, k5 _ (by omega) k q]
        congr 2; omega
      · rw [if_neg q, if_neg q]
    refine ⟨BR_W (fun k _ => er k) (BR_cg p (fun i hi => e2 _ (by omega) (by omega))), OkD_cg (fun k _ => er k) q⟩
theorem SP_br {v w : Mem} (h : SP v w) {j m : Nat} (hj : j < 6) (hm : m < 12) {x : Int32} (hD : OkD (upd (w 147) (4 + 12 * j + m) x)) : SP (mupd v (23 + 1 + j) m x) (mupd w 147 (4 + 12 * j + m) x) := by
  obtain ⟨a, b, c, d, f, g⟩ := h
  unfold SP
  rw [m_eq w, m_ne (show 146 ≠ 147 by decide), m_ne (show 148 ≠ 147 by decide), m_ne (show 149 ≠ 147 by decide), m_ne (show 154 ≠ 147 by decide)]
  exact ⟨WO_u a (s78_u (by omega)) hD, XR_u32 b a.1 hj hm x, by rw [m_ne (by omega)]; exact c, UN_W (up_ne (by omega)) (UN_cg (fun c hc => m_ne (by omega)) d), IMG_cg (fun c hc => m_ne (by omega)) f, RD_cg (m_ne (by omega)) (m_ne (by omega)) g⟩
theorem A_teach (p q : Int32) : A2 (FX11_teach_0 p q) (FX12_teach_146 p q) := by
  intro v w h
  obtain ⟨a, b, -⟩ := id h
  obtain ⟨hn, hn12⟩ := OkT_n a.1
  unfold FX11_teach_0 FX12_teach_146
  rw [c_fa, m_in, b_some, b_some]
  by_cases c : ∃ m, m < nmen (w 147) ∧ p = nI m
  · obtain ⟨m, hm, rfl⟩ := c
    have hm12 : m < 12 := by omega
    rw [c_has (gmen b.1) a.1 hm, m_isMan rfl a.1 hm, b_some, b_some, if_neg z1, if_neg z1]
    by_cases c2 : 0 ≤ q ∧ q ≤ 7
    · rw [if_pos c2, if_neg z1, if_neg z1]
      rw [in7] at c2
      obtain ⟨i, hi, rfl⟩ := c2
      have ek : FX0_knows_23 (nI m) (nI i) v = some (if tb (w 147 (16 + m)) i = true then 1 else 0) := by
        unfold FX0_knows_23
        rw [if_neg (nI_pos (by omega)), if_neg (n12 hm12), rb hm12 (by omega), gkn_23 b.1 hm12, holds_b _ (by omega), b_some]
        by_cases c3 : tb (w 147 (16 + m)) i = true
        · rw [if_pos c3, if_neg z1]
        · rw [if_neg c3, if_pos rfl]
      rw [ek, b_some, rl (by show 16 + m < _; omega) (by omega)]
      show ∃ r v' w', _ ∧ (if ((w 147 (16 + m) >>> (nI i &&& 31)) &&& 1) = 1 then _ else _) = _ ∧ _
      by_cases c3 : tb (w 147 (16 + m)) i = true
      · rw [if_pos c3, if_neg z1, if_pos (by rw [bit_1 _ (by omega)]; exact c3)]
        exact ⟨0, v, w, rfl, rfl, h⟩
      · rw [if_neg c3, if_pos rfl, if_neg (by rw [bit_1 _ (by omega)]; exact c3)]
        obtain ⟨v1, w1, g1, g2, g3, g4, -⟩ := A_keep h
        rw [g1, b_some, g2, b_some, rb hm12 (by omega), wb hm12 (by omega), gkn_23 g3.2.1.1 hm12, rl (by show 16 + m < _; omega) (by omega), wl (by show 16 + m < _; omega) (by omega)]
        obtain ⟨j, hj, ej⟩ := OkD_kn g3.1.2.1 m hm12
        have eo : ∃ k, k < 256 ∧ w1 147 (16 + m) ||| ((1 : Int32) <<< (nI i &&& 31)) = nI k := by
          have : ∀ i, i < 8 → ∃ k, k < 256 ∧ ((1 : Int32) <<< (nI i &&& 31)) = nI k := by
            intro i hi
            have : ∀ i, i < 8 → ((1 : Int32) <<< (nI i &&& 31)) = nI (2 ^ i) := by decide +kernel
            exact ⟨2 ^ i, Nat.pow_lt_pow_right (by omega) hi, this i hi⟩
          obtain ⟨k, hk, e2⟩ := this i (by omega)
          exact or_n (b := 8) (by omega) hj hk ej e2
        exact ⟨1, _, _, rfl, rfl, SP_br g3 (j := 1) (by omega) hm12 (OkD_ukn g3.1.2.1 hm12 eo)⟩
    · rw [if_neg c2, if_pos rfl, if_pos rfl]
      exact ⟨0, v, w, rfl, rfl, h⟩
  · rw [c_hasN (gmen b.1) a.1 c, m_isManN rfl a.1 c, b_some, b_some, if_pos rfl, if_pos rfl]
    exact ⟨0, v, w, rfl, rfl, h⟩

