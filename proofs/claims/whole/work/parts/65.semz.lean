/-! left, hears, last -/
def lvB (W : Wt) (x : Int32) : Bool := decide (∀ i, i < nt (W 88) → ¬ x * W (270 + 3 * i) < W (270 + 3 * i + 1) ∧ (W (270 + 3 * i + 2) = 0 ∨ W (270 + 3 * i + 2) = x))
theorem lv_iff {W : Wt} {x : Int32} : (lvB W x = true) = (∀ i, i < nt (W 88) → ¬ x * W (270 + 3 * i) < W (270 + 3 * i + 1) ∧ (W (270 + 3 * i + 2) = 0 ∨ W (270 + 3 * i + 2) = x)) := by unfold lvB; rw [decide_eq_true_eq]
theorem c_lv {b : Nat} {u : Mem} {W : Wt} (hC : CR b u W) (hT : OkT W) (x : Int32) : FX8_couldBeOf_19 x u = some (if lvB W x = true then 1 else 0) := by
  obtain ⟨hn0, hn10⟩ := OkT_sn hT
  have hn : u 19 3 = nI (nt (W 88)) := (TR_sl hC.1).trans hn0
  have h := lp_r (S := Unit) (fun F i _ => FX8_couldBeOf_19_L2 F x i u) (nt (W 88)) (fun i _ => ∀ m, m < i → ¬ x * W (270 + 3 * m) < W (270 + 3 * m + 1) ∧ (W (270 + 3 * m + 2) = 0 ∨ W (270 + 3 * m + 2) = x)) (fun o => o = some (if lvB W x = true then 1 else 0)) (fun i s hi hI => ?_) (fun s hI F => ?_) FU 0 () (by omega) (by show _ < 10000; omega) (fun m hm => by omega)
  · rw [nI_0] at h; exact h
  · have start : ∀ F, FX8_couldBeOf_19_L2 (F + 1) x (nI i) u = (if x * W (270 + 3 * i) < W (270 + 3 * i + 1) then some 0 else if W (270 + 3 * i + 2) = 0 then FX8_couldBeOf_19_L2 F x (nI (i + 1)) u else if W (270 + 3 * i + 2) = x then FX8_couldBeOf_19_L2 F x (nI (i + 1)) u else some 0) := by
      intro F
      show FX8_couldBeOf_19_b2 _ _ _ _ = _
      unfold FX8_couldBeOf_19_b2 FX8_couldBeOf_19_b54
      rw [hn, if_neg (nle hi (by omega)), if_neg (by rw [li_le (by decide) (by omega)]; show ¬ 10 ≤ i; omega), rb (by omega) (by omega), rb (by omega) (by omega), rb (by omega) (by omega), rb (by omega) (by omega), show u 20 i = _ from TR_sd hC.1 i hi, show u 21 i = _ from TR_sc hC.1 i hi, show u 22 i = _ from TR_sg hC.1 i hi, nI_1]
    by_cases c1 : x * W (270 + 3 * i) < W (270 + 3 * i + 1)
    · refine Or.inr (fun F => ?_)
      rw [start, if_pos c1, if_neg]
      rw [lv_iff]
      exact fun h => (h i hi).1 c1
    · by_cases c2 : W (270 + 3 * i + 2) = 0 ∨ W (270 + 3 * i + 2) = x
      · refine Or.inl ⟨(), fun m hm => ?_, fun F => ?_⟩
        · by_cases e : m = i
          · subst e; exact ⟨c1, c2⟩
          · exact hI m (by omega)
        · rw [start, if_neg c1]
          rcases c2 with c2 | c2
          · rw [if_pos c2]
          · rw [if_pos c2, ite_self]
      · refine Or.inr (fun F => ?_)
        rw [start, if_neg c1, if_neg (fun e => c2 (Or.inl e)), if_neg (fun e => c2 (Or.inr e)), if_neg]
        rw [lv_iff]
        exact fun h => c2 (h i hi).2
  · show FX8_couldBeOf_19_b2 _ _ _ _ = _
    unfold FX8_couldBeOf_19_b2
    rw [hn, if_pos (yle (by omega)), if_pos]
    rw [lv_iff]
    exact fun i hi => hI i hi
theorem m_lv {u : Mem} {W : Wt} (hu : u 147 = W) (hT : OkT W) {m : Nat} (hm : m < 12) : FX12_couldLeave_146 (nI m) u = some (if lvB W (W (114 + m)) = true then 1 else 0) := by
  obtain ⟨hn0, hn10⟩ := OkT_sn hT
  have hn : u 147 88 = nI (nt (W 88)) := by rw [hu]; exact hn0
  have h := lp_r (S := Unit) (fun F i _ => FX12_couldLeave_146_L2 F (nI m) i u) (nt (W 88)) (fun i _ => ∀ k, k < i → ¬ W (114 + m) * W (270 + 3 * k) < W (270 + 3 * k + 1) ∧ (W (270 + 3 * k + 2) = 0 ∨ W (270 + 3 * k + 2) = W (114 + m))) (fun o => o = some (if lvB W (W (114 + m)) = true then 1 else 0)) (fun i s hi hI => ?_) (fun s hI F => ?_) FU 0 () (by omega) (by show _ < 10000; omega) (fun m hm => by omega)
  · rw [nI_0] at h; exact h
  · obtain ⟨j, hj, ej⟩ := OkT_sg hT i hi
    have start : ∀ F, FX12_couldLeave_146_L2 (F + 1) (nI m) (nI i) u = (if W (114 + m) * W (270 + 3 * i) < W (270 + 3 * i + 1) then some 0 else if W (270 + 3 * i + 2) ≤ 0 then FX12_couldLeave_146_L2 F (nI m) (nI (i + 1)) u else if W (270 + 3 * i + 2) = W (114 + m) then FX12_couldLeave_146_L2 F (nI m) (nI (i + 1)) u else some 0) := by
      intro F
      show FX12_couldLeave_146_b2 _ _ _ _ = _
      unfold FX12_couldLeave_146_b2 FX12_couldLeave_146_b81
      rw [hn, if_neg (nle hi (by omega)), ix3, nI_1, show nI ((OfNat.ofNat 270 : Nat) + 3 * i) + 2 = nI (270 + 3 * i + 2) from nI_add _ 2, rb (by show 270 + 3 * i + 1 < _; omega) (by omega), rl (by show 114 + m < _; omega) (by omega), rb (by show 270 + 3 * i < _; omega) (by omega), rb (by omega) (by omega), rb (by omega) (by omega), rl (by show 114 + m < _; omega) (by omega), hu, nI_1]
    have e0 : (W (270 + 3 * i + 2) ≤ 0) = (W (270 + 3 * i + 2) = 0) := by
      rw [ej]
      by_cases z : j = 0
      · subst z; apply propext; exact ⟨fun _ => rfl, fun _ => by decide⟩
      · apply propext
        exact ⟨fun h => absurd h (nI_nle (by omega) (by omega)), fun h => absurd h (nI_ne0 (by omega) (by omega))⟩
    by_cases c1 : W (114 + m) * W (270 + 3 * i) < W (270 + 3 * i + 1)
    · refine Or.inr (fun F => ?_)
      rw [start, if_pos c1, if_neg]
      rw [lv_iff]
      exact fun h => (h i hi).1 c1
    · by_cases c2 : W (270 + 3 * i + 2) = 0 ∨ W (270 + 3 * i + 2) = W (114 + m)
      · refine Or.inl ⟨(), fun m hm => ?_, fun F => ?_⟩
        · by_cases e : m = i
          · subst e; exact ⟨c1, c2⟩
          · exact hI m (by omega)
        · rw [start, if_neg c1]
          rcases c2 with c2 | c2
          · rw [if_pos (by rw [e0]; exact c2)]
          · rw [if_pos c2, ite_self]
      · refine Or.inr (fun F => ?_)
        rw [start, if_neg c1, if_neg (fun e => c2 (Or.inl (by rw [e0] at e; exact e))), if_neg (fun e => c2 (Or.inr e)), if_neg]
        rw [lv_iff]
        exact fun h => c2 (h i hi).2
  · show FX12_couldLeave_146_b2 _ _ _ _ = _
    unfold FX12_couldLeave_146_b2
    rw [hn, if_pos (yle (by omega)), if_pos]
    rw [lv_iff]
    exact fun i hi => hI i hi
def sLeft (W : Wt) : Int32 := fo (nmen W) (fun m s => s ||| if lvB W (W (114 + m)) = true then 1 <<< (nI m &&& 31) else 0) 0
theorem c_left {b : Nat} {u : Mem} {W : Wt} (hC : CR b u W) (hT : OkT W) : FX9_couldHaveLeft_1 u = some (sLeft W) := by
  obtain ⟨hn, hn12⟩ := OkT_n hT
  refine lp_v (fun F i s => FX9_couldHaveLeft_1_L4 F s i u) (nmen W) (fun i => fo i (fun m s => s ||| if lvB W (W (114 + m)) = true then 1 <<< (nI m &&& 31) else 0) 0) _ (fun i F hi => ?_) (fun F => ?_) FU (by show _ < 10000; omega)
  · show FX9_couldHaveLeft_1_b4 _ _ _ _ = _
    unfold FX9_couldHaveLeft_1_b4 FX9_couldHaveLeft_1_b42
    rw [if_neg (n12 (by omega)), gmen hC, hn, if_neg (nle hi (by omega)), rb (by omega) (by omega), gle hC (by omega), c_lv hC hT, b_some, fo_s, nI_1]
    by_cases c1 : lvB W (W (114 + i)) = true
    · rw [if_pos c1, if_neg z1, if_pos c1]
    · rw [if_neg c1, if_pos rfl, if_neg c1]
  · show FX9_couldHaveLeft_1_b4 _ _ _ _ = _
    unfold FX9_couldHaveLeft_1_b4 FX9_couldHaveLeft_1_b50
    rw [gmen hC, hn, two_ends _ _ (yle (by omega))]
    rfl
theorem m_left {u : Mem} {W : Wt} (hu : u 147 = W) (hT : OkT W) : FX12_left_146 u = some (sLeft W) := by
  obtain ⟨hn, hn12⟩ := OkT_n hT
  refine lp_v (fun F i s => FX12_left_146_L4 F s i u) (nmen W) (fun i => fo i (fun m s => s ||| if lvB W (W (114 + m)) = true then 1 <<< (nI m &&& 31) else 0) 0) _ (fun i F hi => ?_) (fun F => ?_) FU (by show _ < 10000; omega)
  · show FX12_left_146_b4 _ _ _ _ = _
    unfold FX12_left_146_b4 FX12_left_146_b31
    rw [hu, hn, if_neg (nle hi (by omega)), m_lv hu hT (by omega), b_some, fo_s, nI_1]
    by_cases c1 : lvB W (W (114 + i)) = true
    · rw [if_pos c1, if_neg z1, if_pos c1]
    · rw [if_neg c1, if_pos rfl, if_neg c1]
  · show FX12_left_146_b4 _ _ _ _ = _
    unfold FX12_left_146_b4
    rw [hu, hn, if_pos (yle (by omega))]
    rfl
theorem A_left : A1 FX11_left_0 FX12_left_146 := by
  intro v w h
  obtain ⟨a, b, -⟩ := h
  unfold FX11_left_0
  rw [c_left b.1 a.1, m_left rfl a.1, b_some]
  exact ⟨_, rfl, rfl⟩
/-! hears -/
def sKnw (W : Wt) (f : Nat) : Int32 := fo (nmen W) (fun m s => s ||| if tb (W (16 + m)) f = true then 1 <<< (nI m &&& 31) else 0) 0
def sHr1 (W : Wt) (s : Int32) : Int32 := fo (nmen W) (fun m s => s ||| if tb s m = true then sTold W (nI m) else 0) s
def sHr (W : Wt) (f : Nat) : Int32 := fo 12 (fun _ s => sHr1 W s) (sKnw W f)
theorem c_knw {u : Mem} {W : Wt} (hC : CR 23 u W) (hT : OkT W) {f : Nat} (hf : f < 8) : FX7_knowers_106 (nI f) u = some (sKnw W f) := by
  obtain ⟨hn, hn12⟩ := OkT_n hT
  refine lp_v (fun F i s => FX7_knowers_106_L4 F (nI f) s i u) (nmen W) (fun i => fo i (fun m s => s ||| if tb (W (16 + m)) f = true then 1 <<< (nI m &&& 31) else 0) 0) _ (fun i F hi => ?_) (fun F => ?_) FU (by show _ < 10000; omega)
  · show FX7_knowers_106_b4 _ _ _ _ _ = _
    unfold FX7_knowers_106_b4 FX7_knowers_106_b45
    rw [if_neg (n12 (by omega)), gmen hC, hn, if_neg (nle hi (by omega)), rb (by omega) (by omega), gkn_23 hC (by omega), holds_b _ (by omega), b_some, fo_s, nI_1]
    by_cases c1 : tb (W (16 + i)) f = true
    · rw [if_pos c1, if_neg z1, if_pos c1]
    · rw [if_neg c1, if_pos rfl, if_neg c1]
  · show FX7_knowers_106_b4 _ _ _ _ _ = _
    unfold FX7_knowers_106_b4 FX7_knowers_106_b53
    rw [gmen hC, hn, two_ends _ _ (yle (by omega))]
    rfl
theorem shl0 {k : Nat} (hk : k < 32) : (0 : Int32) <<< (nI k &&& 31) = 0 := by
  have : ∀ k, k < 32 → (0 : Int32) <<< (nI k &&& 31) = 0 := by decide +kernel
  exact this k hk
theorem m_knw {u : Mem} {W : Wt} (hu : u 147 = W) (hT : OkT W) {f : Nat} (hf : f < 8) : FX12_knowers_146 (nI f) u = some (sKnw W f) := by
  obtain ⟨hn, hn12⟩ := OkT_n hT
  refine lp_v (fun F i s => FX12_knowers_146_L4 F (nI f) s i u) (nmen W) (fun i => fo i (fun m s => s ||| if tb (W (16 + m)) f = true then 1 <<< (nI m &&& 31) else 0) 0) _ (fun i F hi => ?_) (fun F => ?_) FU (by show _ < 10000; omega)
  · show FX12_knowers_146_b4 _ _ _ _ _ = _
    unfold FX12_knowers_146_b4
    rw [hu, hn, if_neg (nle hi (by omega)), rl (by show 16 + i < _; omega) (by omega), hu, fo_s, nI_1]
    show FX12_knowers_146_L4 F (nI f) (_ ||| (((W (16 + i) >>> (nI f &&& 31)) &&& 1) <<< (nI i &&& 31))) _ u = _
    rw [bit1 _ (by omega)]
    by_cases c1 : tb (W (16 + i)) f = true
    · rw [if_pos c1, if_pos c1]
    · rw [if_neg c1, if_neg c1, shl0 (by omega)]
  · show FX12_knowers_146_b4 _ _ _ _ _ = _
    unfold FX12_knowers_146_b4
    rw [hu, hn, if_pos (yle (by omega))]
    rfl
theorem c_hr {u : Mem} {W : Wt} (hC : CR 23 u W) (hT : OkT W) {f : Nat} (hf : f < 8) : FX7_hearers_106 (nI f) u = some (sHr W f) := by
  obtain ⟨hn, hn12⟩ := OkT_n hT
  unfold FX7_hearers_106
  rw [c_knw hC hT hf, b_some]
  have inner : ∀ (k8 : Int32 → Int32 → Mem → Option Int32) (s t : Int32), FX7_hearers_106_L17 k8 FU s t 0 u = k8 (sHr1 W s) (t + 1) u := by
    intro k8 s t
    refine lp_v (fun F i s => FX7_hearers_106_L17 k8 F s t i u) (nmen W) (fun i => fo i (fun m s => s ||| if tb s m = true then sTold W (nI m) else 0) s) _ (fun i F hi => ?_) (fun F => ?_) FU (by show _ < 10000; omega)
    · show FX7_hearers_106_b17 _ _ _ _ _ _ = _
      unfold FX7_hearers_106_b17 FX7_hearers_106_b60
      rw [if_neg (n12 (by omega)), gmen hC, hn, if_neg (nle hi (by omega)), holds_b _ (by omega), b_some, rb (by omega) (by omega), gte hC (by omega), fo_s, nI_1]
      by_cases c1 : tb (fo i (fun m s => s ||| if tb s m = true then sTold W (nI m) else 0) s) i = true
      · rw [if_pos c1, if_neg z1, if_pos c1]
      · rw [if_neg c1, if_pos rfl, if_neg c1]
    · show FX7_hearers_106_b17 _ _ _ _ _ _ = _
      unfold FX7_hearers_106_b17 FX7_hearers_106_b68
      rw [gmen hC, hn, two_ends _ _ (yle (by omega))]
      rfl
  refine lp_v (fun F i s => FX7_hearers_106_L8 F s i u) 12 (fun i => fo i (fun _ s => sHr1 W s) (sKnw W f)) _ (fun i F hi => ?_) (fun F => ?_) FU (by decide)
  · show FX7_hearers_106_b8 _ _ _ _ = _
    unfold FX7_hearers_106_b8
    rw [if_neg (n12 hi), inner, nI_1]
    rfl
  · show FX7_hearers_106_b8 _ _ _ _ = _
    unfold FX7_hearers_106_b8
    rw [if_pos (by decide)]
    rfl
theorem A_hears (p : Int32) : A1 (FX11_hears_0 p) (FX12_hears_146 p) := by
  intro v w h
  obtain ⟨a, b, -⟩ := h
  obtain ⟨hn, hn12⟩ := OkT_n a.1
  unfold FX11_hears_0 FX12_hears_146
  rw [c_fa, m_in, b_some, b_some]
  by_cases c : 0 ≤ p ∧ p ≤ 7
  · rw [if_pos c, if_neg z1, if_neg z1]
    rw [in7] at c
    obtain ⟨f, hf, rfl⟩ := c
    rw [c_hr b.1 a.1 (show f < 8 by omega), b_some, m_knw rfl a.1 (show f < 8 by omega), b_some]
    have inner : ∀ (k8 : Int32 → Int32 → Mem → Option Int32) (s t : Int32), FX12_hears_146_L29 k8 FU s t 0 w = k8 (sHr1 (w 147) s) (t + 1) w := by
      intro k8 s t
      refine lp_v (fun F i s => FX12_hears_146_L29 k8 F s t i w) (nmen (w 147)) (fun i => fo i (fun m s => s ||| if tb s m = true then sTold (w 147) (nI m) else 0) s) _ (fun i F hi => ?_) (fun F => ?_) FU (by show _ < 10000; omega)
      · show FX12_hears_146_b29 _ _ _ _ _ _ = _
        unfold FX12_hears_146_b29 FX12_hears_146_b62
        rw [hn, if_neg (nle hi (by omega)), m_told rfl a.1, b_some, fo_s, nI_1]
        by_cases c1 : tb (fo i (fun m s => s ||| if tb s m = true then sTold (w 147) (nI m) else 0) s) i = true
        · rw [if_pos (show ((fo i (fun m s => s ||| if tb s m = true then sTold (w 147) (nI m) else 0) s >>> (nI i &&& 31)) &&& 1) = 1 by rw [bit_1 _ (by omega)]; exact c1), if_pos c1]
        · rw [if_neg (show ¬ ((fo i (fun m s => s ||| if tb s m = true then sTold (w 147) (nI m) else 0) s >>> (nI i &&& 31)) &&& 1) = 1 by rw [bit_1 _ (by omega)]; exact c1), if_neg c1]
      · show FX12_hears_146_b29 _ _ _ _ _ _ = _
        unfold FX12_hears_146_b29
        rw [hn, if_pos (yle (by omega))]
        rfl
    refine ⟨_, rfl, ?_⟩
    refine lp_v (fun F i s => FX12_hears_146_L20 F s i w) 12 (fun i => fo i (fun _ s => sHr1 (w 147) s) (sKnw (w 147) f)) _ (fun i F hi => ?_) (fun F => ?_) FU (by decide)
    · show FX12_hears_146_b20 _ _ _ _ = _
      unfold FX12_hears_146_b20
      rw [if_neg (n12 hi), inner, nI_1]
      rfl
    · show FX12_hears_146_b20 _ _ _ _ = _
      unfold FX12_hears_146_b20
      rw [if_pos (by decide)]
      rfl
  · rw [if_neg c, if_pos rfl, if_pos rfl]
    exact ⟨_, rfl, rfl⟩
/-! last -/
def lsB (W : Wt) (i : Nat) (b : Int32) : Bool := decide (b = -1 ∨ pc (W (16 + nt b)) < pc (W (16 + i)) ∨ (pc (W (16 + i)) = pc (W (16 + nt b)) ∧ W (102 + nt b) < W (102 + i)))
def lst (W : Wt) : Nat → Int32
  | 0 => -1
  | i + 1 => if lsB W i (lst W i) = true then nI i else lst W i
theorem lst_ok (W : Wt) : ∀ i, lst W i = -1 ∨ ∃ k, k < i ∧ lst W i = nI k
  | 0 => Or.inl rfl
  | i + 1 => by
    unfold lst; split
    · exact Or.inr ⟨i, by omega, rfl⟩
    · rcases lst_ok W i with e | ⟨k, hk, e⟩
      · exact Or.inl e
      · exact Or.inr ⟨k, by omega, e⟩
theorem A_last : A1 FX11_last_0 FX12_last_146 := by
  intro v w h
  obtain ⟨a, b, -⟩ := h
  obtain ⟨hn, hn12⟩ := OkT_n a.1
  have key : ∀ i, lst (w 147) (i + 1) = if lsB (w 147) i (lst (w 147) i) = true then nI i else lst (w 147) i := fun i => rfl
  refine ⟨lst (w 147) (nmen (w 147)), ?_, ?_⟩
  · unfold FX11_last_0
    have e : FX7_lastToRemember_106 v = some (lst (w 147) (nmen (w 147))) := by
      refine lp_v (S := Int32 × Int32) (fun F i s => FX7_lastToRemember_106_L6 F s.1 s.2 i v) (nmen (w 147)) (fun i => (lst (w 147) i, if lst (w 147) i = -1 then -1 else nI (pc (w 147 (16 + nt (lst (w 147) i)))))) _ (fun i F hi => ?_) (fun F => ?_) FU (by show _ < 10000; omega)
      · have hi12 : i < 12 := by omega
        show FX7_lastToRemember_106_b6 _ _ _ _ _ = FX7_lastToRemember_106_L6 F (lst (w 147) (i + 1)) (if lst (w 147) (i + 1) = -1 then -1 else nI (pc (w 147 (16 + nt (lst (w 147) (i + 1)))))) (nI (i + 1)) v
        have pi := pc_le (w 147 (16 + i))
        have yes : lsB (w 147) i (lst (w 147) i) = true → FX7_lastToRemember_106_L6 F (lst (w 147) (i + 1)) (if lst (w 147) (i + 1) = -1 then -1 else nI (pc (w 147 (16 + nt (lst (w 147) (i + 1)))))) (nI (i + 1)) v = FX7_lastToRemember_106_L6 F (nI i) (nI (pc (w 147 (16 + i)))) (nI (i + 1)) v := fun c => by
          rw [key, if_pos c, if_neg (nI_m1 (by omega)), nt_nI (by omega)]
        have no : ¬ lsB (w 147) i (lst (w 147) i) = true → FX7_lastToRemember_106_L6 F (lst (w 147) (i + 1)) (if lst (w 147) (i + 1) = -1 then -1 else nI (pc (w 147 (16 + nt (lst (w 147) (i + 1)))))) (nI (i + 1)) v = FX7_lastToRemember_106_L6 F (lst (w 147) i) (if lst (w 147) i = -1 then -1 else nI (pc (w 147 (16 + nt (lst (w 147) i))))) (nI (i + 1)) v := fun c => by
          rw [key, if_neg c]
        unfold FX7_lastToRemember_106_b6 FX7_lastToRemember_106_b68 FX7_lastToRemember_106_b87 FX7_lastToRemember_106_b92
        rw [if_neg (n12 hi12), gmen b.1, hn, if_neg (nle hi (by omega)), rb hi12 (by omega), gkn_23 b.1 hi12, bc_kn a.2.1 hi12, b_some, nI_1]
        rcases lst_ok (w 147) i with e | ⟨k, hk, e⟩
        · rw [yes (by unfold lsB; rw [decide_eq_true_eq]; exact Or.inl e)]
          show (if lst (w 147) i = -1 then _ else _) = _
          dsimp only
          rw [e, if_pos rfl, if_pos rfl, if_pos]
          rw [Int32.lt_iff_toInt_lt, nI_toInt (by omega)]
          have h2 : (-1 : Int32).toInt = -1 := by decide
          omega
        · have pk := pc_le (w 147 (16 + k))
          have nk : nt (nI k) = k := nt_nI (by omega)
          dsimp only
          rw [e] at yes no ⊢
          rw [nk] at no ⊢
          rw [if_neg (nI_m1 (by omega)), if_neg (nI_m1 (by omega)), rb hi12 (by omega), rb (show k < 12 by omega) (by omega), gag b.1 hi12, gag b.1 (show k < 12 by omega)]
          rw [if_neg (nI_m1 (by omega))] at no
          by_cases c4 : pc (w 147 (16 + k)) < pc (w 147 (16 + i))
          · rw [yes (by unfold lsB; rw [decide_eq_true_eq, nk]; exact Or.inr (Or.inl c4))]
            have q : nI (pc (w 147 (16 + k))) < nI (pc (w 147 (16 + i))) := by rw [nn_lt (by omega) (by omega)]; exact c4
            simp only [if_pos q, ite_self]
          · have q : ¬ nI (pc (w 147 (16 + k))) < nI (pc (w 147 (16 + i))) := by rw [nn_lt (by omega) (by omega)]; exact c4
            by_cases c5 : pc (w 147 (16 + i)) = pc (w 147 (16 + k))
            · have q5 : nI (pc (w 147 (16 + i))) = nI (pc (w 147 (16 + k))) := by rw [c5]
              by_cases c6 : w 147 (102 + k) < w 147 (102 + i)
              · rw [yes (by unfold lsB; rw [decide_eq_true_eq, nk]; exact Or.inr (Or.inr ⟨c5, c6⟩)), if_neg (by rw [Int32.not_le]; exact c6), if_neg q, if_pos q5, if_neg z1]
              · rw [no (by
                  unfold lsB; rw [decide_eq_true_eq, nk]
                  rintro (h | h | ⟨-, h⟩)
                  · exact nI_m1 (by omega) h
                  · exact c4 h
                  · exact c6 h), if_pos (by rw [← Int32.not_lt]; exact c6), if_neg q, if_pos q5, if_pos rfl]
            · have q5 : ¬ nI (pc (w 147 (16 + i))) = nI (pc (w 147 (16 + k))) := by rw [nn_eq (by omega) (by omega)]; exact c5
              rw [no (by
                unfold lsB; rw [decide_eq_true_eq, nk]
                rintro (h | h | ⟨h, -⟩)
                · exact nI_m1 (by omega) h
                · exact c4 h
                · exact c5 h)]
              simp only [if_neg q, if_neg q5, ite_self]
      · show FX7_lastToRemember_106_b6 _ _ _ _ _ = _
        unfold FX7_lastToRemember_106_b6 FX7_lastToRemember_106_b98
        rw [gmen b.1, hn, two_ends _ _ (yle (by omega))]
    rw [e, b_some]
  · refine lp_v (fun F i s => FX12_last_146_L4 F s i w) (nmen (w 147)) (fun i => lst (w 147) i) _ (fun i F hi => ?_) (fun F => ?_) FU (by show _ < 10000; omega)
    · have hi12 : i < 12 := by omega
      have pi := pc_le (w 147 (16 + i))
      have e : FX12_isLaster_146 (nI i) (lst (w 147) i) w = some (if lsB (w 147) i (lst (w 147) i) = true then 1 else 0) := by
        unfold FX12_isLaster_146
        rcases lst_ok (w 147) i with e | ⟨k, hk, e⟩
        · rw [if_pos e, if_pos (by unfold lsB; rw [decide_eq_true_eq]; exact Or.inl e)]
        · have pk := pc_le (w 147 (16 + k))
          have nk : nt (nI k) = k := nt_nI (by omega)
          have p1 := sub_pos (a := pc (w 147 (16 + i))) (b := pc (w 147 (16 + k))) (by omega) (by omega)
          have p2 := sub_zero (a := pc (w 147 (16 + i))) (b := pc (w 147 (16 + k))) (by omega) (by omega)
          rw [e, if_neg (nI_m1 (by omega)), rl (by show 16 + i < _; omega) (by omega), m_count, b_some, rl (by show 16 + k < _; omega) (by omega), m_count, b_some]
          show (if 0 < nI (pc (w 147 (16 + i))) - nI (pc (w 147 (16 + k))) then _ else if nI (pc (w 147 (16 + i))) - nI (pc (w 147 (16 + k))) = 0 then _ else _) = _
          simp only [p1, p2]
          by_cases c4 : pc (w 147 (16 + k)) < pc (w 147 (16 + i))
          · rw [if_pos c4, if_pos (by unfold lsB; rw [decide_eq_true_eq, nk]; exact Or.inr (Or.inl c4))]
          · rw [if_neg c4]
            by_cases c5 : pc (w 147 (16 + i)) = pc (w 147 (16 + k))
            · rw [if_pos c5, rl (by show 102 + i < _; omega) (by omega), rl (by show 102 + k < _; omega) (by omega)]
              show (if w 147 (102 + i) ≤ w 147 (102 + k) then _ else _) = _
              by_cases c6 : w 147 (102 + k) < w 147 (102 + i)
              · rw [if_neg (by rw [Int32.not_le]; exact c6), if_pos (by unfold lsB; rw [decide_eq_true_eq, nk]; exact Or.inr (Or.inr ⟨c5, c6⟩))]
              · rw [if_pos (by rw [← Int32.not_lt]; exact c6), if_neg]
                unfold lsB; rw [decide_eq_true_eq, nk]
                rintro (h | h | ⟨-, h⟩)
                · exact nI_m1 (by omega) h
                · exact c4 h
                · exact c6 h
            · rw [if_neg c5, if_neg]
              unfold lsB; rw [decide_eq_true_eq, nk]
              rintro (h | h | ⟨h, -⟩)
              · exact nI_m1 (by omega) h
              · exact c4 h
              · exact c5 h
      show FX12_last_146_b4 _ _ _ _ = FX12_last_146_L4 F (lst (w 147) (i + 1)) (nI (i + 1)) w
      unfold FX12_last_146_b4 FX12_last_146_b26
      rw [hn, if_neg (nle hi (by omega)), e, b_some, key, nI_1]
      by_cases c : lsB (w 147) i (lst (w 147) i) = true
      · rw [if_pos c, if_neg z1, if_pos c]
      · rw [if_neg c, if_pos rfl, if_neg c]
    · show FX12_last_146_b4 _ _ _ _ = _
      unfold FX12_last_146_b4
      rw [hn, if_pos (yle (by omega))]
