/-! telling, fading, the day's end -/
/-- a loop within a loop: what follows is the same for every one that follows -/
theorem lp_k {K S : Type} (L : K → Nat → Int32 → Mem → Option Mem) (n : Nat) (R : Mem → S → Prop) (f : Nat → S → S) (k : K → Mem → Option Mem) (hs : ∀ i u s, i < n → R u s → ∃ u', R u' (f i s) ∧ ∀ q F, L q (F + 1) (nI i) u = L q F (nI (i + 1)) u') (he : ∀ q u s F, R u s → L q (F + 1) (nI n) u = k q u) {F : Nat} {u : Mem} {s : S} (hF : n < F) (hR : R u s) : ∃ u', R u' (fo n f s) ∧ ∀ q, L q F 0 u = k q u' := by
  have h : ∀ (m F i : Nat) (u : Mem), i + m = n → m < F → R u (fo i f s) → ∃ u', R u' (fo n f s) ∧ ∀ q, L q F (nI i) u = k q u' := by
    intro m
    induction m with
    | zero =>
      intro F i u hi hF hR
      obtain ⟨F', rfl⟩ : ∃ F', F = F' + 1 := ⟨F - 1, by omega⟩
      have hi' : i = n := by omega
      subst hi'
      exact ⟨u, hR, fun q => he q u _ F' hR⟩
    | succ m ih =>
      intro F i u hi hF hR
      obtain ⟨F', rfl⟩ : ∃ F', F = F' + 1 := ⟨F - 1, by omega⟩
      obtain ⟨u', hR', e⟩ := hs i u _ (by omega) hR
      obtain ⟨u2, h2, e2⟩ := ih F' (i + 1) u' (by omega) (by omega) hR'
      exact ⟨u2, h2, fun q => by rw [e q F']; exact e2 q⟩
  rw [← nI_0]
  exact h n F 0 u (by omega) hF hR
theorem bv_nI (x : Int32) : x = nI x.toBitVec.toNat := by
  apply Int32.toBitVec_inj.mp
  show x.toBitVec = BitVec.ofNat 32 x.toBitVec.toNat
  rw [BitVec.ofNat_toNat, BitVec.setWidth_eq]
theorem bv_n {j : Nat} (h : j < 4294967296) : (nI j).toBitVec.toNat = j := by
  show (BitVec.ofNat 32 j).toNat = j
  rw [BitVec.toNat_ofNat]; omega
theorem and_n {z y : Int32} {j N : Nat} (hj : j < N) (h : j < 4294967296) (e : z = nI j) : ∃ k, k < N ∧ z &&& y = nI k := by
  refine ⟨(z &&& y).toBitVec.toNat, ?_, bv_nI _⟩
  rw [Int32.toBitVec_and, BitVec.toNat_and, e, bv_n h]
  have := @Nat.and_le_left j y.toBitVec.toNat
  omega
theorem or_n {z y : Int32} {j k b : Nat} (hb : b ≤ 31) (hj : j < 2 ^ b) (hk : k < 2 ^ b) (e : z = nI j) (e2 : y = nI k) : ∃ q, q < 2 ^ b ∧ z ||| y = nI q := by
  refine ⟨(z ||| y).toBitVec.toNat, ?_, bv_nI _⟩
  have hp : 2 ^ b ≤ 2 ^ 31 := Nat.pow_le_pow_right (by omega) hb
  rw [Int32.toBitVec_or, BitVec.toNat_or, e, e2, bv_n (by omega), bv_n (by omega)]
  exact Nat.or_lt_two_pow hj hk
def dTell1 (m o : Nat) (W : Wt) : Wt := if tb (sTold W (nI m)) o = true ∧ W (40 + o) = 0 then upd W (16 + o) (W (16 + o) ||| W (16 + m)) else W
def dTellM (m : Nat) (W : Wt) : Wt := if W (40 + m) = 0 then fo (nmen W) (dTell1 m) W else W
def dTells (W : Wt) : Wt := if W 0 - W 0 / 7 * 7 = 0 then fo (nmen W) dTellM W else W
theorem dTell1_w {m o : Nat} {W : Wt} (hW : WO W) (hm : m < 12) (ho : o < 12) : WO (dTell1 m o W) ∧ lf W (dTell1 m o W) ∧ (dTell1 m o W) (40 + m) = W (40 + m) := by
  unfold dTell1
  split
  · obtain ⟨j, hj, e⟩ := OkD_kn hW.2.1 o ho
    obtain ⟨k, hk, e2⟩ := OkD_kn hW.2.1 m hm
    exact ⟨WO_u hW (s78_u (by omega)) (OkD_ukn hW.2.1 ho (or_n (b := 8) (by omega) hj hk e e2)), lf_u (by omega), up_ne (by omega)⟩
  · exact ⟨hW, lf_r W, rfl⟩
theorem dTellM_w {m : Nat} {W : Wt} (hW : WO W) (hm : m < 12) : WO (dTellM m W) ∧ lf W (dTellM m W) := by
  unfold dTellM
  split
  · have : ∀ n, n ≤ 12 → WO (fo n (dTell1 m) W) ∧ lf W (fo n (dTell1 m) W) := by
      intro n
      induction n with
      | zero => intro _; exact ⟨hW, lf_r W⟩
      | succ n ih =>
        intro h
        obtain ⟨a, b⟩ := ih (by omega)
        obtain ⟨a', b', -⟩ := dTell1_w (m := m) (o := n) a hm (by omega)
        exact ⟨a', lf_t b b'⟩
    exact this _ (OkT_n hW.1).2
  · exact ⟨hW, lf_r W⟩
theorem fo_lf {f : Nat → Wt → Wt} (hf : ∀ m W, WO W → m < 12 → WO (f m W) ∧ lf W (f m W)) {W : Wt} (hW : WO W) : ∀ n, n ≤ 12 → WO (fo n f W) ∧ lf W (fo n f W)
  | 0, _ => ⟨hW, lf_r W⟩
  | n + 1, h => by
    obtain ⟨a, b⟩ := fo_lf hf hW n (by omega)
    obtain ⟨a', b'⟩ := hf n _ a (by omega)
    exact ⟨a', lf_t b b'⟩
theorem dTells_w {W : Wt} (hW : WO W) : WO (dTells W) ∧ lf W (dTells W) := by
  unfold dTells
  split
  · exact fo_lf (fun m W => dTellM_w) hW _ (OkT_n hW.1).2
  · exact ⟨hW, lf_r W⟩
theorem rm7 {x : Int32} {β : Type} (f : Int32 → Option β) : (rmI x 7).bind f = f (x - x / 7 * 7) := by
  unfold rmI; rw [if_neg (by decide), b_some]
theorem rm1000 {x : Int32} {β : Type} (f : Int32 → Option β) : (rmI x 1000).bind f = f (x - x / 1000 * 1000) := by
  unfold rmI; rw [if_neg (by decide), b_some]
theorem m_tellM {M : Wt} {u : Mem} {W : Wt} (hM : MR M u W) (hW : WO W) {m : Nat} (hm : m < nmen W) : ∃ u', MR M u' (dTellM m W) ∧ ∀ F, FX12_tells_146_L15 (F + 1) (nI m) u = FX12_tells_146_L15 F (nI (m + 1)) u' := by
  obtain ⟨hn, hn12⟩ := OkT_n hW.1
  have hm12 : m < 12 := by omega
  have hn' : u 147 78 = nI (nmen W) := by rw [hM.1]; exact hn
  have start : ∀ F, FX12_tells_146_L15 (F + 1) (nI m) u = (if W (40 + m) = 0 then FX12_tells_146_L49 (FX12_tells_146_L15 F) FU (nI m) (sTold W (nI m)) 0 u else FX12_tells_146_L15 F (nI (m + 1)) u) := by
    intro F
    show FX12_tells_146_b15 _ _ _ = _
    unfold FX12_tells_146_b15 FX12_tells_146_b108
    rw [hn', if_neg (nle hm (by omega)), rl (by show 40 + m < _; omega) (by omega), hM.1, m_told hM.1 hW.1, b_some, nI_1]
  unfold dTellM
  by_cases c : W (40 + m) = 0
  · rw [if_pos c]
    have hh : ∃ u', (MR M u' (fo (nmen W) (dTell1 m) W) ∧ WO (fo (nmen W) (dTell1 m) W) ∧ lf W (fo (nmen W) (dTell1 m) W)) ∧ ∀ k15 : Int32 → Mem → Option Mem, FX12_tells_146_L49 k15 FU (nI m) (sTold W (nI m)) 0 u = k15 (nI (m + 1)) u' := by
      refine lp_k (fun k15 F i u => FX12_tells_146_L49 k15 F (nI m) (sTold W (nI m)) i u) (nmen W) (fun u V => MR M u V ∧ WO V ∧ lf W V) (dTell1 m) (fun k15 u => k15 (nI (m + 1)) u) (fun i v V hi hV => ?_) (fun k15 v V F hV => ?_) (F := FU) (u := u) (s := W) (by show _ < 10000; omega) ⟨hM, hW, lf_r W⟩
      · obtain ⟨h1, h2, h3⟩ := hV
        have en := s78_n h3.1
        have hv : v 147 78 = nI (nmen W) := by rw [h1.1, (OkT_n h2.1).1, en]
        obtain ⟨w1, w2, -⟩ := dTell1_w (m := m) (o := i) h2 hm12 (by omega)
        have et : sTold V (nI m) = sTold W (nI m) := sTold_W h3.1 hW.1 _
        have start2 : ∀ k15 F, FX12_tells_146_L49 k15 (F + 1) (nI m) (sTold W (nI m)) (nI i) v = (if ((sTold W (nI m) >>> (nI i &&& 31)) &&& 1) = 1 then (if V (40 + i) = 0 then FX12_tells_146_L49 k15 F (nI m) (sTold W (nI m)) (nI (i + 1)) (mupd v 147 (16 + i) (V (16 + i) ||| V (16 + m))) else FX12_tells_146_L49 k15 F (nI m) (sTold W (nI m)) (nI (i + 1)) v) else FX12_tells_146_L49 k15 F (nI m) (sTold W (nI m)) (nI (i + 1)) v) := by
          intro k15 F
          show FX12_tells_146_b49 _ _ _ _ _ _ = _
          unfold FX12_tells_146_b49 FX12_tells_146_b102
          rw [hv, if_neg (nle hi (by omega)), rl (by show 40 + i < _; omega) (by omega), rl (by show 16 + i < _; omega) (by omega), rl (by show 16 + m < _; omega) (by omega), wl (by show 16 + i < _; omega) (by omega), h1.1, nI_1]
        unfold dTell1 at w1 w2 ⊢
        rw [et] at w1 w2 ⊢
        by_cases q1 : tb (sTold W (nI m)) i = true
        · have q1' : ((sTold W (nI m) >>> (nI i &&& 31)) &&& 1) = 1 := by rw [bit_1 _ (by omega)]; exact q1
          by_cases q2 : V (40 + i) = 0
          · rw [if_pos ⟨q1, q2⟩] at w1 w2 ⊢
            exact ⟨_, ⟨MR_u h1 (16 + i) (V (16 + i) ||| V (16 + m)), w1, lf_t h3 w2⟩, fun k15 F => by rw [start2, if_pos q1', if_pos q2]⟩
          · rw [if_neg (fun h => q2 h.2)]
            exact ⟨v, ⟨h1, h2, h3⟩, fun k15 F => by rw [start2, if_pos q1', if_neg q2]⟩
        · have q1' : ¬ ((sTold W (nI m) >>> (nI i &&& 31)) &&& 1) = 1 := by rw [bit_1 _ (by omega)]; exact q1
          rw [if_neg (fun h => q1 h.1)]
          exact ⟨v, ⟨h1, h2, h3⟩, fun k15 F => by rw [start2, if_neg q1']⟩
      · obtain ⟨h1, h2, h3⟩ := hV
        have en := s78_n h3.1
        show FX12_tells_146_b49 _ _ _ _ _ _ = _
        unfold FX12_tells_146_b49 FX12_tells_146_b108
        rw [h1.1, (OkT_n h2.1).1, en, if_pos (yle (by omega)), nI_1]
    obtain ⟨u', ⟨hR, -⟩, e⟩ := hh
    exact ⟨u', hR, fun F => by rw [start, if_pos c, e]⟩
  · rw [if_neg c]
    exact ⟨u, hM, fun F => by rw [start, if_neg c]⟩
theorem m_tells {M : Wt} {u : Mem} {W : Wt} (hM : MR M u W) (hW : WO W) : ∃ u', FX12_tells_146 u = some u' ∧ MR M u' (dTells W) := by
  obtain ⟨hn, hn12⟩ := OkT_n hW.1
  unfold FX12_tells_146 dTells
  rw [rm7, hM.1]
  by_cases c : W 0 - W 0 / 7 * 7 = 0
  · rw [if_pos c, if_pos c]
    have hh := lp_w (fun F i u => FX12_tells_146_L15 F i u) (nmen W) (fun u V => MR M u V ∧ WO V ∧ lf W V) dTellM (fun u => some u) (fun i v V hi hV => ?_) (fun v V F hV => ?_) (F := FU) (u := u) (s := W) (by show _ < 10000; omega) ⟨hM, hW, lf_r W⟩
    · obtain ⟨u', ⟨hR, -⟩, e⟩ := hh
      exact ⟨u', e, hR⟩
    · obtain ⟨h1, h2, h3⟩ := hV
      have en := s78_n h3.1
      obtain ⟨v', a, b⟩ := m_tellM h1 h2 (m := i) (by omega)
      obtain ⟨w1, w2⟩ := dTellM_w (m := i) h2 (by omega)
      exact ⟨v', ⟨a, w1, lf_t h3 w2⟩, b⟩
    · obtain ⟨h1, h2, h3⟩ := hV
      have en := s78_n h3.1
      show FX12_tells_146_b15 _ _ _ = _
      unfold FX12_tells_146_b15
      rw [h1.1, (OkT_n h2.1).1, en, if_pos (yle (by omega))]
  · rw [if_neg c, if_neg c]; exact ⟨u, rfl, hM⟩
theorem c_tellM_32 {fa md : Int32} {B : Wt} {u : Mem} {W : Wt} (hX : XR_32 fa md B u W) (hW : WO W) {m : Nat} (hm : m < nmen W) : ∃ u', XR_32 fa md B u' (dTellM m W) ∧ ∀ F, FX3_tellOn_32_L2 (F + 1) (nI m) u = FX3_tellOn_32_L2 F (nI (m + 1)) u' := by
  obtain ⟨hn, hn12⟩ := OkT_n hW.1
  have hm12 : m < 12 := by omega
  have hn' : u 1 0 = nI (nmen W) := (gmen hX.1).trans hn
  have start : ∀ F, FX3_tellOn_32_L2 (F + 1) (nI m) u = FX3_tellOn_32_L21 (FX3_tellOn_32_L2 F) FU (nI m) 0 u := by
    intro F
    show FX3_tellOn_32_b2 _ _ _ = _
    unfold FX3_tellOn_32_b2
    rw [if_neg (n12 hm12), hn', if_neg (nle hm (by omega))]
  have hh : ∃ u', (XR_32 fa md B u' (fo (nmen W) (fun o V => if W (40 + m) = 0 then dTell1 m o V else V) W) ∧ WO (fo (nmen W) (fun o V => if W (40 + m) = 0 then dTell1 m o V else V) W) ∧ lf W (fo (nmen W) (fun o V => if W (40 + m) = 0 then dTell1 m o V else V) W) ∧ (fo (nmen W) (fun o V => if W (40 + m) = 0 then dTell1 m o V else V) W) (40 + m) = W (40 + m)) ∧ ∀ k2 : Int32 → Mem → Option Mem, FX3_tellOn_32_L21 k2 FU (nI m) 0 u = k2 (nI (m + 1)) u' := by
    refine lp_k (fun k2 F i u => FX3_tellOn_32_L21 k2 F (nI m) i u) (nmen W) (fun u V => XR_32 fa md B u V ∧ WO V ∧ lf W V ∧ V (40 + m) = W (40 + m)) (fun o V => if W (40 + m) = 0 then dTell1 m o V else V) (fun k2 u => k2 (nI (m + 1)) u) (fun i v V hi hV => ?_) (fun k2 v V F hV => ?_) (F := FU) (u := u) (s := W) (by show _ < 10000; omega) ⟨hX, hW, lf_r W, rfl⟩
    · obtain ⟨h1, h2, h3, h4⟩ := hV
      have hi12 : i < 12 := by omega
      have en := s78_n h3.1
      have hv : v 1 0 = nI (nmen W) := by rw [gmen h1.1, (OkT_n h2.1).1, en]
      obtain ⟨w1, w2, w3⟩ := dTell1_w (m := m) (o := i) h2 hm12 hi12
      have start2 : ∀ k2 F, FX3_tellOn_32_L21 k2 (F + 1) (nI m) (nI i) v = (if W (40 + m) = 0 then (if V (40 + i) = 0 then (if (if tb (sTold V (nI m)) i = true then (1 : Int32) else 0) = 0 then FX3_tellOn_32_L21 k2 F (nI m) (nI (i + 1)) v else FX3_tellOn_32_L21 k2 F (nI m) (nI (i + 1)) (mupd v 25 i (V (16 + i) ||| V (16 + m)))) else FX3_tellOn_32_L21 k2 F (nI m) (nI (i + 1)) v) else FX3_tellOn_32_L21 k2 F (nI m) (nI (i + 1)) v) := by
        intro k2 F
        show FX3_tellOn_32_b21 _ _ _ _ _ = _
        unfold FX3_tellOn_32_b21 FX3_tellOn_32_b67 FX3_tellOn_32_b109
        rw [if_neg (n12 hi12), hv, if_neg (nle hi (by omega)), rb hm12 (by omega), gwh_23 h1.1 hm12, h4, rb hi12 (by omega), gwh_23 h1.1 hi12, if_neg z1, if_pos rfl, rb hm12 (by omega), gte h1.1 hm12, holds_b _ (by omega), b_some, rb hi12 (by omega), rb hm12 (by omega), gkn_23 h1.1 hi12, gkn_23 h1.1 hm12, wb hi12 (by omega), nI_1]
      by_cases c : W (40 + m) = 0
      · simp only [if_pos c]
        unfold dTell1 at w1 w2 w3 ⊢
        by_cases q1 : tb (sTold V (nI m)) i = true
        · by_cases q2 : V (40 + i) = 0
          · rw [if_pos ⟨q1, q2⟩] at w1 w2 w3 ⊢
            exact ⟨_, ⟨XR_u32 h1 h2.1 (j := 1) (by omega) hi12 (V (16 + i) ||| V (16 + m)), w1, lf_t h3 w2, w3.trans h4⟩, fun k2 F => by rw [start2, if_pos c, if_pos q2, if_pos q1, if_neg z1]⟩
          · rw [if_neg (fun h => q2 h.2)]
            exact ⟨v, ⟨h1, h2, h3, h4⟩, fun k2 F => by rw [start2, if_pos c, if_neg q2]⟩
        · rw [if_neg (fun h => q1 h.1)]
          refine ⟨v, ⟨h1, h2, h3, h4⟩, fun k2 F => ?_⟩
          rw [start2, if_pos c, if_neg q1, if_pos rfl]
          split <;> rfl
      · simp only [if_neg c]
        exact ⟨v, ⟨h1, h2, h3, h4⟩, fun k2 F => by rw [start2, if_neg c]⟩
    · obtain ⟨h1, h2, h3, h4⟩ := hV
      have en := s78_n h3.1
      show FX3_tellOn_32_b21 _ _ _ _ _ = _
      unfold FX3_tellOn_32_b21 FX3_tellOn_32_b115
      rw [gmen h1.1, (OkT_n h2.1).1, en, two_ends _ _ (yle (by omega)), nI_1]
  obtain ⟨u', ⟨hR, -⟩, e⟩ := hh
  have ee : fo (nmen W) (fun o V => if W (40 + m) = 0 then dTell1 m o V else V) W = dTellM m W := by
    unfold dTellM
    by_cases c : W (40 + m) = 0
    · rw [if_pos c]; exact fo_congr (fun i s _ => if_pos c)
    · rw [if_neg c]
      have : ∀ n, fo n (fun o V => if W (40 + m) = 0 then dTell1 m o V else V) W = W := by
        intro n
        induction n with
        | zero => rfl
        | succ n ih => rw [fo_s, ih, if_neg c]
      exact this _
  rw [ee] at hR
  exact ⟨u', hR, fun F => by rw [start, e]⟩
theorem c_tells_32 {fa md : Int32} {B : Wt} {u : Mem} {W : Wt} (hX : XR_32 fa md B u W) (hW : WO W) : ∃ u', FX3_tellOn_32 u = some u' ∧ XR_32 fa md B u' (fo (nmen W) dTellM W) := by
  obtain ⟨hn, hn12⟩ := OkT_n hW.1
  have hh := lp_w (fun F i u => FX3_tellOn_32_L2 F i u) (nmen W) (fun u V => XR_32 fa md B u V ∧ WO V ∧ lf W V) dTellM (fun u => some u) (fun i v V hi hV => ?_) (fun v V F hV => ?_) (F := FU) (u := u) (s := W) (by show _ < 10000; omega) ⟨hX, hW, lf_r W⟩
  · obtain ⟨u', ⟨hR, -⟩, e⟩ := hh
    exact ⟨u', e, hR⟩
  · obtain ⟨h1, h2, h3⟩ := hV
    have en := s78_n h3.1
    obtain ⟨v', a, b⟩ := c_tellM_32 h1 h2 (m := i) (by omega)
    obtain ⟨w1, w2⟩ := dTellM_w (m := i) h2 (by omega)
    exact ⟨v', ⟨a, w1, lf_t h3 w2⟩, b⟩
  · obtain ⟨h1, h2, h3⟩ := hV
    have en := s78_n h3.1
    show FX3_tellOn_32_b2 _ _ _ = _
    unfold FX3_tellOn_32_b2
    rw [gmen h1.1, (OkT_n h2.1).1, en, two_ends _ _ (yle (by omega))]
theorem c_tellM_104 {fa md : Int32} {B : Wt} {u : Mem} {W : Wt} (hX : XR_104 fa md B u W) (hW : WO W) {m : Nat} (hm : m < nmen W) : ∃ u', XR_104 fa md B u' (dTellM m W) ∧ ∀ F, FX3_tellOn_104_L2 (F + 1) (nI m) u = FX3_tellOn_104_L2 F (nI (m + 1)) u' := by
  obtain ⟨hn, hn12⟩ := OkT_n hW.1
  have hm12 : m < 12 := by omega
  have hn' : u 1 0 = nI (nmen W) := (gmen hX.1).trans hn
  have start : ∀ F, FX3_tellOn_104_L2 (F + 1) (nI m) u = FX3_tellOn_104_L21 (FX3_tellOn_104_L2 F) FU (nI m) 0 u := by
    intro F
    show FX3_tellOn_104_b2 _ _ _ = _
    unfold FX3_tellOn_104_b2
    rw [if_neg (n12 hm12), hn', if_neg (nle hm (by omega))]
  have hh : ∃ u', (XR_104 fa md B u' (fo (nmen W) (fun o V => if W (40 + m) = 0 then dTell1 m o V else V) W) ∧ WO (fo (nmen W) (fun o V => if W (40 + m) = 0 then dTell1 m o V else V) W) ∧ lf W (fo (nmen W) (fun o V => if W (40 + m) = 0 then dTell1 m o V else V) W) ∧ (fo (nmen W) (fun o V => if W (40 + m) = 0 then dTell1 m o V else V) W) (40 + m) = W (40 + m)) ∧ ∀ k2 : Int32 → Mem → Option Mem, FX3_tellOn_104_L21 k2 FU (nI m) 0 u = k2 (nI (m + 1)) u' := by
    refine lp_k (fun k2 F i u => FX3_tellOn_104_L21 k2 F (nI m) i u) (nmen W) (fun u V => XR_104 fa md B u V ∧ WO V ∧ lf W V ∧ V (40 + m) = W (40 + m)) (fun o V => if W (40 + m) = 0 then dTell1 m o V else V) (fun k2 u => k2 (nI (m + 1)) u) (fun i v V hi hV => ?_) (fun k2 v V F hV => ?_) (F := FU) (u := u) (s := W) (by show _ < 10000; omega) ⟨hX, hW, lf_r W, rfl⟩
    · obtain ⟨h1, h2, h3, h4⟩ := hV
      have hi12 : i < 12 := by omega
      have en := s78_n h3.1
      have hv : v 1 0 = nI (nmen W) := by rw [gmen h1.1, (OkT_n h2.1).1, en]
      obtain ⟨w1, w2, w3⟩ := dTell1_w (m := m) (o := i) h2 hm12 hi12
      have start2 : ∀ k2 F, FX3_tellOn_104_L21 k2 (F + 1) (nI m) (nI i) v = (if W (40 + m) = 0 then (if V (40 + i) = 0 then (if (if tb (sTold V (nI m)) i = true then (1 : Int32) else 0) = 0 then FX3_tellOn_104_L21 k2 F (nI m) (nI (i + 1)) v else FX3_tellOn_104_L21 k2 F (nI m) (nI (i + 1)) (mupd v 99 i (V (16 + i) ||| V (16 + m)))) else FX3_tellOn_104_L21 k2 F (nI m) (nI (i + 1)) v) else FX3_tellOn_104_L21 k2 F (nI m) (nI (i + 1)) v) := by
        intro k2 F
        show FX3_tellOn_104_b21 _ _ _ _ _ = _
        unfold FX3_tellOn_104_b21 FX3_tellOn_104_b67 FX3_tellOn_104_b109
        rw [if_neg (n12 hi12), hv, if_neg (nle hi (by omega)), rb hm12 (by omega), gwh_97 h1.1 hm12, h4, rb hi12 (by omega), gwh_97 h1.1 hi12, if_neg z1, if_pos rfl, rb hm12 (by omega), gte h1.1 hm12, holds_b _ (by omega), b_some, rb hi12 (by omega), rb hm12 (by omega), gkn_97 h1.1 hi12, gkn_97 h1.1 hm12, wb hi12 (by omega), nI_1]
      by_cases c : W (40 + m) = 0
      · simp only [if_pos c]
        unfold dTell1 at w1 w2 w3 ⊢
        by_cases q1 : tb (sTold V (nI m)) i = true
        · by_cases q2 : V (40 + i) = 0
          · rw [if_pos ⟨q1, q2⟩] at w1 w2 w3 ⊢
            exact ⟨_, ⟨XR_u104 h1 h2.1 (j := 1) (by omega) hi12 (V (16 + i) ||| V (16 + m)), w1, lf_t h3 w2, w3.trans h4⟩, fun k2 F => by rw [start2, if_pos c, if_pos q2, if_pos q1, if_neg z1]⟩
          · rw [if_neg (fun h => q2 h.2)]
            exact ⟨v, ⟨h1, h2, h3, h4⟩, fun k2 F => by rw [start2, if_pos c, if_neg q2]⟩
        · rw [if_neg (fun h => q1 h.1)]
          refine ⟨v, ⟨h1, h2, h3, h4⟩, fun k2 F => ?_⟩
          rw [start2, if_pos c, if_neg q1, if_pos rfl]
          split <;> rfl
      · simp only [if_neg c]
        exact ⟨v, ⟨h1, h2, h3, h4⟩, fun k2 F => by rw [start2, if_neg c]⟩
    · obtain ⟨h1, h2, h3, h4⟩ := hV
      have en := s78_n h3.1
      show FX3_tellOn_104_b21 _ _ _ _ _ = _
      unfold FX3_tellOn_104_b21 FX3_tellOn_104_b115
      rw [gmen h1.1, (OkT_n h2.1).1, en, two_ends _ _ (yle (by omega)), nI_1]
  obtain ⟨u', ⟨hR, -⟩, e⟩ := hh
  have ee : fo (nmen W) (fun o V => if W (40 + m) = 0 then dTell1 m o V else V) W = dTellM m W := by
    unfold dTellM
    by_cases c : W (40 + m) = 0
    · rw [if_pos c]; exact fo_congr (fun i s _ => if_pos c)
    · rw [if_neg c]
      have : ∀ n, fo n (fun o V => if W (40 + m) = 0 then dTell1 m o V else V) W = W := by
        intro n
        induction n with
        | zero => rfl
        | succ n ih => rw [fo_s, ih, if_neg c]
      exact this _
  rw [ee] at hR
  exact ⟨u', hR, fun F => by rw [start, e]⟩
theorem c_tells_104 {fa md : Int32} {B : Wt} {u : Mem} {W : Wt} (hX : XR_104 fa md B u W) (hW : WO W) : ∃ u', FX3_tellOn_104 u = some u' ∧ XR_104 fa md B u' (fo (nmen W) dTellM W) := by
  obtain ⟨hn, hn12⟩ := OkT_n hW.1
  have hh := lp_w (fun F i u => FX3_tellOn_104_L2 F i u) (nmen W) (fun u V => XR_104 fa md B u V ∧ WO V ∧ lf W V) dTellM (fun u => some u) (fun i v V hi hV => ?_) (fun v V F hV => ?_) (F := FU) (u := u) (s := W) (by show _ < 10000; omega) ⟨hX, hW, lf_r W⟩
  · obtain ⟨u', ⟨hR, -⟩, e⟩ := hh
    exact ⟨u', e, hR⟩
  · obtain ⟨h1, h2, h3⟩ := hV
    have en := s78_n h3.1
    obtain ⟨v', a, b⟩ := c_tellM_104 h1 h2 (m := i) (by omega)
    obtain ⟨w1, w2⟩ := dTellM_w (m := i) h2 (by omega)
    exact ⟨v', ⟨a, w1, lf_t h3 w2⟩, b⟩
  · obtain ⟨h1, h2, h3⟩ := hV
    have en := s78_n h3.1
    show FX3_tellOn_104_b2 _ _ _ = _
    unfold FX3_tellOn_104_b2
    rw [gmen h1.1, (OkT_n h2.1).1, en, two_ends _ _ (yle (by omega))]

