/-! a new man -/
def mkW (W : Wt) (m : Nat) (p q l : Int32) : Wt := upd (upd (upd (upd (upd (upd (upd (upd (upd (upd W (90 + m) p) (102 + m) q) (114 + m) l) (4 + m) 50) (16 + m) 0) (28 + m) 0) (40 + m) 0) (52 + m) 0) (64 + m) 0) 78 (nI m + 1)
theorem mkW_at (W : Wt) (m : Nat) (p q l : Int32) (k : Nat) : mkW W m p q l k = if k = 78 then nI m + 1 else if k = 64 + m then 0 else if k = 52 + m then 0 else if k = 40 + m then 0 else if k = 28 + m then 0 else if k = 16 + m then 0 else if k = 4 + m then 50 else if k = 114 + m then l else if k = 102 + m then q else if k = 90 + m then p else W k := by
  simp only [mkW, upd]
theorem sTold_new {W : Wt} (h : OkT W) : sTold W (nI (nmen W)) = 0 := by
  obtain ⟨hn, hn12⟩ := OkT_n h
  refine fo_inv (fun _ s => s = 0) rfl _ (fun i s hi hs => ?_)
  obtain ⟨k, j, hk, _, e, -⟩ := OkT_te h i hi
  show (if W (158 + 2 * i) = nI (nmen W) then _ else s) = 0
  rw [if_neg (by rw [e, nn_eq (by omega) (by omega)]; omega)]
  exact hs
def mkV (v : Mem) (m : Nat) (p q l : Int32) : Mem := mupd (mupd (mupd (mupd (mupd (mupd (mupd (mupd (mupd (mupd (mupd v 2 m p) 3 m q) 4 m l) 5 m 0) 24 m 50) 25 m 0) 26 m 0) 27 m 0) 28 m 0) 29 m 0) 1 0 (nI m + 1)
theorem mkV_ne (v : Mem) (m : Nat) (p q l : Int32) {c : Nat} (h : c = 0 ∨ (6 ≤ c ∧ c ≤ 23) ∨ 30 ≤ c) : mkV v m p q l c = v c := by
  unfold mkV
  rw [m_ne (by omega), m_ne (by omega), m_ne (by omega), m_ne (by omega), m_ne (by omega), m_ne (by omega), m_ne (by omega), m_ne (by omega), m_ne (by omega), m_ne (by omega), m_ne (by omega)]
set_option maxHeartbeats 1000000 in
theorem XD_man {v : Mem} {W : Wt} (hX : XD v W) (hW : WO W) (hm : nmen W < 12) {p q l : Int32} (hp : p = 0 ∨ p = 1) (hq : ∃ j, j ≤ 120 ∧ q = nI j) (hl : ∃ j, 1 ≤ j ∧ j ≤ 9 ∧ l = nI j) : XD (mkV v (nmen W) p q l) (mkW W (nmen W) p q l) ∧ WO (mkW W (nmen W) p q l) := by
  obtain ⟨hn, hn12⟩ := OkT_n hW.1
  obtain ⟨m, em⟩ : ∃ m, m = nmen W := ⟨_, rfl⟩
  rw [← em] at hn hm ⊢
  have at' := mkW_at W m p q l
  have other : ∀ k, k ≠ 78 → k ≠ 64 + m → k ≠ 52 + m → k ≠ 40 + m → k ≠ 28 + m → k ≠ 16 + m → k ≠ 4 + m → k ≠ 114 + m → k ≠ 102 + m → k ≠ 90 + m → mkW W m p q l k = W k := by
    intro k h1 h2 h3 h4 h5 h6 h7 h8 h9 h10
    rw [at', if_neg h1, if_neg h2, if_neg h3, if_neg h4, if_neg h5, if_neg h6, if_neg h7, if_neg h8, if_neg h9, if_neg h10]
  have hi : ∀ k, 126 ≤ k → mkW W m p q l k = W k := fun k hk => other k (by omega) (by omega) (by omega) (by omega) (by omega) (by omega) (by omega) (by omega) (by omega) (by omega)
  have md : ∀ k, 79 ≤ k → k < 90 → mkW W m p q l k = W k := fun k hk hk2 => other k (by omega) (by omega) (by omega) (by omega) (by omega) (by omega) (by omega) (by omega) (by omega) (by omega)
  have lo : ∀ k, k < 4 → mkW W m p q l k = W k := fun k hk => other k (by omega) (by omega) (by omega) (by omega) (by omega) (by omega) (by omega) (by omega) (by omega) (by omega)
  have e78 : mkW W m p q l 78 = nI (m + 1) := by rw [at', if_pos rfl, nI_1]
  have en : nmen (mkW W m p q l) = m + 1 := by unfold nmen; rw [e78, nt_nI (by omega)]
  have f90 : ∀ k, k < 12 → mkW W m p q l (90 + k) = if k = m then p else W (90 + k) := by
    intro k hk
    by_cases c : k = m
    · subst c; rw [at', if_pos rfl]; repeat (first | rw [if_neg (by omega)] | rw [if_pos (by omega)])
    · rw [if_neg c]; exact other _ (by omega) (by omega) (by omega) (by omega) (by omega) (by omega) (by omega) (by omega) (by omega) (by omega)
  have f102 : ∀ k, k < 12 → mkW W m p q l (102 + k) = if k = m then q else W (102 + k) := by
    intro k hk
    by_cases c : k = m
    · subst c; rw [at', if_pos rfl]; repeat (first | rw [if_neg (by omega)] | rw [if_pos (by omega)])
    · rw [if_neg c]; exact other _ (by omega) (by omega) (by omega) (by omega) (by omega) (by omega) (by omega) (by omega) (by omega) (by omega)
  have f114 : ∀ k, k < 12 → mkW W m p q l (114 + k) = if k = m then l else W (114 + k) := by
    intro k hk
    by_cases c : k = m
    · subst c; rw [at', if_pos rfl]; repeat (first | rw [if_neg (by omega)] | rw [if_pos (by omega)])
    · rw [if_neg c]; exact other _ (by omega) (by omega) (by omega) (by omega) (by omega) (by omega) (by omega) (by omega) (by omega) (by omega)
  have fb : ∀ j, j < 6 → ∀ k, k < 12 → mkW W m p q l (4 + 12 * j + k) = if k = m then (if j = 0 then 50 else 0) else W (4 + 12 * j + k) := by
    intro j hj k hk
    by_cases c : k = m
    · subst c
      rw [at', if_pos rfl]
      rcases (by omega : j = 0 ∨ j = 1 ∨ j = 2 ∨ j = 3 ∨ j = 4 ∨ j = 5) with rfl | rfl | rfl | rfl | rfl | rfl <;> repeat (first | rw [if_neg (by omega)] | rw [if_pos (by omega)])
    · rw [if_neg c]; exact other _ (by omega) (by omega) (by omega) (by omega) (by omega) (by omega) (by omega) (by omega) (by omega) (by omega)
  have tld : ∀ x, sTold (mkW W m p q l) x = sTold W x := fun x => fo_n (by rw [md 85 (by omega) (by omega)]) (fun i z hi' => by rw [hi _ (by omega), hi _ (by omega)])
  have wt1 : ∀ x, sWt1 (mkW W m p q l) x = sWt1 W x := fun x => fo_n (by rw [md 86 (by omega) (by omega)]) (fun i z hi' => by rw [hi _ (by omega), hi _ (by omega)])
  have hls : sHills (mkW W m p q l) = sHills W := fo_n rfl (fun i z hi' => by rw [hi _ (by omega)])
  have e85 := md 85 (by omega) (by omega)
  have e86 := md 86 (by omega) (by omega)
  have e87 := md 87 (by omega) (by omega)
  have e88 := md 88 (by omega) (by omega)
  have o := hW.1
  have D := hW.2.1
  have hT' : OkT (mkW W m p q l) := by
    refine ⟨⟨by rw [en, e78], by omega⟩, fun k hk => ?_, fun k hk => ?_, fun k hk => ?_, by rw [md _ (by omega) (by omega)]; exact OkT_keep o, by rw [md _ (by omega) (by omega)]; exact OkT_rain o, by rw [md _ (by omega) (by omega)]; exact OkT_tea o, fun c hc => by rw [md _ (by omega) (by omega)]; exact OkT_wa o c hc, fun c hc => by rw [hi _ (by omega)]; exact OkT_hi o c hc, by rw [e85]; exact OkT_tn o, by rw [e86]; exact OkT_wn o, by rw [e87]; exact OkT_on o, by rw [e88]; exact OkT_sn o, fun i hi' => ?_, fun i hi' => ?_, fun i hi' => ?_⟩
    · rw [f90 k hk]; split
      · exact hp
      · exact OkT_co o k hk
    · rw [f102 k hk]; split
      · exact hq
      · exact OkT_ag o k hk
    · rw [f114 k hk, en]; split
      · obtain ⟨j, j1, j2, j3⟩ := hl
        exact ⟨j, j2, fun _ => by omega, j3⟩
      · obtain ⟨j, j1, j2, j3⟩ := OkT_le o k hk
        exact ⟨j, j1, fun _ => j2 (by omega), j3⟩
    · rw [e85] at hi'
      rw [hi _ (by omega), hi _ (by omega), en]
      obtain ⟨k, j, a, b, c, d⟩ := OkT_te o i hi'
      exact ⟨k, j, by omega, Nat.lt_of_lt_of_le b (Nat.pow_le_pow_right (by omega) (by omega)), c, d⟩
    · rw [e86] at hi'
      rw [hi _ (by omega), hi _ (by omega)]
      exact OkT_we o i hi'
    · rw [e88] at hi'
      rw [hi _ (by omega)]
      exact OkT_sg o i hi'
  have hD' : OkD (mkW W m p q l) := by
    refine ⟨fun k hk => ?_, fun k hk => ?_, fun k hk => ?_, fun k hk => ?_, fun k hk => ?_, by rw [lo _ (by omega)]; exact OkD_war D, by rw [lo _ (by omega)]; exact OkD_ln D, fun k hk hk' => ?_⟩
    · have := fb 0 (by omega) k hk
      rw [show 4 + 12 * 0 + k = 4 + k by omega] at this
      rw [this]; split
      · exact ⟨50, by omega, rfl⟩
      · exact OkD_br D k hk
    · have := fb 1 (by omega) k hk
      rw [show 4 + 12 * 1 + k = 16 + k by omega] at this
      rw [this]; split
      · exact ⟨0, by omega, rfl⟩
      · exact OkD_kn D k hk
    · have := fb 2 (by omega) k hk
      rw [show 4 + 12 * 2 + k = 28 + k by omega] at this
      rw [this]; split
      · exact ⟨0, by omega, rfl⟩
      · exact OkD_cn D k hk
    · have := fb 3 (by omega) k hk
      rw [show 4 + 12 * 3 + k = 40 + k by omega] at this
      rw [this]; split
      · exact ⟨0, by omega, rfl⟩
      · exact OkD_wh D k hk
    · have := fb 4 (by omega) k hk
      rw [show 4 + 12 * 4 + k = 52 + k by omega] at this
      rw [this]; split
      · exact ⟨0, by omega, rfl⟩
      · exact OkD_ce D k hk
    · rw [en] at hk'
      have := fb 3 (by omega) k hk
      rw [show 4 + 12 * 3 + k = 40 + k by omega] at this
      rw [this, if_neg (by omega)]
      exact OkD_hm D k hk (by omega)
  have sl : sL W (mkW W m p q l) := ⟨md 84 (by omega) (by omega), fun k hk => hi k (by omega)⟩
  refine ⟨?_, hT', hD', LW_L sl hW.2.2⟩
  have hT := hX.1.1
  have hB := hX.1.2.2
  have c2 : ∀ k, mkV v m p q l 2 k = if k = m then p else v 2 k := fun k => by simp [mkV, mupd, upd]
  have c3 : ∀ k, mkV v m p q l 3 k = if k = m then q else v 3 k := fun k => by simp [mkV, mupd, upd]
  have c4 : ∀ k, mkV v m p q l 4 k = if k = m then l else v 4 k := fun k => by simp [mkV, mupd, upd]
  have c5 : ∀ k, mkV v m p q l 5 k = if k = m then 0 else v 5 k := fun k => by simp [mkV, mupd, upd]
  have c1 : ∀ k, mkV v m p q l 1 k = if k = 0 then nI m + 1 else v 1 k := fun k => by simp [mkV, mupd, upd]
  have cb : ∀ j, j < 6 → ∀ k, mkV v m p q l (24 + j) k = if k = m then (if j = 0 then 50 else 0) else v (24 + j) k := by
    intro j hj k
    rcases (by omega : j = 0 ∨ j = 1 ∨ j = 2 ∨ j = 3 ∨ j = 4 ∨ j = 5) with rfl | rfl | rfl | rfl | rfl | rfl <;> simp [mkV, mupd, upd]
  refine ⟨⟨⟨by rw [c1, if_pos rfl, e78, nI_1], by rw [c1, if_neg (by omega), md _ (by omega) (by omega)]; exact TR_keep hT, by rw [c1, if_neg (by omega), md _ (by omega) (by omega)]; exact TR_rain hT, by rw [c1, if_neg (by omega), md _ (by omega) (by omega)]; exact TR_tea hT, by rw [c1, if_neg (by omega), hls]; exact TR_hi hT, by rw [c1, if_neg (by omega), e85]; exact TR_tl hT, by rw [c1, if_neg (by omega), e86]; exact TR_wl hT, fun k hk => ?_, fun k hk => ?_, fun k hk => ?_, fun k hk => ?_, fun c hc => ?_, fun f hf => ?_, ?_, fun i hi' => ?_, fun i hi' => ?_, fun i hi' => ?_, ?_, fun i hi' => ?_, fun i hi' => ?_, fun i hi' => ?_⟩, ?_, ?_⟩, ?_, ?_, ?_⟩
  · show mkV v m p q l 2 k = _
    rw [c2, f90 k hk, ← TR_co hT k hk]
  · show mkV v m p q l 3 k = _
    rw [c3, f102 k hk, ← TR_ag hT k hk]
  · show mkV v m p q l 4 k = _
    rw [c4, f114 k hk, ← TR_le hT k hk]
  · show mkV v m p q l 5 k = _
    rw [c5, tld]
    by_cases c : k = m
    · rw [if_pos c, c, em]; exact (sTold_new o).symm
    · rw [if_neg c]; exact TR_te hT k hk
  · rw [mkV_ne v m p q l (by omega), md _ (by omega) (by omega)]; exact TR_wa hT c hc
  · rw [mkV_ne v m p q l (by omega), wt1]; exact TR_we hT f hf
  · rw [mkV_ne v m p q l (by omega), e87]; exact TR_ol hT
  · rw [e87] at hi'; rw [mkV_ne v m p q l (by omega), hi _ (by omega)]; exact TR_od hT i hi'
  · rw [e87] at hi'; rw [mkV_ne v m p q l (by omega), hi _ (by omega)]; exact TR_oc hT i hi'
  · rw [e87] at hi'; rw [mkV_ne v m p q l (by omega), hi _ (by omega)]; exact TR_or hT i hi'
  · rw [mkV_ne v m p q l (by omega), e88]; exact TR_sl hT
  · rw [e88] at hi'; rw [mkV_ne v m p q l (by omega), hi _ (by omega)]; exact TR_sd hT i hi'
  · rw [e88] at hi'; rw [mkV_ne v m p q l (by omega), hi _ (by omega)]; exact TR_sc hT i hi'
  · rw [e88] at hi'; rw [mkV_ne v m p q l (by omega), hi _ (by omega)]; exact TR_sg hT i hi'
  · exact LC_L sl (LC_cg hX.1.2.1 (fun j hj => mkV_ne v m p q l (by omega)))
  · refine ⟨by rw [mkV_ne v m p q l (by omega), lo _ (by omega)]; exact BR_war hB, by rw [mkV_ne v m p q l (by omega), lo _ (by omega)]; exact BR_day hB, by rw [mkV_ne v m p q l (by omega), lo _ (by omega)]; exact BR_dr hB, by rw [mkV_ne v m p q l (by omega), lo _ (by omega)]; exact BR_ln hB, fun j k hj hk => ?_⟩
    show mkV v m p q l (24 + j) k = _
    rw [cb j hj, fb j hj k hk, ← BR_ar hB j k hj hk]
  · intro i hi'; rw [mkV_ne v m p q l (by omega), hi _ (by omega)]; exact hX.2.1 i hi'
  · rw [mkV_ne v m p q l (by omega)]; exact hX.2.2.1
  · rw [mkV_ne v m p q l (by omega)]; exact hX.2.2.2
def manOk (p q l : Int32) : Prop := (p = 0 ∨ p = 1) ∧ (0 ≤ q ∧ q ≤ 120) ∧ (1 ≤ l ∧ l ≤ 9)
theorem A_man (p q l : Int32) : A2 (FX11_man_0 p q l) (FX12_man_146 p q l) := by
  intro v w h
  obtain ⟨a, b, -⟩ := id h
  obtain ⟨hn, hn12⟩ := OkT_n a.1
  have em : v 1 0 = nI (nmen (w 147)) := (gmen b.1).trans hn
  by_cases c : manOk p q l
  · obtain ⟨c1, c2, c3⟩ := id c
    have e1 : FX11_man_0 p q l v = FX11_man_0_b33 p q l 1 v := by
      unfold FX11_man_0
      rw [c_co, b_some, if_pos c1, if_neg z1, if_neg (by rw [Int32.not_lt]; exact c2.1), if_neg (by rw [Int32.not_lt]; exact c2.2), if_neg (by rw [Int32.not_lt]; exact c3.1), if_neg (by rw [Int32.not_lt]; exact c3.2)]
    rw [e1]
    unfold FX11_man_0_b33 FX12_man_146
    rw [if_neg z1, m_co, b_some, if_pos c1, if_neg z1, m_in, b_some, if_pos c2, if_neg z1, m_in, b_some, if_pos c3, if_neg z1, hn, em, if_neg (nI_pos (by omega))]
    by_cases c12 : nmen (w 147) < 12
    · rw [if_pos (by rw [lt_li (by decide) (by omega)]; exact c12), if_neg (by rw [eq_li (by decide) (by omega)]; show ¬ nmen (w 147) = 12; omega)]
      have c2' : ∃ j, j ≤ 120 ∧ q = nI j := by rw [← in_n (n := 120) (by decide)]; exact c2
      have c3' : ∃ j, 1 ≤ j ∧ j ≤ 9 ∧ l = nI j := by
        obtain ⟨j, hj, rfl⟩ := nI_of (x := l) (by rw [Int32.not_lt]; exact Int32.le_trans (by decide) c3.1)
        refine ⟨j, ?_, ?_, rfl⟩
        · have := c3.1; rw [li_le (by decide) (by omega)] at this; exact this
        · have := c3.2; rw [le_li (by decide) (by omega)] at this; exact this
      obtain ⟨x1, x2⟩ := XD_man b a c12 c1 c2' c3'
      obtain ⟨m, e⟩ : ∃ m, m = nmen (w 147) := ⟨_, rfl⟩
      rw [← e] at hn em c12 x1 x2 ⊢
      unfold FX0_start_23
      rw [wb c12 (by omega), wb c12 (by omega), wb c12 (by omega), wb c12 (by omega), if_neg (nI_pos (by omega)), if_pos (by rw [lt_li (by decide) (by omega)]; exact c12), wb c12 (by omega), wb c12 (by omega), wb c12 (by omega), wb c12 (by omega), wb c12 (by omega), w_ok c12 (by omega), b_some, b_some, b_some, c_forget, b_some]
      rw [wl (by show 90 + m < _; omega) (by omega), wl (by show 102 + m < _; omega) (by omega), wl (by show 114 + m < _; omega) (by omega), wl (by show 4 + m < _; omega) (by omega), wl (by show 16 + m < _; omega) (by omega), wl (by show 28 + m < _; omega) (by omega), wl (by show 40 + m < _; omega) (by omega), wl (by show 52 + m < _; omega) (by omega), wl (by show 64 + m < _; omega) (by omega), b_some, m_forget, b_some]
      obtain ⟨_, _, k3, k4, k5, k6⟩ := SP_Q h
      have ew : ∀ z : Int32, mupd (mupd (mupd (mupd (mupd (mupd (mupd (mupd (mupd (mupd w 147 (90 + m) p) 147 (102 + m) q) 147 (114 + m) l) 147 (4 + m) 50) 147 (16 + m) 0) 147 (28 + m) 0) 147 (40 + m) 0) 147 (52 + m) 0) 147 (64 + m) 0) 147 78 z = mset w 147 (upd (upd (upd (upd (upd (upd (upd (upd (upd (upd (w 147) (90 + m) p) (102 + m) q) (114 + m) l) (4 + m) 50) (16 + m) 0) (28 + m) 0) (40 + m) 0) (52 + m) 0) (64 + m) 0) 78 z) := by
        intro z
        rw [mu_eq w, mu_ms, mu_ms, mu_ms, mu_ms, mu_ms, mu_ms, mu_ms, mu_ms, mu_ms]
      refine ⟨nI m, mupd (mkV v m p q l) 52 2 0, mupd (mset w 147 (mkW (w 147) m p q l)) 146 4 0, rfl, ?_, SQ_f ?_⟩
      · show some (nI m, mupd (mupd (mupd (mupd (mupd (mupd (mupd (mupd (mupd (mupd (mupd w 147 (90 + m) p) 147 (102 + m) q) 147 (114 + m) l) 147 (4 + m) 50) 147 (16 + m) 0) 147 (28 + m) 0) 147 (40 + m) 0) 147 (52 + m) 0) 147 (64 + m) 0) 147 78 (_ + 1)) 146 4 0) = _
        rw [ew]
        have e78 : (mupd (mupd (mupd (mupd (mupd (mupd (mupd (mupd (mupd w 147 (90 + m) p) 147 (102 + m) q) 147 (114 + m) l) 147 (4 + m) 50) 147 (16 + m) 0) 147 (28 + m) 0) 147 (40 + m) 0) 147 (52 + m) 0) 147 (64 + m) 0) 147 78 = nI m := by
          rw [mu_eq w, mu_ms, mu_ms, mu_ms, mu_ms, mu_ms, mu_ms, mu_ms, mu_ms, ms_eq, up_ne (by omega), up_ne (by omega), up_ne (by omega), up_ne (by omega), up_ne (by omega), up_ne (by omega), up_ne (by omega), up_ne (by omega), up_ne (by omega), hn]
        rw [e78]; rfl
      · unfold SQ
        rw [ms_eq, ms_ne (show 146 ≠ 147 by decide), ms_ne (show 148 ≠ 147 by decide), ms_ne (show 154 ≠ 147 by decide)]
        exact ⟨x2, x1, by rw [mkV_ne v m p q l (by omega)]; exact k3, by rw [mkV_ne v m p q l (by omega)]; exact k4, IMG_cg (fun c hc => mkV_ne v m p q l (by omega)) k5, RD_cg (mkV_ne v m p q l (by omega)) (mkV_ne v m p q l (by omega)) k6⟩
    · have e12 : nmen (w 147) = 12 := by omega
      rw [if_neg (by rw [lt_li (by decide) (by omega)]; exact c12), if_pos (by rw [e12]; decide)]
      exact ⟨-1, v, w, rfl, rfl, h⟩
  · refine ⟨-1, v, w, ?_, ?_, h⟩
    · unfold FX11_man_0 FX11_man_0_b33
      rw [c_co, b_some]
      by_cases c1 : p = 0 ∨ p = 1
      · rw [if_pos c1, if_neg z1]
        by_cases c2 : q < 0
        · rw [if_pos c2, if_pos rfl]
        · rw [if_neg c2]
          by_cases c3 : 120 < q
          · rw [if_pos c3, if_pos rfl]
          · rw [if_neg c3]
            by_cases c4 : l < 1
            · rw [if_pos c4, if_pos rfl]
            · rw [if_neg c4]
              by_cases c5 : 9 < l
              · rw [if_pos c5, if_pos rfl]
              · exfalso
                rw [Int32.not_lt] at c2 c3 c4 c5
                exact c ⟨c1, ⟨c2, c3⟩, ⟨c4, c5⟩⟩
      · rw [if_neg c1, if_pos rfl, if_pos rfl]
    · unfold FX12_man_146
      rw [m_co, b_some]
      by_cases c1 : p = 0 ∨ p = 1
      · rw [if_pos c1, if_neg z1, m_in, b_some]
        by_cases c2 : 0 ≤ q ∧ q ≤ 120
        · rw [if_pos c2, if_neg z1, m_in, b_some]
          rw [if_neg (fun h => c ⟨c1, c2, h⟩), if_pos rfl]
        · rw [if_neg c2, if_pos rfl]
      · rw [if_neg c1, if_pos rfl]

