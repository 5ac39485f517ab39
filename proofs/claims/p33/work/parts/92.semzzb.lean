/-! the model reads sums and conditions -/
theorem m_nxO {b : Nat → Nat} {n : Nat} {v0 : Int32} {N : Nat} (_hZ : myZ b n v0 N) {i : Nat} {o : pxT} {u : Mem} (hA : myT 0 b n v0 i u) (hC : myC o u) : ∃ u', FX12_next0_146 u = some u' ∧ myF u u' ∧ u' 146 24 = u 146 24 ∧ myT 0 b n v0 (i + 1) u' ∧ myC o u' := by
  obtain ⟨u', e, f, h⟩ := m_nxt (show 0 < 4 by decide) hA
  exact ⟨u', e, myF_F f, f.2 24 (by decide) (by decide) (by decide) (by decide), h, myC_F hC f⟩
theorem m_ly {b : Nat → Nat} {n : Nat} {v0 : Int32} {i : Nat} {o : pxT} {u : Mem} (hA : myT 0 b n v0 i u) (hC : myC o u) (hl : encL o < 400) {s : Nat} {p : Int32} (hp : nI s = p) (hs : s < 100) (h0 : s ≠ 0) (h26 : s ≠ 26) : ∃ u', FX12_lay_146 p 0 u = some u' ∧ myF u u' ∧ u' 146 24 = u 146 24 ∧ myT 0 b n v0 i u' ∧ myC (o ++ [(s, 0)]) u' := by
  have hle := len_enc o
  obtain ⟨u', e, c, f, g⟩ := m_layO hC (by omega) hp hs (v := 0) (by omega)
  exact ⟨u', e, f, g 24 (by decide), myT_e hA f (fun j h1 h2 => g j (by omega)), c⟩
theorem m_mulL {b : Nat → Nat} {n : Nat} {v0 : Int32} {N : Nat} (hZ : myZ b n v0 N) : ∀ (d i : Nat) (o : pxT) (u : Mem) (F l : Nat), N - i ≤ d → d < F → d < l → i ≤ N → myT 0 b n v0 i u → myC o u → encL o ≤ i → mSim b n v0 N u (pxMul (kk 0 b n) (vv b n v0) l i o) (FX12_product_146_L9 F u) := by
  intro d
  induction d using Nat.strongRecOn with
  | _ d ih =>
  intro i o u F l hd hF hl hi hA hC hle
  obtain ⟨F, rfl⟩ : ∃ f, F = f + 1 := ⟨F - 1, by omega⟩
  obtain ⟨l, rfl⟩ : ∃ f, l = f + 1 := ⟨l - 1, by omega⟩
  have hv := kk_v 0 b n i
  have hN := hZ.1.1
  show mSim b n v0 N u _ (FX12_product_146_b9 _ _)
  unfold FX12_product_146_b9 FX12_product_146_b29 FX12_product_146_b44 pxMul
  rw [hA.2.2.2.1]
  by_cases c : kk 0 b n i = 42
  · have hiN := hZ.1.2 i hi (by omega)
    rw [if_pos (tY_42 c), if_neg (tN_47 hv (by omega)), if_pos c]
    obtain ⟨u1, e1, f1, d1, hA1, hC1⟩ := m_nxO hZ hA hC
    rw [e1, b_some, if_pos rfl]
    refine mSim_G f1 d1 (mSim_b (gUnit hZ.1 (show i + 1 ≤ N by omega) o) (m_unit hZ hA1 (by omega) hC1 (by omega)) (fun j o1 u2 k1 k2 k3 kF k24 kA kC kl => ?_))
    obtain ⟨u3, e3, f3, d3, hA3, hC3⟩ := m_ly (s := 25) (p := 25) kA kC (by omega) rfl (by decide) (by decide) (by decide)
    rw [e3, b_some]
    exact mSim_G f3 d3 (ih (d - 1) (by omega) j (o1 ++ [(25, 0)]) u3 F l (by omega) (by omega) (by omega) k2 hA3 hC3 (by rw [encL_app, encL_1 (by decide)]; omega))
  · rw [if_neg (tN_42 hv c), if_neg c]
    by_cases c2 : kk 0 b n i = 47
    · have hiN := hZ.1.2 i hi (by omega)
      have hv1 := kk_v 0 b n (i + 1)
      rw [if_pos (tY_47 c2), if_pos (tY_47 c2), if_pos c2]
      obtain ⟨u1, e1, f1, d1, hA1, hC1⟩ := m_nxO hZ hA hC
      rw [e1, b_some, if_neg z1, hA1.2.2.2.1]
      by_cases c3 : kk 0 b n (i + 1) = 1
      · have hi1 := hZ.1.2 (i + 1) (by omega) (by omega)
        obtain ⟨z4, z5⟩ := hZ.2 (i + 1) c3
        rw [if_pos (tY_1 c3), if_pos c3, hA1.2.2.2.2, z5]
        by_cases c4 : vv b n v0 (i + 1) = 0
        · rw [if_pos c4, if_pos (show nI (vv b n v0 (i + 1)) = 0 by rw [c4]; exact nI_0)]
          exact mSim_G f1 d1 (m_bad hA1 2)
        · rw [if_neg c4, if_neg (nI_ne0 (by omega) (by omega))]
          obtain ⟨u2, e2, f2, d2, hA2, hC2⟩ := m_nxO hZ hA1 hC1
          have hlen := len_enc o
          obtain ⟨u3, e3, c3', f3, g3⟩ := m_layO hC2 (by omega) (s := 26) (p := 26) rfl (by decide) (v := nI (vv b n v0 (i + 1))) (by rw [nt_nI (by omega)]; exact fun _ => ⟨z4, rfl⟩)
          rw [nt_nI (by omega)] at c3'
          rw [e2, b_some, e3, b_some]
          refine mSim_G (myF_t f1 (myF_t f2 f3)) (by rw [g3 24 (by decide), d2, d1]) (ih (d - 1) (by omega) (i + 2) (o ++ [(26, vv b n v0 (i + 1))]) u3 F l (by omega) (by omega) (by omega) (by omega) (myT_e hA2 f3 (fun j h1 h2 => g3 j (by omega))) c3' (by rw [encL_app, encL_2]; omega))
      · rw [if_neg (tN_1 hv1 c3), if_neg c3]
        exact mSim_G f1 d1 (m_bad hA1 1)
    · rw [if_neg (tN_47 hv c2), if_neg c2]
      exact mSim_n hA hC hle hi
theorem m_prod {b : Nat → Nat} {n : Nat} {v0 : Int32} {N : Nat} (hZ : myZ b n v0 N) {i : Nat} {o : pxT} {u : Mem} (hi : i ≤ N) (hA : myT 0 b n v0 i u) (hC : myC o u) (hle : encL o ≤ i) : mSim b n v0 N u (pxProd (kk 0 b n) (vv b n v0) i o) (FX12_product_146 u) := by
  have hN := hZ.1.1
  unfold pxProd FX12_product_146
  exact mSim_b (gUnit hZ.1 hi o) (m_unit hZ hA hi hC hle) (fun j o1 u2 k1 k2 k3 kF k24 kA kC kl => m_mulL hZ 400 j o1 u2 FU 401 (by omega) (by decide) (by decide) k2 kA kC kl)
theorem m_addL {b : Nat → Nat} {n : Nat} {v0 : Int32} {N : Nat} (hZ : myZ b n v0 N) : ∀ (d i : Nat) (o : pxT) (u : Mem) (F l : Nat), N - i ≤ d → d < F → d < l → i ≤ N → myT 0 b n v0 i u → myC o u → encL o ≤ i → mSim b n v0 N u (pxAdd (kk 0 b n) (vv b n v0) l i o) (FX12_sumUp_146_L9 F u) := by
  intro d
  induction d using Nat.strongRecOn with
  | _ d ih =>
  intro i o u F l hd hF hl hi hA hC hle
  obtain ⟨F, rfl⟩ : ∃ f, F = f + 1 := ⟨F - 1, by omega⟩
  obtain ⟨l, rfl⟩ : ∃ f, l = f + 1 := ⟨l - 1, by omega⟩
  have hv := kk_v 0 b n i
  have hN := hZ.1.1
  have key : ∀ (s : Nat) (p : Int32), nI s = p → s < 100 → s ≠ 0 → s ≠ 26 → kk 0 b n i ≠ 0 → mSim b n v0 N u (pxB (pxProd (kk 0 b n) (vv b n v0) (i + 1) o) (fun j o1 => pxAdd (kk 0 b n) (vv b n v0) l j (o1 ++ [(s, 0)]))) (FX12_sumUp_146_b46 (FX12_sumUp_146_L9 F) p u) := by
    intro s p hp hs h0 h26 hk
    have hiN := hZ.1.2 i hi hk
    unfold FX12_sumUp_146_b46
    obtain ⟨u1, e1, f1, d1, hA1, hC1⟩ := m_nxO hZ hA hC
    rw [e1, b_some]
    refine mSim_G f1 d1 (mSim_b (gProd hZ.1 (show i + 1 ≤ N by omega) o) (m_prod hZ (by omega) hA1 hC1 (by omega)) (fun j o1 u2 k1 k2 k3 kF k24 kA kC kl => ?_))
    obtain ⟨u3, e3, f3, d3, hA3, hC3⟩ := m_ly (s := s) (p := p) kA kC (by omega) hp hs h0 h26
    rw [e3, b_some]
    exact mSim_G f3 d3 (ih (d - 1) (by omega) j (o1 ++ [(s, 0)]) u3 F l (by omega) (by omega) (by omega) k2 hA3 hC3 (by rw [encL_app, encL_1 (by show s ≠ 26; exact h26)]; omega))
  show mSim b n v0 N u _ (FX12_sumUp_146_b9 _ _)
  unfold FX12_sumUp_146_b9 FX12_sumUp_146_b29 pxAdd
  rw [hA.2.2.2.1]
  by_cases c : kk 0 b n i = 43
  · rw [if_pos (tY_43 c), if_pos (tY_43 c), if_pos c]
    exact key 23 23 rfl (by decide) (by decide) (by decide) (by omega)
  · rw [if_neg (tN_43 hv c), if_neg (tN_43 hv c), if_neg c]
    by_cases c2 : kk 0 b n i = 45
    · rw [if_pos (tY_45 c2), if_pos c2]
      exact key 24 24 rfl (by decide) (by decide) (by decide) (by omega)
    · rw [if_neg (tN_45 hv c2), if_neg c2]
      exact mSim_n hA hC hle hi
theorem m_sum {b : Nat → Nat} {n : Nat} {v0 : Int32} {N : Nat} (hZ : myZ b n v0 N) {i : Nat} {o : pxT} {u : Mem} (hi : i ≤ N) (hA : myT 0 b n v0 i u) (hC : myC o u) (hle : encL o ≤ i) : mSim b n v0 N u (pxSum (kk 0 b n) (vv b n v0) i o) (FX12_sumUp_146 u) := by
  have hN := hZ.1.1
  unfold pxSum FX12_sumUp_146
  exact mSim_b (gProd hZ.1 hi o) (m_prod hZ hi hA hC hle) (fun j o1 u2 k1 k2 k3 kF k24 kA kC kl => m_addL hZ 400 j o1 u2 FU 401 (by omega) (by decide) (by decide) k2 kA kC kl)
theorem m_cmp {b : Nat → Nat} {n : Nat} {v0 : Int32} {N : Nat} (hZ : myZ b n v0 N) {i : Nat} {o : pxT} {u : Mem} (hi : i ≤ N) (hA : myT 0 b n v0 i u) (hC : myC o u) (hle : encL o ≤ i) (kc : Mem → Option (Int32 × Mem)) : mSim b n v0 N u (pxCmp (kk 0 b n) (vv b n v0) i o) (bnd2 (FX12_sumUp_146 u) fun x3 u4 => (if x3 = 0 then (some (0, u4)) else ((if (u4 146 18) = 160 then (FX12_oneTest_146_b147 kc 27 u4) else ((if (u4 146 18) = 161 then (FX12_oneTest_146_b147 kc 28 u4) else ((if (u4 146 18) = 162 then (FX12_oneTest_146_b147 kc 29 u4) else (FX12_oneTest_146_b147 kc (-1) u4))))))))) := by
  have hN := hZ.1.1
  unfold pxCmp
  refine mSim_b (gSum hZ.1 hi o) (m_sum hZ hi hA hC hle) (fun j o1 u2 k1 k2 k3 kF k24 kA kC kl => ?_)
  have hv := kk_v 0 b n j
  rw [kA.2.2.2.1]
  have key : ∀ (s : Nat) (p : Int32), nI s = p → s < 100 → s ≠ 0 → s ≠ 26 → kk 0 b n j ≠ 0 → mSim b n v0 N u2 (pxFin s (pxSum (kk 0 b n) (vv b n v0) (j + 1) o1)) (FX12_oneTest_146_b147 kc p u2) := by
    intro s p hp hs h0 h26 hk
    have hjN := hZ.1.2 j k2 hk
    unfold FX12_oneTest_146_b147 pxFin
    obtain ⟨u3, e3, f3, d3, hA3, hC3⟩ := m_nxO hZ kA kC
    rw [if_neg (by rw [← hp]; exact nI_m1 (by omega)), e3, b_some]
    refine mSim_G f3 d3 (mSim_b (gSum hZ.1 (show j + 1 ≤ N by omega) o1) (m_sum hZ (by omega) hA3 hC3 (by omega)) (fun m o2 u4 q1 q2 q3 qF q24 qA qC ql => ?_))
    obtain ⟨u5, e5, f5, d5, hA5, hC5⟩ := m_ly (s := s) (p := p) qA qC (by omega) hp hs h0 h26
    rw [e5, b_some]
    exact mSim_G f5 d5 (mSim_n hA5 hC5 (by rw [encL_app, encL_1 (by show s ≠ 26; exact h26)]; omega) q2)
  by_cases c1 : kk 0 b n j = 60
  · rw [if_pos (tY_60 c1), if_pos c1]
    exact key 27 27 rfl (by decide) (by decide) (by decide) (by omega)
  · rw [if_neg (tN_60 hv c1), if_neg c1]
    by_cases c2 : kk 0 b n j = 61
    · rw [if_pos (tY_61 c2), if_pos c2]
      exact key 28 28 rfl (by decide) (by decide) (by decide) (by omega)
    · rw [if_neg (tN_61 hv c2), if_neg c2]
      by_cases c3 : kk 0 b n j = 62
      · rw [if_pos (tY_62 c3), if_pos c3]
        exact key 29 29 rfl (by decide) (by decide) (by decide) (by omega)
      · rw [if_neg (tN_62 hv c3), if_neg c3]
        unfold FX12_oneTest_146_b147
        rw [if_pos rfl]
        exact m_bad kA 1
/-- one test, at a depth -/
def oneS (b : Nat → Nat) (n : Nat) (v0 : Int32) (N f lv : Nat) (kc : Mem → Option (Int32 × Mem)) : Prop := ∀ i o u, u 146 24 = nI lv → i ≤ N → myT 0 b n v0 i u → myC o u → encL o ≤ i → mSim b n v0 N u (pxOne (kk 0 b n) (vv b n v0) f i o) (kc u)
theorem m_evL {b : Nat → Nat} {n : Nat} {v0 : Int32} {N : Nat} (hZ : myZ b n v0 N) {f lv : Nat} {kc : Mem → Option (Int32 × Mem)} (h1 : oneS b n v0 N f lv kc) : ∀ (d i : Nat) (o : pxT) (u : Mem) (F l : Nat), N - i ≤ d → d < F → d < l → u 146 24 = nI lv → i ≤ N → myT 0 b n v0 i u → myC o u → encL o ≤ i → mSim b n v0 N u (pxEvL (kk 0 b n) (fun i o => pxOne (kk 0 b n) (vv b n v0) f i o) l i o) (FX12_every_146_L9 kc F u) := by
  intro d
  induction d using Nat.strongRecOn with
  | _ d ih =>
  intro i o u F l hd hF hl h24 hi hA hC hle
  obtain ⟨F, rfl⟩ : ∃ f, F = f + 1 := ⟨F - 1, by omega⟩
  obtain ⟨l, rfl⟩ : ∃ f, l = f + 1 := ⟨l - 1, by omega⟩
  have hv := kk_v 0 b n i
  have hN := hZ.1.1
  show mSim b n v0 N u _ (FX12_every_146_b9 _ _ _)
  unfold FX12_every_146_b9 pxEvL
  rw [hA.2.2.2.1]
  by_cases c : kk 0 b n i = 262
  · have hiN := hZ.1.2 i hi (by omega)
    rw [if_pos (tY_262 c), if_pos c]
    obtain ⟨u1, e1, f1, d1, hA1, hC1⟩ := m_nxO hZ hA hC
    rw [e1, b_some]
    refine mSim_G f1 d1 (mSim_b (gOne hZ.1 f (i + 1) o (by omega)) (h1 (i + 1) o u1 (by rw [d1]; exact h24) (by omega) hA1 hC1 (by omega)) (fun j o1 u2 k1 k2 k3 kF k24 kA kC kl => ?_))
    obtain ⟨u3, e3, f3, d3, hA3, hC3⟩ := m_ly (s := 31) (p := 31) kA kC (by omega) rfl (by decide) (by decide) (by decide)
    rw [e3, b_some]
    exact mSim_G f3 d3 (ih (d - 1) (by omega) j (o1 ++ [(31, 0)]) u3 F l (by omega) (by omega) (by omega) (by rw [d3, k24, d1]; exact h24) k2 hA3 hC3 (by rw [encL_app, encL_1 (by decide)]; omega))
  · rw [if_neg (tN_262 hv c), if_neg c]
    exact mSim_n hA hC hle hi
theorem m_ev {b : Nat → Nat} {n : Nat} {v0 : Int32} {N : Nat} (hZ : myZ b n v0 N) {f lv : Nat} {kc : Mem → Option (Int32 × Mem)} (h1 : oneS b n v0 N f lv kc) {i : Nat} {o : pxT} {u : Mem} (h24 : u 146 24 = nI lv) (hi : i ≤ N) (hA : myT 0 b n v0 i u) (hC : myC o u) (hle : encL o ≤ i) : mSim b n v0 N u (pxEv (kk 0 b n) (fun i o => pxOne (kk 0 b n) (vv b n v0) f i o) i o) (FX12_every_146 kc u) := by
  have hN := hZ.1.1
  unfold pxEv FX12_every_146
  exact mSim_b (gOne hZ.1 f i o hi) (h1 i o u h24 hi hA hC hle) (fun j o1 u2 k1 k2 k3 kF k24 kA kC kl => m_evL hZ h1 400 j o1 u2 FU 401 (by omega) (by decide) (by decide) (by rw [k24]; exact h24) k2 kA kC kl)
theorem m_anL {b : Nat → Nat} {n : Nat} {v0 : Int32} {N : Nat} (hZ : myZ b n v0 N) {f lv : Nat} {kc : Mem → Option (Int32 × Mem)} (h1 : oneS b n v0 N f lv kc) : ∀ (d i : Nat) (o : pxT) (u : Mem) (F l : Nat), N - i ≤ d → d < F → d < l → u 146 24 = nI lv → i ≤ N → myT 0 b n v0 i u → myC o u → encL o ≤ i → mSim b n v0 N u (pxAnL (kk 0 b n) (fun i o => pxOne (kk 0 b n) (vv b n v0) f i o) l i o) (FX12_any_146_L9 kc F u) := by
  intro d
  induction d using Nat.strongRecOn with
  | _ d ih =>
  intro i o u F l hd hF hl h24 hi hA hC hle
  obtain ⟨F, rfl⟩ : ∃ f, F = f + 1 := ⟨F - 1, by omega⟩
  obtain ⟨l, rfl⟩ : ∃ f, l = f + 1 := ⟨l - 1, by omega⟩
  have hv := kk_v 0 b n i
  have hN := hZ.1.1
  have g1 : ∀ i o, i ≤ N → pxG N 1 i o (pxOne (kk 0 b n) (vv b n v0) f i o) := fun i o hi => gOne hZ.1 f i o hi
  show mSim b n v0 N u _ (FX12_any_146_b9 _ _ _)
  unfold FX12_any_146_b9 pxAnL
  rw [hA.2.2.2.1]
  by_cases c : kk 0 b n i = 261
  · have hiN := hZ.1.2 i hi (by omega)
    rw [if_pos (tY_261 c), if_pos c]
    obtain ⟨u1, e1, f1, d1, hA1, hC1⟩ := m_nxO hZ hA hC
    rw [e1, b_some]
    refine mSim_G f1 d1 (mSim_b (gEv hZ.1 g1 (show i + 1 ≤ N by omega) o) (m_ev hZ h1 (by rw [d1]; exact h24) (by omega) hA1 hC1 (by omega)) (fun j o1 u2 k1 k2 k3 kF k24 kA kC kl => ?_))
    obtain ⟨u3, e3, f3, d3, hA3, hC3⟩ := m_ly (s := 32) (p := 32) kA kC (by omega) rfl (by decide) (by decide) (by decide)
    rw [e3, b_some]
    exact mSim_G f3 d3 (ih (d - 1) (by omega) j (o1 ++ [(32, 0)]) u3 F l (by omega) (by omega) (by omega) (by rw [d3, k24, d1]; exact h24) k2 hA3 hC3 (by rw [encL_app, encL_1 (by decide)]; omega))
  · rw [if_neg (tN_261 hv c), if_neg c]
    exact mSim_n hA hC hle hi
theorem m_any {b : Nat → Nat} {n : Nat} {v0 : Int32} {N : Nat} (hZ : myZ b n v0 N) {f lv : Nat} {kc : Mem → Option (Int32 × Mem)} (h1 : oneS b n v0 N f lv kc) {i : Nat} {o : pxT} {u : Mem} (h24 : u 146 24 = nI lv) (hi : i ≤ N) (hA : myT 0 b n v0 i u) (hC : myC o u) (hle : encL o ≤ i) : mSim b n v0 N u (pxAny (kk 0 b n) (fun i o => pxOne (kk 0 b n) (vv b n v0) f i o) i o) (FX12_any_146 kc u) := by
  have hN := hZ.1.1
  have g1 : ∀ i o, i ≤ N → pxG N 1 i o (pxOne (kk 0 b n) (vv b n v0) f i o) := fun i o hi => gOne hZ.1 f i o hi
  unfold pxAny FX12_any_146
  exact mSim_b (gEv hZ.1 g1 hi o) (m_ev hZ h1 h24 hi hA hC hle) (fun j o1 u2 k1 k2 k3 kF k24 kA kC kl => m_anL hZ h1 400 j o1 u2 FU 401 (by omega) (by decide) (by decide) (by rw [k24]; exact h24) k2 kA kC kl)
theorem bnd2_bchk {u : Mem} {x : Int32} (h : x = 0 ∨ x = 1) : (bchk x).bind (fun y => some (y, u)) = some (x, u) := by
  unfold bchk; rw [if_pos h, b_some]
theorem m_needY {b : Nat → Nat} {n : Nat} {v0 : Int32} {N : Nat} {i : Nat} {o : pxT} {u : Mem} {t : Int32} (hZ : myZ b n v0 N) (hA : myT 0 b n v0 i u) (hC : myC o u) (ht : nI (mtk 0 (kk 0 b n i)) = t) : ∃ u', FX12_need_146 t u = some (1, u') ∧ myF u u' ∧ u' 146 24 = u 146 24 ∧ myT 0 b n v0 (i + 1) u' ∧ myC o u' := by
  obtain ⟨u1, e1, f1, d1, hA1, hC1⟩ := m_nxO hZ hA hC
  refine ⟨u1, ?_, f1, d1, hA1, hC1⟩
  unfold FX12_need_146
  rw [hA.2.2.2.1, if_pos ht, e1, b_some]
theorem m_needN {b : Nat → Nat} {n : Nat} {v0 : Int32} {N : Nat} {i : Nat} {u : Mem} {t : Int32} (hA : myT 0 b n v0 i u) (ht : ¬ nI (mtk 0 (kk 0 b n i)) = t) : mSim b n v0 N u (.inl (1, i)) (FX12_need_146 t u) := by
  unfold FX12_need_146
  rw [hA.2.2.2.1, if_neg ht]
  exact m_bad hA 1
theorem m_one {b : Nat → Nat} {n : Nat} {v0 : Int32} {N : Nat} (hZ : myZ b n v0 N) : ∀ (f lv m : Nat), lv + f = 8 → f < m → oneS b n v0 N f lv (FX12_oneTest_146 m) := by
  intro f
  have hN := hZ.1.1
  have opn : ∀ (lv i : Nat) (o : pxT) (u : Mem), lv < 8 → u 146 24 = nI lv → myT 0 b n v0 i u → myC o u → ∃ u', FX12_opens_146 u = some (1, u') ∧ myF u u' ∧ u' 146 24 = nI (lv + 1) ∧ myT 0 b n v0 (i + 1) u' ∧ myC o u' := by
    intro lv i o u hlv h24 hA hC
    have f0 := myF_u u (j := 24) (nI (lv + 1)) (by decide)
    have hA0 := myT_e hA f0 (fun j h1 h2 => by rw [m_eq, up_ne (by omega)])
    have hC0 : myC o (mupd u 146 24 (nI (lv + 1))) := by
      unfold myC
      rw [m_eq, up_ne (by decide), m_ne (by decide)]; exact hC
    obtain ⟨u1, e1, f1, d1, hA1, hC1⟩ := m_nxO hZ hA0 hC0
    refine ⟨u1, ?_, myF_t f0 f1, by rw [d1, m_eq, up_eq], hA1, hC1⟩
    unfold FX12_opens_146
    rw [h24, if_neg (by rw [eq_li (by decide) (by omega)]; show ¬ lv = 8; omega), b_some, nI_1, e1, b_some]
  have dwn : ∀ (lv i : Nat) (o : pxT) (u : Mem), u 146 24 = nI (lv + 1) → myT 0 b n v0 i u → myC o u → myF u (mupd u 146 24 (u 146 24 - 1)) ∧ (mupd u 146 24 (u 146 24 - 1)) 146 24 = nI lv ∧ myT 0 b n v0 i (mupd u 146 24 (u 146 24 - 1)) ∧ myC o (mupd u 146 24 (u 146 24 - 1)) := by
    intro lv i o u h24 hA hC
    have f0 := myF_u u (j := 24) (u 146 24 - 1) (by decide)
    refine ⟨f0, ?_, myT_e hA f0 (fun j h1 h2 => by rw [m_eq, up_ne (by omega)]), ?_⟩
    · rw [m_eq, up_eq, h24, nI_dec (by omega), Nat.add_sub_cancel]
    · unfold myC
      rw [m_eq, up_ne (by decide), m_ne (by decide)]; exact hC
  induction f with
  | zero =>
    intro lv m hf hm i o u h24 hi hA hC hle
    obtain ⟨m, rfl⟩ : ∃ g, m = g + 1 := ⟨m - 1, by omega⟩
    have hv := kk_v 0 b n i
    have full : FX12_opens_146 u = (bnd2 (FX12_bad_146 3 u) fun x u' => (bchk x).bind fun y => some (y, u')) := by
      unfold FX12_opens_146
      rw [h24, show lv = 8 by omega, if_pos (by decide)]
    have bad : ∀ g : Int32 → Mem → Option (Int32 × Mem), mSim b n v0 N u (.inl (3, i)) (bnd2 (FX12_opens_146 u) fun x u' => if x = 0 then some (0, u') else g x u') := by
      intro g
      rw [full]
      obtain ⟨x, u', e, f1, h1, h2, h3⟩ := m_bad (N := N) hA 3
      have e : (bnd2 (FX12_bad_146 3 u) fun x u' => (bchk x).bind fun y => some (y, u')) = some (x, u') := e
      rw [e, b2_some, if_pos h1]
      exact ⟨0, u', rfl, f1, rfl, h2, h3⟩
    show mSim b n v0 N u _ (FX12_oneTest_146_body _ u)
    unfold FX12_oneTest_146_body pxOne
    rw [hA.2.2.2.1]
    by_cases c1 : kk 0 b n i = 263
    · rw [if_pos (tY_263 c1), if_pos (Or.inl c1)]
      exact bad _
    · rw [if_neg (tN_263 hv c1)]
      by_cases c2 : kk 0 b n i = 40
      · rw [if_pos (tY_40 c2), if_pos (Or.inr c2)]
        exact bad _
      · rw [if_neg (tN_40 hv c2), if_neg (fun h => h.elim c1 c2)]
        exact m_cmp hZ hi hA hC hle _
  | succ f ih =>
    intro lv m hf hm i o u h24 hi hA hC hle
    obtain ⟨m, rfl⟩ : ∃ g, m = g + 1 := ⟨m - 1, by omega⟩
    have hv := kk_v 0 b n i
    have hk1 := ih (lv + 1) m (by omega) (by omega)
    show mSim b n v0 N u _ (FX12_oneTest_146_body _ u)
    unfold FX12_oneTest_146_body pxOne
    rw [hA.2.2.2.1]
    by_cases c1 : kk 0 b n i = 263
    · have hiN := hZ.1.2 i hi (by omega)
      rw [if_pos (tY_263 c1), if_pos c1]
      obtain ⟨u1, e1, f1, d1, hA1, hC1⟩ := opn lv i o u (by omega) h24 hA hC
      rw [e1, b2_some, if_neg z1]
      have hs := hk1 (i + 1) o u1 d1 (by omega) hA1 hC1 (by omega)
      have hg := gOne (V := vv b n v0) hZ.1 f (i + 1) o (by omega)
      unfold pxFin
      match pxOne (kk 0 b n) (vv b n v0) f (i + 1) o, hg, hs with
      | .inl q, hg, ⟨x, u', e2, g2, h1, h2⟩ =>
        rw [e2, b2_some, if_pos h1]
        exact ⟨0, u', rfl, myF_t f1 g2, rfl, h2⟩
      | .inr q, hg, ⟨x, u', e2, g2, h1, h2, h3, h4, h5, h6⟩ =>
        rw [e2, b2_some, if_neg (by rw [h1]; exact z1), b_some]
        obtain ⟨a1, a2, a3⟩ := hg
        obtain ⟨w1, w2, w3, w4⟩ := dwn lv q.1 q.2 u' (by rw [h6]; exact d1) h2 h3
        obtain ⟨u3, e3, f3, d3, hA3, hC3⟩ := m_ly (s := 30) (p := 30) w3 w4 (by omega) rfl (by decide) (by decide) (by decide)
        rw [e3, b_some]
        exact ⟨1, u3, rfl, myF_t f1 (myF_t g2 (myF_t w1 f3)), rfl, hA3, hC3, by show encL (q.2 ++ [(30, 0)]) ≤ q.1; rw [encL_app, encL_1 (by decide)]; omega, a2, by rw [d3, w2, h24]⟩
    · rw [if_neg (tN_263 hv c1), if_neg c1]
      by_cases c2 : kk 0 b n i = 40
      · have hiN := hZ.1.2 i hi (by omega)
        rw [if_pos (tY_40 c2), if_pos c2]
        obtain ⟨u1, e1, f1, d1, hA1, hC1⟩ := opn lv i o u (by omega) h24 hA hC
        rw [e1, b2_some, if_neg z1]
        have hs := m_any hZ hk1 (i := i + 1) (o := o) d1 (by omega) hA1 hC1 (by omega)
        have hg := gAny hZ.1 (one := fun i o => pxOne (kk 0 b n) (vv b n v0) f i o) (fun i o hi => gOne hZ.1 f i o hi) (show i + 1 ≤ N by omega) o
        match pxAny (kk 0 b n) (fun i o => pxOne (kk 0 b n) (vv b n v0) f i o) (i + 1) o, hg, hs with
        | .inl q, hg, ⟨x, u', e2, g2, h1, h2⟩ =>
          rw [e2, b2_some, if_pos h1]
          exact ⟨0, u', rfl, myF_t f1 g2, rfl, h2⟩
        | .inr q, hg, ⟨x, u', e2, g2, h1, h2, h3, h4, h5, h6⟩ =>
          rw [e2, b2_some, if_neg (by rw [h1]; exact z1)]
          obtain ⟨a1, a2, a3⟩ := hg
          have hvq := kk_v 0 b n q.1
          show mSim b n v0 N u (if kk 0 b n q.1 = 41 then _ else _) _
          by_cases c3 : kk 0 b n q.1 = 41
          · have hqN := hZ.1.2 q.1 a2 (by omega)
            obtain ⟨u3, e3, f3, d3, hA3, hC3⟩ := m_needY hZ h2 h3 (tY_41 c3)
            obtain ⟨w1, w2, w3, w4⟩ := dwn lv (q.1 + 1) q.2 u3 (by rw [d3, h6]; exact d1) hA3 hC3
            rw [if_pos c3, e3, b2_some, if_neg z1, b_some]
            exact ⟨1, _, rfl, myF_t f1 (myF_t g2 (myF_t f3 w1)), rfl, w3, w4, by show encL q.2 ≤ q.1 + 1; omega, by show q.1 + 1 ≤ N; omega, by rw [w2, h24]⟩
          · obtain ⟨x3, u3, e3, f3, y1, y2, y3⟩ := m_needN (N := N) h2 (tN_41 hvq c3)
            rw [if_neg c3, e3, b2_some, if_pos y1]
            exact ⟨0, u3, rfl, myF_t f1 (myF_t g2 f3), rfl, y2, y3⟩
      · rw [if_neg (tN_40 hv c2), if_neg c2]
        exact m_cmp hZ hi hA hC hle _

