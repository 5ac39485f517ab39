/-! the class reads a condition, whole -/
def pnO (l3 : Nat) (o : pxT) : pxT := if l3 = 0 then o else o ++ [(32, 0)]
theorem pnO_l (l3 : Nat) (o : pxT) : encL (pnO l3 o) = encL o + (if l3 = 0 then 0 else 1) := by
  unfold pnO
  by_cases c : l3 = 0
  · rw [if_pos c, if_pos c]; rfl
  · rw [if_neg c, if_neg c]; exact encL_app _ _
theorem c_pnO {l3 : Nat} (hl3 : l3 ≤ 400) {o : pxT} {u : Mem} (hC : txC o u) (hl : l3 = 0 ∨ encL o < 400) (kc : Int32 → Mem → Option Mem) (k4 : Int32 → Int32 → Int32 → Mem → Option Mem) (l1 : Int32) : ∃ u', FX6_condition_34_b61 kc k4 l1 (nI l3) u = FX6_condition_34_b74 kc k4 l1 (nI l3) u' ∧ txC (pnO l3 o) u' ∧ txP u u' := by
  unfold FX6_condition_34_b61 pnO
  by_cases c : l3 = 0
  · rw [if_pos (show nI l3 ≤ 0 by rw [c]; decide), if_pos c]; exact ⟨u, rfl, hC, fun _ _ _ => rfl, fun _ _ => rfl⟩
  · obtain ⟨u', e, h, p⟩ := c_put hC (by omega) (s := 32) (v := 0) (x := -18) (by decide) (by decide)
    rw [if_neg (show ¬ nI l3 ≤ 0 by rw [le_li (by decide) (by omega)]; show ¬ l3 ≤ 0; omega), if_neg c, e, b_some]
    exact ⟨u', rfl, h, p⟩
theorem c_condL {K V Q : Nat → Nat} {N : Nat} (hZ : pxZ K V N) {kc : Int32 → Mem → Option Mem} {lv : Nat} (hkc : ∀ m, lv < m → m ≤ 8 → cndS K V Q N (8 - m) (kc (nI m))) (hlv : lv ≤ 8) {u0 : Mem} : ∀ (d i : Nat) (o : pxT) (u : Mem) (F23 F4 le la l3 l4 : Nat), d ≤ 400 → N - i ≤ d → d < F23 → d < F4 → d < le → d < la → l3 ≤ i → l4 ≤ i → txA K V Q N i u → txC o u → encL (pnO l3 o) ≤ i → txG u0 u → cSim K V Q N u0 (pxB (pxEvL K (fun i o => pxOne K V (8 - lv) i o) le i o) (fun j o1 => pxAnL K (fun i o => pxOne K V (8 - lv) i o) la j (pnO l3 o1))) (FX6_condition_34_L23 kc (FX6_condition_34_L4 kc F4) F23 (nI lv) (nI l3) (nI l4) u) := by
  intro d
  induction d using Nat.strongRecOn with
  | _ d ih =>
  intro i o u F23 F4 le la l3 l4 hd4 hd h23 h4 hle hla q3 q4 hA hC hl hG
  have hN := hZ.1.1
  have hiN := hA.2.1
  have hKi := hZ.2.2 i
  have hlo := pnO_l l3 o
  obtain ⟨f23, rfl⟩ : ∃ f, F23 = f + 1 := ⟨F23 - 1, by omega⟩
  obtain ⟨f4, rfl⟩ : ∃ f, F4 = f + 1 := ⟨F4 - 1, by omega⟩
  obtain ⟨le, rfl⟩ : ∃ f, le = f + 1 := ⟨le - 1, by omega⟩
  obtain ⟨la, rfl⟩ : ∃ f, la = f + 1 := ⟨la - 1, by omega⟩
  have g1 : ∀ i o, i ≤ N → pxG N 1 i o (pxOne K V (8 - lv) i o) := fun i o hi => gOne hZ.1 (8 - lv) i o hi
  show cSim K V Q N u0 _ (FX6_condition_34_b23 _ _ _ _ _ _ _)
  unfold FX6_condition_34_b23
  rw [nmul_401 (show l4 ≤ 400 by omega)]
  by_cases c : K i = 262
  · have hi := hZ.1.2 i hiN (by omega)
    rw [c_takeY hZ hA (nk c) (by omega), b2_some, if_neg z1]
    unfold pxEvL
    rw [if_pos c, pxB_a]
    refine cSim_b (g1 (i + 1) o (by omega)) (cSim_G (txG_t hG (txGo_G K u (i + 1))) (c_single hZ hkc hlv (txGo_A hA (by omega)) (txGo_C hC) (by omega))) (fun j o1 u1 k1 k2 k3 kG kA kC kl => ?_) (fun u1 h1 => ?_)
    · obtain ⟨u2, e2, hC2, p2⟩ := c_put kC (show encL o1 < 400 by omega) (s := 31) (v := 0) (x := -17) (by decide) (by decide)
      rw [e2, b_some, nI_1]
      have hl2 : encL (pnO l3 (o1 ++ [(31, 0)])) ≤ j := by
        rw [pnO_l, encL_app, encL_1 (by decide)]; omega
      exact ih (d - 1) (by omega) j (o1 ++ [(31, 0)]) u2 f23 (f4 + 1) le (la + 1) l3 (l4 + 1) (by omega) (by omega) (by omega) (by omega) (by omega) (by omega) (by omega) (by omega) (txA_P kA p2) hC2 hl2 (txG_t kG (txG_P p2))
    · refine dSim_b h1 (d_put h1 _) (fun u2 h2 => ?_)
      by_cases hf : f23 = 0
      · omega
      · obtain ⟨g, hg⟩ : ∃ g, f23 = g + 1 := ⟨f23 - 1, by omega⟩
        rw [hg]; exact d_condL kc f4 g _ _ _ h2
  · rw [c_takeN hA (nkn hKi (by decide) c), b2_some, if_pos rfl]
    have em : pxEvL K (fun i o => pxOne K V (8 - lv) i o) (le + 1) i o = .inr (i, o) := by unfold pxEvL; rw [if_neg c]
    rw [em, pxB_r]
    obtain ⟨u1, x1, hC1, p1⟩ := c_pnO (show l3 ≤ 400 by omega) hC (by
      by_cases z : l3 = 0
      · exact Or.inl z
      · rw [if_neg z] at hlo; exact Or.inr (by omega)) kc (FX6_condition_34_L4 kc (f4 + 1)) (nI lv)
    rw [x1]
    have hA1 := txA_P hA p1
    have hG1 := txG_t hG (txG_P p1)
    unfold FX6_condition_34_b74
    by_cases c2 : K i = 261
    · have hi := hZ.1.2 i hiN (by omega)
      rw [c_takeY hZ hA1 (nk c2) (by omega), b2_some]
      show cSim K V Q N u0 _ (FX6_condition_34_b4 _ _ _ _ _ _)
      unfold FX6_condition_34_b4 pxAnL pxEv
      rw [nI_1, nmul_401 (show l3 + 1 ≤ 400 by omega), if_neg z1, if_pos c2, pxB_a]
      refine cSim_b (g1 (i + 1) (pnO l3 o) (by omega)) (cSim_G (txG_t hG1 (txGo_G K u1 (i + 1))) (c_single hZ hkc hlv (txGo_A hA1 (by omega)) (txGo_C hC1) (by omega))) (fun j o1 u2 k1 k2 k3 kG kA kC kl => ?_) (fun u2 h2 => ?_)
      · have ep : (fun j o1 => pxAnL K (fun i o => pxOne K V (8 - lv) i o) la j (o1 ++ [(32, 0)])) = (fun j o1 => pxAnL K (fun i o => pxOne K V (8 - lv) i o) la j (pnO (l3 + 1) o1)) := by
          funext j o1
          unfold pnO
          rw [if_neg (Nat.succ_ne_zero l3)]
        rw [ep]
        have hl2 : encL (pnO (l3 + 1) o1) ≤ j := by
          rw [pnO_l, if_neg (Nat.succ_ne_zero l3)]; omega
        have h0 := ih (d - 1) (by omega) j o1 u2 FU f4 401 la (l3 + 1) 0 (by omega) (by omega) (by show _ < 10000; omega) (by omega) (by omega) (by omega) (by omega) (by omega) kA kC hl2 kG
        rw [nI_0] at h0
        exact h0
      · obtain ⟨g, hg⟩ : ∃ g, f4 = g + 1 := ⟨f4 - 1, by omega⟩
        rw [hg]; exact d_condL kc g 9999 _ _ _ h2
    · rw [c_takeN hA1 (nkn hKi (by decide) c2), b2_some]
      have ea : pxAnL K (fun i o => pxOne K V (8 - lv) i o) (la + 1) i (pnO l3 o) = .inr (i, pnO l3 o) := by unfold pxAnL; rw [if_neg c2]
      have e : FX6_condition_34_L4 kc (f4 + 1) (nI lv) 0 (nI l3 + 1) u1 = some u1 := by
        show FX6_condition_34_b4 _ _ _ _ _ _ = _
        unfold FX6_condition_34_b4
        rw [if_pos rfl, ite_self]
      rw [ea, e]
      exact cSim_G hG1 (cSim_n hA1 hC1 hl)
theorem c_cond {K V Q : Nat → Nat} {N : Nat} (hZ : pxZ K V N) : ∀ (f lv m : Nat), lv + f = 8 → f < m → cndS K V Q N (8 - lv) (FX6_condition_34 m (nI lv)) := by
  intro f
  induction f using Nat.strongRecOn with
  | _ f ih =>
  intro lv m hf hm
  obtain ⟨m', rfl⟩ : ∃ m', m = m' + 1 := ⟨m - 1, by omega⟩
  have hN := hZ.1.1
  have hkc : ∀ x, lv < x → x ≤ 8 → cndS K V Q N (8 - x) (FX6_condition_34 m' (nI x)) := fun x h1 h2 => ih (8 - x) (by omega) x m' (by omega) (by omega)
  refine ⟨fun i o u hA hC hl => ?_, fun u h => d_cond m' (nI lv) h⟩
  have g1 : ∀ i o, i ≤ N → pxG N 1 i o (pxOne K V (8 - lv) i o) := fun i o hi => gOne hZ.1 (8 - lv) i o hi
  have e : ∀ kc, FX6_condition_34_L4 kc FU (nI lv) 1 0 u = FX6_condition_34_b4 kc (FX6_condition_34_L4 kc 9999) (nI lv) 1 0 u := fun kc => rfl
  show cSim K V Q N u _ (FX6_condition_34_body (FX6_condition_34 m') (nI lv) u)
  unfold FX6_condition_34_body
  rw [e]
  unfold FX6_condition_34_b4 pxAny pxEv
  rw [if_neg (by decide), if_neg z1, pxB_a]
  refine cSim_b (g1 i o hA.2.1) (c_single hZ hkc (by omega) hA hC hl) (fun j o1 u2 k1 k2 k3 kG kA kC kl => ?_) (fun u2 h2 => d_condL _ 9998 9999 _ _ _ h2)
  have h0 := c_condL hZ hkc (by omega) (u0 := u) 400 j o1 u2 FU 9999 401 401 0 0 (Nat.le_refl _) (by omega) (by decide) (by decide) (by decide) (by decide) (by omega) (by omega) kA kC kl kG
  rw [nI_0] at h0
  exact h0

