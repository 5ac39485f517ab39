/-! the best of many, upward and downward -/
def Bs (cand : Nat → Prop) (key : Nat → Nat) (lo hi : Nat) (r : Int32) : Prop := (r = -1 ∧ ∀ j, lo ≤ j → j < hi → ¬ cand j) ∨ ∃ k, r = nI k ∧ lo ≤ k ∧ k < hi ∧ cand k ∧ ∀ j, lo ≤ j → j < hi → cand j → key j < key k ∨ (key j = key k ∧ k ≤ j)
theorem Bs_q {cand : Nat → Prop} {key : Nat → Nat} {n : Nat} {r r' : Int32} (h : Bs cand key 0 n r) (h' : Bs cand key 0 n r') : r = r' := by
  rcases h with ⟨e, a⟩ | ⟨k, e, -, b1, b2, b3⟩ <;> rcases h' with ⟨e', a'⟩ | ⟨k', e', -, b1', b2', b3'⟩
  · rw [e, e']
  · exact absurd b2' (a k' (by omega) b1')
  · exact absurd b2 (a' k (by omega) b1)
  · have q1 := b3 k' (by omega) b1' b2'
    have q2 := b3' k (by omega) b1 b2
    have : k = k' := by omega
    rw [e, e', this]
theorem Bs_up {cand : Nat → Prop} {key : Nat → Nat} {i : Nat} {r : Int32} (hi : i < 1000) (h : Bs cand key 0 i r) : (cand i ∧ (r = -1 ∨ key (nt r) < key i) → Bs cand key 0 (i + 1) (nI i)) ∧ (¬ (cand i ∧ (r = -1 ∨ key (nt r) < key i)) → Bs cand key 0 (i + 1) r) := by
  rcases h with ⟨e, a⟩ | ⟨k, e, -, b1, b2, b3⟩
  · refine ⟨fun q => Or.inr ⟨i, rfl, by omega, by omega, q.1, fun j _ hj hc => ?_⟩, fun q => Or.inl ⟨e, fun j _ hj hc => ?_⟩⟩
    · by_cases z : j = i
      · subst z; exact Or.inr ⟨rfl, Nat.le_refl _⟩
      · exact absurd hc (a j (by omega) (by omega))
    · by_cases z : j = i
      · subst z; exact q ⟨hc, Or.inl e⟩
      · exact a j (by omega) (by omega) hc
  · have hr : r ≠ -1 := by rw [e]; exact nI_m1 (by omega)
    have hn : nt r = k := by rw [e, nt_nI (by omega)]
    refine ⟨fun q => Or.inr ⟨i, rfl, by omega, by omega, q.1, fun j _ hj hc => ?_⟩, fun q => Or.inr ⟨k, e, by omega, by omega, b2, fun j _ hj hc => ?_⟩⟩
    · have hk : key k < key i := by
        rcases q.2 with z | z
        · exact absurd z hr
        · rw [hn] at z; exact z
      by_cases z : j = i
      · subst z; exact Or.inr ⟨rfl, Nat.le_refl _⟩
      · have := b3 j (by omega) (by omega) hc
        omega
    · by_cases z : j = i
      · subst z
        have : ¬ key k < key j := fun y => q ⟨hc, Or.inr (by rw [hn]; exact y)⟩
        omega
      · exact b3 j (by omega) (by omega) hc
theorem Bs_dn {cand : Nat → Prop} {key : Nat → Nat} {i n : Nat} {r : Int32} (hi : i < n) (hn : n < 1000) (h : Bs cand key (i + 1) n r) : (cand i ∧ (r = -1 ∨ key (nt r) ≤ key i) → Bs cand key i n (nI i)) ∧ (¬ (cand i ∧ (r = -1 ∨ key (nt r) ≤ key i)) → Bs cand key i n r) := by
  rcases h with ⟨e, a⟩ | ⟨k, e, b0, b1, b2, b3⟩
  · refine ⟨fun q => Or.inr ⟨i, rfl, by omega, by omega, q.1, fun j h1 hj hc => ?_⟩, fun q => Or.inl ⟨e, fun j h1 hj hc => ?_⟩⟩
    · by_cases z : j = i
      · subst z; exact Or.inr ⟨rfl, Nat.le_refl _⟩
      · exact absurd hc (a j (by omega) (by omega))
    · by_cases z : j = i
      · subst z; exact q ⟨hc, Or.inl e⟩
      · exact a j (by omega) (by omega) hc
  · have hr : r ≠ -1 := by rw [e]; exact nI_m1 (by omega)
    have hnk : nt r = k := by rw [e, nt_nI (by omega)]
    refine ⟨fun q => Or.inr ⟨i, rfl, by omega, by omega, q.1, fun j h1 hj hc => ?_⟩, fun q => Or.inr ⟨k, e, by omega, by omega, b2, fun j h1 hj hc => ?_⟩⟩
    · have hk : key k ≤ key i := by
        rcases q.2 with z | z
        · exact absurd z hr
        · rw [hnk] at z; exact z
      by_cases z : j = i
      · subst z; exact Or.inr ⟨rfl, Nat.le_refl _⟩
      · have := b3 j (by omega) (by omega) hc
        omega
    · by_cases z : j = i
      · subst z
        have : ¬ key k ≤ key j := fun y => q ⟨hc, Or.inr (by rw [hnk]; exact y)⟩
        omega
      · exact b3 j (by omega) (by omega) hc
theorem Bs_n1 {cand : Nat → Prop} {key : Nat → Nat} {lo hi : Nat} {r : Int32} (h : Bs cand key lo hi r) (hn : hi < 1000) : (r < 0) = (r = -1) ∧ (r = -1 ∨ ∃ k, k < hi ∧ lo ≤ k ∧ r = nI k ∧ cand k) := by
  rcases h with ⟨e, -⟩ | ⟨k, e, b0, b1, b2, -⟩
  · exact ⟨by rw [e]; decide, Or.inl e⟩
  · refine ⟨?_, Or.inr ⟨k, b1, b0, e, b2⟩⟩
    rw [e]
    exact propext ⟨fun z => absurd z (nI_pos (by omega)), fun z => absurd z (nI_m1 (by omega))⟩
/-! who is called -/
def cCand (W : Wt) (c : Int32) (j : Nat) : Prop := W (90 + j) = c ∧ W (40 + j) = 0 ∧ 0 < dCall 0 W j
def cKey (W : Wt) (j : Nat) : Nat := nt (dCall 0 W j) * 1000 + nt (W (102 + j))
theorem cKey_lt {W : Wt} (hT : OkT W) {i k : Nat} (hi : i < 12) (hk : k < 12) : (cKey W k < cKey W i) = (dCall 0 W k < dCall 0 W i ∨ (dCall 0 W i = dCall 0 W k ∧ W (102 + k) < W (102 + i))) ∧ (cKey W k ≤ cKey W i) = (dCall 0 W k < dCall 0 W i ∨ (dCall 0 W i = dCall 0 W k ∧ ¬ W (102 + i) < W (102 + k))) := by
  obtain ⟨a, ha, ea⟩ := dCall_n 0 W i
  obtain ⟨b, hb, eb⟩ := dCall_n 0 W k
  obtain ⟨p, hp, ep⟩ := OkT_ag hT i hi
  obtain ⟨q, hq, eq⟩ := OkT_ag hT k hk
  unfold cKey
  rw [ea, eb, ep, eq, nt_nI (by omega), nt_nI (by omega), nt_nI (by omega), nt_nI (by omega), nn_lt (by omega) (by omega), nn_lt (by omega) (by omega), nn_lt (by omega) (by omega), nn_eq (by omega) (by omega)]
  exact ⟨propext (by omega), propext (by omega)⟩
theorem bst_Bs {W : Wt} (hT : OkT W) (c : Int32) : ∀ i, i ≤ 12 → Bs (cCand W c) (cKey W) 0 i (bst 0 W c i) := by
  intro i
  induction i with
  | zero => intro _; exact Or.inl ⟨rfl, fun j _ h => by omega⟩
  | succ i ih =>
    intro hi
    have q := ih (by omega)
    have z := Bs_up (by omega) q
    have hb := (Bs_n1 q (by omega)).2
    unfold bst
    by_cases h : W (90 + i) = c ∧ W (40 + i) = 0 ∧ 0 < dCall 0 W i ∧ isBetter 0 W i (bst 0 W c i) = true
    · rw [if_pos h]
      refine z.1 ⟨⟨h.1, h.2.1, h.2.2.1⟩, ?_⟩
      have h4 := h.2.2.2
      rw [isB] at h4
      rcases hb with e | ⟨k, hk, -, e, -⟩
      · exact Or.inl e
      · rcases h4 with y | y
        · exact Or.inl y
        · refine Or.inr ?_
          rw [e, nt_nI (by omega)] at y ⊢
          rw [(cKey_lt hT (by omega) (by omega)).1]
          exact y
    · rw [if_neg h]
      refine z.2 (fun y => h ⟨y.1.1, y.1.2.1, y.1.2.2, ?_⟩)
      rw [isB]
      rcases hb with e | ⟨k, hk, -, e, -⟩
      · exact Or.inl e
      · rcases y.2 with y2 | y2
        · exact Or.inl y2
        · refine Or.inr ?_
          rw [e, nt_nI (by omega)] at y2 ⊢
          rw [(cKey_lt hT (by omega) (by omega)).1] at y2
          exact y2
noncomputable def callEnd (k16 : Nat → Int32 → Int32 → Int32 → Dm Unit) (l0 : Nat) (l1 : Int32) (l2 : Int32) (l3 : Int32) (l4 : Int32) : Dm Unit :=
  (if 0 ≤ l4 then (dbind (dread (gfR l0 12 16)) fun x3 => dbind (dread (aald x3 l4)) fun x4 => dbind (dput (iast x4 6 1)) fun _ => dbind (dread (gfR l0 12 16)) fun x6 => dbind (dread (aald x6 l4)) fun x7 => dbind (dput (iast x7 7 (15 * l3))) fun _ => dbind (dread (isC l0 12)) fun x9 => dbind (DX12_notes l0 0 l4 (15 * l3) l1) fun _ => DX12_passes_b192 k16 l0 l1 l2 l3) else (DX12_passes_b192 k16 l0 l1 l2 l3))
theorem r_callL {w : Wd} {a : Nat} {L : Lay} {W : Wt} (h : Wv w a L W) (c : Int32) (k16 : Nat → Int32 → Int32 → Int32 → Dm Unit) : ∀ (i F : Nat) (r : Int32), i ≤ nmen W → i < F → Bs (cCand W c) (cKey W) i (nmen W) r → (DX12_passes_L53 k16 F a 1 1 c r (nI i - 1)).1 w = (callEnd k16 a 1 1 c (bst 0 W c (nmen W))).1 w := by
  obtain ⟨hA, ho, hW, hb⟩ := id h
  have hT := hW.1
  have h12 := (OkT_n hT).2
  intro i
  induction i with
  | zero =>
    intro F r hi hF hB
    obtain ⟨F, rfl⟩ : ∃ F', F = F' + 1 := ⟨F - 1, by omega⟩
    show (DX12_passes_b53 _ _ _ _ _ _ _ _).1 w = _
    unfold DX12_passes_b53
    rw [i_t (by decide), Bs_q hB (bst_Bs hT c (nmen W) h12)]
    rfl
  | succ i ih =>
    intro F r hi hF hB
    obtain ⟨F, rfl⟩ : ∃ F', F = F' + 1 := ⟨F - 1, by omega⟩
    show (DX12_passes_b53 _ _ _ _ _ _ _ _).1 w = _
    unfold DX12_passes_b53
    have e : nI (i + 1) - 1 = nI i := by rw [nI_succ, Int32.add_sub_cancel]
    have hm : i < nmen W := by omega
    have z := Bs_dn hm (by omega) hB
    have hb2 := Bs_n1 hB (by omega)
    have go1 : Bs (cCand W c) (cKey W) i (nmen W) r → (DX12_passes_b141 (DX12_passes_L53 k16 F) a 1 1 c r (nI i)).1 w = (callEnd k16 a 1 1 c (bst 0 W c (nmen W))).1 w := fun q => by
      unfold DX12_passes_b141
      rw [show nI i + (-1) = nI i - 1 by rw [Int32.sub_eq_add_neg]]
      exact ih F r (by omega) (by omega) q
    have go2 : Bs (cCand W c) (cKey W) i (nmen W) (nI i) → (DX12_passes_b137 (DX12_passes_L53 k16 F) a 1 1 c (nI i)).1 w = (callEnd k16 a 1 1 c (bst 0 W c (nmen W))).1 w := fun q => by
      unfold DX12_passes_b137 DX12_passes_b141
      rw [show nI i + (-1) = nI i - 1 by rw [Int32.sub_eq_add_neg]]
      exact ih F (nI i) (by omega) (by omega) q
    have hc := r_call hA ho hW hm
    obtain ⟨ci, hci, eci⟩ := dCall_n 0 W i
    rw [e, i_f (nI_pos (by omega)), b_rd (g_C hA), b_ok (r_is hA hT hm c 0)]
    by_cases c1 : W (90 + i) = c ∧ W (40 + i) = 0
    · rw [if_pos c1, i_f z1, b_rd (g_C hA), b_ok hc]
      by_cases c2 : dCall 0 W i = 0
      · rw [i_t c2]
        exact go1 (z.2 (fun y => by have := y.1.2.2; rw [c2] at this; exact absurd this (by decide)))
      · rw [i_f c2]
        have hp : 0 < dCall 0 W i := by
          rw [eci] at c2 ⊢
          rw [show (0 : Int32) = nI 0 by decide, nn_lt (by omega) (by omega)]
          rcases Nat.eq_zero_or_pos ci with y | y
          · subst y; exact absurd rfl c2
          · exact y
        have cd : cCand W c i := ⟨c1.1, c1.2, hp⟩
        rcases hb2.2 with er | ⟨k, hk, -, er, -⟩
        · rw [i_t (by rw [er]; decide)]
          exact go2 (z.1 ⟨cd, Or.inl er⟩)
        · have ck := r_call hA ho hW hk
          have rn : r ≠ -1 := by rw [er]; exact nI_m1 (by omega)
          have rk : nt r = k := by rw [er, nt_nI (by omega)]
          rw [rk] at z
          rw [(cKey_lt hT (by omega) (by omega)).2] at z
          rw [i_f (by rw [er]; exact nI_pos (by omega)), b_rd (g_C hA), b_ok hc, b_rd (g_C hA), er, b_ok ck]
          rw [er] at z go1
          by_cases c3 : dCall 0 W k < dCall 0 W i
          · rw [i_t c3]
            exact go2 (z.1 ⟨cd, Or.inr (Or.inl c3)⟩)
          · rw [i_f c3, b_rd (g_C hA), b_ok hc, b_rd (g_C hA), b_ok ck]
            by_cases c4 : dCall 0 W i = dCall 0 W k
            · rw [i_t c4, b_rd (g_R hA 16 (by decide) (by decide)), b_rd (g_man hA hT hm), b_rd (g_m1 hA hm), b_rd (g_R hA 16 (by decide) (by decide)), b_rd (g_man hA hT hk), b_rd (g_m1 hA hk)]
              by_cases c5 : W (102 + i) < W (102 + k)
              · rw [i_t c5]
                exact go1 (z.2 (fun y => y.2.elim (fun x => rn (er.trans x)) (fun x => x.elim c3 (fun x => x.2 c5))))
              · rw [i_f c5]
                exact go2 (z.1 ⟨cd, Or.inr (Or.inr ⟨c4, c5⟩)⟩)
            · rw [i_f c4]
              exact go1 (z.2 (fun y => y.2.elim (fun x => rn (er.trans x)) (fun x => x.elim c3 (fun x => c4 x.1))))
    · rw [if_neg c1, i_t rfl]
      exact go1 (z.2 (fun y => c1 ⟨y.1.1, y.1.2.1⟩))
theorem r_callEnd {w : Wd} {a : Nat} {L : Lay} {W : Wt} {n : Nat} (h : Wv w a L W) (hR : Rm w (n + 1)) {c : Nat} (hc : c < 2) (k16 : Nat → Int32 → Int32 → Int32 → Dm Unit) : ∃ w' L', (callEnd k16 a 1 1 (nI c) (bst 0 W (nI c) (nmen W))).1 w = (k16 a 1 1 (nI (c + 1))).1 w' ∧ Go w a L W w' L' (dCalls 0 1 (nI c) W) ∧ Rm w' n := by
  obtain ⟨hA, ho, hW, hb⟩ := id h
  have hT := hW.1
  have h12 := (OkT_n hT).2
  unfold callEnd DX12_passes_b192 dCalls
  rw [nI_succ]
  rcases bst_ok 0 W (nI c) (nmen W) with e | ⟨k, hk, e, k1, k2, k3⟩
  · rw [e, i_f (by decide), if_pos rfl]
    exact ⟨w, L, rfl, Go_rf h, Rm_le hR (by omega)⟩
  · have e15 : (15 : Int32) * nI c = dEnd (nI c) := by
      rcases (by omega : c = 0 ∨ c = 1) with rfl | rfl <;> decide
    rw [e, if_neg (nI_m1 (by omega)), nt_nI (by omega), i_t (by rw [i_le]; exact nI_pos (by omega))]
    have hW' : WO (upd (upd W (40 + k) 1) (52 + k) (dEnd (nI c))) := by
      have q := (dCalls_w (fa := 0) (tr := 0) (c := nI c) hW).1
      unfold dCalls at q
      rw [e, if_neg (nI_m1 (by omega)), nt_nI (by omega)] at q
      exact q
    have g := Go_take h hk hW'
    obtain ⟨w', L', q1, q2, q3⟩ := r_notes g.1 (Rm_wr (P := upd (upd (w.2.2 (L.2.1 k)) 6 1) 7 (dEnd (nI c))) (q := L.2.1 k) hR) 0 (nI k) (dEnd (nI c))
    refine ⟨w', L', ?_, Go_tr g q2, q3⟩
    have rw_ := row_of hA hk
    rw [b_rd (g_R hA 16 (by decide) (by decide)), b_rd (g_man hA hT hk), b_row0 rw_ 6 6 _ (by decide) (by decide) (by decide)]
    rw [b_rd (show gfR a 12 16 (wr w (L.2.1 k) _) = some (L.1 16) from g_R hA 16 (by decide) (by decide)), b_rd (show aald (L.1 16) (nI k) (wr w (L.2.1 k) _) = some (L.2.1 k) from g_man hA hT hk), b_row rw_ 7 7 _ (by decide) (by decide) (by decide), e15, b_rd (g_C g.1.1), b_ok q1]
theorem r_callUp {w : Wd} {a : Nat} {L : Lay} {W : Wt} {n : Nat} (h : Wv w a L W) (hR : Rm w (n + 1)) {c : Nat} (hc : c < 2) (F : Nat) : ∃ w' L', (DX12_passes_L16 (F + 1) a 1 1 (nI c)).1 w = (DX12_passes_L16 F a 1 1 (nI (c + 1))).1 w' ∧ Go w a L W w' L' (dCallUp 0 1 c W) ∧ Rm w' n := by
  obtain ⟨hA, ho, hW, hb⟩ := id h
  have hT := hW.1
  have h12 := (OkT_n hT).2
  show ∃ w' L', (DX12_passes_b16 _ _ _ _ _).1 w = _ ∧ _
  unfold DX12_passes_b16 dCallUp
  rw [i_f (by rw [show (2 : Int32) = nI 2 by decide, nn_le (by decide) (by omega)]; omega), i_f z1, b_rd (g_C hA), b_ok (r_field hA hT _), b_rd (g_R hA 13 (by decide) (by decide)), b_rd (g_wa hA hc)]
  by_cases c1 : sIn W (nI c) < W (82 + c)
  · rw [i_t c1, if_pos c1, b_rd (g_6 hA), (OkT_n hT).1, r_callL h (nI c) _ (nmen W) FU (-1) (by omega) (by show _ < 10000; omega) (Or.inl ⟨rfl, fun j h1 h2 => by omega⟩)]
    exact r_callEnd h hR hc _
  · rw [i_f c1, if_neg c1]
    unfold DX12_passes_b192
    rw [nI_succ]
    exact ⟨w, L, rfl, Go_rf h, Rm_le hR (by omega)⟩
