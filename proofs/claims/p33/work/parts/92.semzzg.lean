/-! THE LAW put down, both sides -/
theorem m_putsLaw {w : Mem} {L s : Nat} (hL : L ≤ 16) (hs : s ≤ 400) (h13 : w 146 13 = nI L) (h14 : w 146 14 = nI s) : ∃ w', FX12_putsLaw_146 w = some (nI L, w') ∧ (∀ c, c ≠ 147 → w' c = w c) ∧ l9 (w 147) (w' 147) ∧ w' 147 84 = nI L ∧ (∀ l, l < L → w' 147 (900 + l) = w 151 (4 * l) ∧ w' 147 (916 + l) = w 151 (4 * l + 1) ∧ w' 147 (932 + l) = w 151 (4 * l + 2) ∧ w' 147 (948 + l) = w 151 (4 * l + 3)) ∧ ∀ x, x < 2 * s → w' 147 (966 + x) = w 152 x := by
  unfold FX12_putsLaw_146
  rw [b_some, h13]
  have two : ∀ v : Mem, (∀ c, c ≠ 147 → v c = w c) → l9 (w 147) (v 147) → v 147 84 = nI L → (∀ l, l < L → v 147 (900 + l) = w 151 (4 * l) ∧ v 147 (916 + l) = w 151 (4 * l + 1) ∧ v 147 (932 + l) = w 151 (4 * l + 2) ∧ v 147 (948 + l) = w 151 (4 * l + 3)) → ∃ w', FX12_putsLaw_146_L107 FU 0 v = some (nI L, w') ∧ (∀ c, c ≠ 147 → w' c = w c) ∧ l9 (w 147) (w' 147) ∧ w' 147 84 = nI L ∧ (∀ l, l < L → w' 147 (900 + l) = w 151 (4 * l) ∧ w' 147 (916 + l) = w 151 (4 * l + 1) ∧ w' 147 (932 + l) = w 151 (4 * l + 2) ∧ w' 147 (948 + l) = w 151 (4 * l + 3)) ∧ ∀ x, x < 2 * s → w' 147 (966 + x) = w 152 x := by
    intro v v1 v2 v3 v4
    have hh := lp_r (fun F i u => FX12_putsLaw_146_L107 F i u) (2 * s) (fun x u => (∀ c, c ≠ 147 → u c = w c) ∧ l9 (w 147) (u 147) ∧ u 147 84 = nI L ∧ (∀ l, l < L → u 147 (900 + l) = w 151 (4 * l) ∧ u 147 (916 + l) = w 151 (4 * l + 1) ∧ u 147 (932 + l) = w 151 (4 * l + 2) ∧ u 147 (948 + l) = w 151 (4 * l + 3)) ∧ ∀ y, y < x → u 147 (966 + y) = w 152 y) (fun o => ∃ w', o = some (nI L, w') ∧ (∀ c, c ≠ 147 → w' c = w c) ∧ l9 (w 147) (w' 147) ∧ w' 147 84 = nI L ∧ (∀ l, l < L → w' 147 (900 + l) = w 151 (4 * l) ∧ w' 147 (916 + l) = w 151 (4 * l + 1) ∧ w' 147 (932 + l) = w 151 (4 * l + 2) ∧ w' 147 (948 + l) = w 151 (4 * l + 3)) ∧ ∀ x, x < 2 * s → w' 147 (966 + x) = w 152 x) (fun x u hx h => ?_) (fun u h F => ?_) FU 0 v (by omega) (by show _ < 10000; omega) ⟨v1, v2, v3, v4, fun y hy => by omega⟩
    · rw [nI_0] at hh; exact hh
    · obtain ⟨a1, a2, a3, a4, a5⟩ := h
      refine Or.inl ⟨mupd u 147 (966 + x) (w 152 x), ⟨fun c hc => by rw [m_ne hc]; exact a1 c hc, fun k hk h84 => by rw [m_eq, up_ne (by omega)]; exact a2 k hk h84, by rw [m_eq, up_ne (by omega)]; exact a3, fun l hl => by rw [m_eq, up_ne (by omega), up_ne (by omega), up_ne (by omega), up_ne (by omega)]; exact a4 l hl, fun y hy => ?_⟩, fun F => ?_⟩
      · rw [m_eq]
        by_cases e : y = x
        · rw [e, up_eq]
        · rw [up_ne (by omega)]; exact a5 y (by omega)
      · show FX12_putsLaw_146_b107 _ _ _ = _
        unfold FX12_putsLaw_146_b107
        rw [a1 146 (by decide), h14, li_mul, if_neg (nle (n := 2 * s) hx (by omega)), rb (by omega) (by omega), a1 152 (by decide), wl (by show 966 + x < 1786; omega) (by omega), nI_1]
    · refine ⟨u, ?_, h⟩
      show FX12_putsLaw_146_b107 _ _ _ = _
      unfold FX12_putsLaw_146_b107
      rw [h.1 146 (by decide), h14, li_mul, if_pos (yle (n := 2 * s) (by omega)), h13]
  have hh := lp_r (fun F i u => FX12_putsLaw_146_L13 F i u) L (fun x u => (∀ c, c ≠ 147 → u c = w c) ∧ l9 (w 147) (u 147) ∧ u 147 84 = nI L ∧ ∀ l, l < x → u 147 (900 + l) = w 151 (4 * l) ∧ u 147 (916 + l) = w 151 (4 * l + 1) ∧ u 147 (932 + l) = w 151 (4 * l + 2) ∧ u 147 (948 + l) = w 151 (4 * l + 3)) (fun o => ∃ w', o = some (nI L, w') ∧ (∀ c, c ≠ 147 → w' c = w c) ∧ l9 (w 147) (w' 147) ∧ w' 147 84 = nI L ∧ (∀ l, l < L → w' 147 (900 + l) = w 151 (4 * l) ∧ w' 147 (916 + l) = w 151 (4 * l + 1) ∧ w' 147 (932 + l) = w 151 (4 * l + 2) ∧ w' 147 (948 + l) = w 151 (4 * l + 3)) ∧ ∀ x, x < 2 * s → w' 147 (966 + x) = w 152 x) (fun x u hx h => ?_) (fun u h F => ?_) FU 0 (mupd w 147 84 (nI L)) (by omega) (by show _ < 10000; omega) ⟨fun c hc => m_ne hc, fun k hk h84 => by rw [m_eq, up_ne h84], by rw [m_eq, up_eq], fun l hl => by omega⟩
  · rw [nI_0] at hh; exact hh
  · obtain ⟨a1, a2, a3, a4⟩ := h
    refine Or.inl ⟨mupd (mupd (mupd (mupd u 147 (900 + x) (w 151 (4 * x))) 147 (916 + x) (w 151 (4 * x + 1))) 147 (932 + x) (w 151 (4 * x + 2))) 147 (948 + x) (w 151 (4 * x + 3)), ⟨fun c hc => by rw [m_ne hc, m_ne hc, m_ne hc, m_ne hc]; exact a1 c hc, fun k hk h84 => by rw [m_eq, up_ne (by omega), m_eq, up_ne (by omega), m_eq, up_ne (by omega), m_eq, up_ne (by omega)]; exact a2 k hk h84, by rw [m_eq, up_ne (by omega), m_eq, up_ne (by omega), m_eq, up_ne (by omega), m_eq, up_ne (by omega)]; exact a3, fun l hl => ?_⟩, fun F => ?_⟩
    · rw [m_eq, m_eq, m_eq, m_eq]
      by_cases e : l = x
      · rw [e, up_ne (by omega), up_ne (by omega), up_ne (by omega), up_eq, up_ne (by omega), up_ne (by omega), up_eq, up_ne (by omega), up_eq, up_eq]
        exact ⟨rfl, rfl, rfl, rfl⟩
      · have hlx : l < x := by omega
        obtain ⟨b1, b2, b3, b4⟩ := a4 l hlx
        refine ⟨?_, ?_, ?_, ?_⟩
        · rw [up_ne (by omega), up_ne (by omega), up_ne (by omega), up_ne (by omega)]; exact b1
        · rw [up_ne (by omega), up_ne (by omega), up_ne (by omega), up_ne (by omega)]; exact b2
        · rw [up_ne (by omega), up_ne (by omega), up_ne (by omega), up_ne (by omega)]; exact b3
        · rw [up_ne (by omega), up_ne (by omega), up_ne (by omega), up_ne (by omega)]; exact b4
    · show FX12_putsLaw_146_b13 _ _ _ = _
      unfold FX12_putsLaw_146_b13
      have e4 : (4 : Int32) * nI x = nI (4 * x) := li_mul 4 x
      have e41 : nI (4 * x) + 1 = nI (4 * x + 1) := nI_1 _
      have e42 : nI (4 * x) + 2 = nI (4 * x + 2) := add_li 2 _
      have e43 : nI (4 * x) + 3 = nI (4 * x + 3) := add_li 3 _
      have e9 : (900 : Int32) + nI x = nI (900 + x) := li_add 900 x
      have e91 : (916 : Int32) + nI x = nI (916 + x) := li_add 916 x
      have e93 : (932 : Int32) + nI x = nI (932 + x) := li_add 932 x
      have e94 : (948 : Int32) + nI x = nI (948 + x) := li_add 948 x
      have n51 : (151 : Nat) ≠ 147 := by decide
      rw [a1 146 (by decide), h13, if_neg (nle hx (by omega)), e4, e41, e42, e43, e9, e91, e93, e94, rb (by omega) (by omega), wb (by omega) (by omega), rb (by omega) (by omega), wb (by omega) (by omega), rb (by omega) (by omega), wb (by omega) (by omega), rb (by omega) (by omega), wb (by omega) (by omega), nI_1]
      simp only [m_ne n51]
      rw [a1 151 (by decide)]
  · obtain ⟨a1, a2, a3, a4⟩ := h
    have ex : FX12_putsLaw_146_L13 (F + 1) (nI L) u = FX12_putsLaw_146_L107 FU 0 u := by
      show FX12_putsLaw_146_b13 _ _ _ = _
      unfold FX12_putsLaw_146_b13
      rw [a1 146 (by decide), h13, if_pos (yle (by omega))]
    show ∃ w', FX12_putsLaw_146_L13 (F + 1) (nI L) u = _ ∧ _
    rw [ex]
    exact two u a1 a2 a3 a4
theorem opsW_ge {W W' : Wt} : ∀ (k p : Nat), (∀ x, 966 ≤ x → x < 966 + 2 * (p + k) → W' x = W x) → opsW W' p k = opsW W p k
  | 0, _, _ => rfl
  | k + 1, p, h => by
    show (_, _) :: opsW W' (p + 1) k = (_, _) :: opsW W (p + 1) k
    rw [h _ (by omega) (by omega), h _ (by omega) (by omega), opsW_ge k (p + 1) (fun x h1 hx => h x h1 (by omega))]
def law8 (u : Mem) : Mem := mupd (mupd (cpM (cpM (cpM (cpM (cpM u 40 9 400) 41 10 16) 42 11 16) 43 12 16) 44 13 16) 8 6 (u 39 6)) 8 7 (u 39 7)
theorem law8_e (u : Mem) : FX4_become_8_39 u = some (law8 u) := by
  unfold FX4_become_8_39 law8
  rw [b_some, b_some, b_some, b_some, b_some, b_some, b_some]
  rw [m_ne (show 39 ≠ 8 by decide), cpM_ne _ (show 39 ≠ 13 by decide), cpM_ne _ (show 39 ≠ 12 by decide), cpM_ne _ (show 39 ≠ 11 by decide), cpM_ne _ (show 39 ≠ 10 by decide), cpM_ne _ (show 39 ≠ 9 by decide)]
theorem law8_c (u : Mem) {c : Nat} (h : c < 8 ∨ 13 < c) : law8 u c = u c := by
  unfold law8
  rw [m_ne (by omega), m_ne (by omega), cpM_ne _ (by omega), cpM_ne _ (by omega), cpM_ne _ (by omega), cpM_ne _ (by omega), cpM_ne _ (by omega)]
theorem law8_7 (u : Mem) : law8 u 8 7 = u 39 7 := by unfold law8; rw [m_eq, up_eq]
theorem law8_9 (u : Mem) {j : Nat} (h : j < 400) : law8 u 9 j = u 40 j := by
  unfold law8
  rw [m_ne (by decide), m_ne (by decide), cpM_ne _ (by decide), cpM_ne _ (by decide), cpM_ne _ (by decide), cpM_ne _ (by decide), cpM_at, if_pos h]
theorem law8_w (u : Mem) {j c : Nat} (h : j < 16) (hc : 10 ≤ c ∧ c ≤ 13) : law8 u c j = u (c + 31) j := by
  unfold law8
  rw [m_ne (by omega), m_ne (by omega)]
  rcases (by omega : c = 10 ∨ c = 11 ∨ c = 12 ∨ c = 13) with rfl | rfl | rfl | rfl
  · rw [cpM_ne _ (by decide), cpM_ne _ (by decide), cpM_ne _ (by decide), cpM_at, if_pos h, cpM_ne _ (by decide)]
  · rw [cpM_ne _ (by decide), cpM_ne _ (by decide), cpM_at, if_pos h, cpM_ne _ (by decide), cpM_ne _ (by decide)]
  · rw [cpM_ne _ (by decide), cpM_at, if_pos h, cpM_ne _ (by decide), cpM_ne _ (by decide), cpM_ne _ (by decide)]
  · rw [cpM_at, if_pos h, cpM_ne _ (by decide), cpM_ne _ (by decide), cpM_ne _ (by decide), cpM_ne _ (by decide)]
theorem take_seg (o : pxT) (p n : Nat) : o.take (p + n) = o.take p ++ seg o p n := List.take_add
theorem law_W {o : pxT} {L : Nat} {u w : Mem} {W' : Wt} (hC : txC o u) (hM : myC o w) (h4 : encL o ≤ 400) (hL : L ≤ 16) (h7 : u 39 7 = nI L) (hln : ∀ l, l < L → lnO o l u w) (e84 : W' 84 = nI L) (e9 : ∀ l, l < L → W' (900 + l) = w 151 (4 * l) ∧ W' (916 + l) = w 151 (4 * l + 1) ∧ W' (932 + l) = w 151 (4 * l + 2) ∧ W' (948 + l) = w 151 (4 * l + 3)) (e6 : ∀ x, x < 2 * o.length → W' (966 + x) = w 152 x) : LW W' ∧ LC 8 (law8 u) W' := by
  have hlen := len_enc o
  have nL : nt (W' 84) = L := by rw [e84, nt_nI (by omega)]
  have ag : ∀ x, 966 ≤ x → x < 966 + 2 * (0 + o.length) → W' x = myS (w 152) x := fun x h1 h2 => by
    obtain ⟨y, rfl⟩ : ∃ y, x = 966 + y := ⟨x - 966, by omega⟩
    unfold myS
    rw [if_neg (by omega), e6 y (by omega), Nat.add_sub_cancel_left]
  have ops : opsW W' 0 o.length = o := by rw [opsW_ge _ _ ag]; exact hM.2.1
  have okW' : okW W' 0 o.length := fun j hj => by
    rw [ag _ (by omega) (by omega), ag _ (by omega) (by omega)]; exact hM.2.2 j hj
  have line : ∀ l, l < L → ∃ k p n1 n2, k < 4 ∧ p + n1 + n2 ≤ o.length ∧ lp W' l = p ∧ lk W' l = n1 ∧ ll W' l = n2 ∧ W' (900 + l) = nI p ∧ W' (916 + l) = nI (p + n1) ∧ W' (932 + l) = nI (p + n1 + n2) ∧ W' (948 + l) = nI (20 + k) ∧ wfO (seg o p n1) 0 1 ∧ (n2 = 0 ∨ wfO (seg o (p + n1) n2) 0 1) ∧ u 41 l = nI k ∧ u 42 l = nI (encL (o.take p)) ∧ u 43 l = nI (encL (o.take (p + n1))) ∧ u 44 l = nI (encL (o.take (p + n1 + n2))) := by
    intro l hl
    obtain ⟨k, p, n1, n2, a1, a2, a3, a4, a5, a6, a7⟩ := hln l hl
    obtain ⟨b1, b2, b3, b4⟩ := e9 l hl
    rw [a3] at b1
    rw [a4] at b2
    rw [a5] at b3
    rw [a6] at b4
    refine ⟨k, p, n1, n2, a1, a2, ?_, ?_, ?_, b1, b2, b3, b4, a7⟩
    · unfold lp; rw [b1, nt_nI (by omega)]
    · unfold lk; rw [b1, b2, nt_nI (by omega), nt_nI (by omega), Nat.add_sub_cancel_left]
    · unfold ll; rw [b2, b3, nt_nI (by omega), nt_nI (by omega), Nat.add_sub_cancel_left]
  refine ⟨⟨by rw [nL]; exact ⟨e84, hL⟩, fun l hl => ?_⟩, ⟨by rw [law8_7, h7, e84], fun l hl => ?_⟩⟩
  · rw [nL] at hl
    obtain ⟨k, p, n1, n2, a1, a2, q1, q2, q3, b1, b2, b3, b4, w1, w2, -⟩ := line l hl
    unfold LW1
    rw [q1, q2, q3, seg_opsW ops n1 p (by omega), seg_opsW ops n2 (p + n1) (by omega)]
    refine ⟨⟨k, a1, b4⟩, b1, b2, b3, by omega, fun j hj => ?_, w1, w2⟩
    have := okW' (p + j) (by omega)
    rw [Nat.zero_add] at this
    exact this
  · rw [nL] at hl
    obtain ⟨k, p, n1, n2, a1, a2, q1, q2, q3, b1, b2, b3, b4, w1, w2, c1, c2, c3, c4⟩ := line l hl
    have hl16 : l < 16 := by omega
    have s1 := take_seg o p n1
    have s2 := take_seg o (p + n1) n2
    have t1 : encL (o.take (p + n1)) = encL (o.take p) + encL (seg o p n1) := by rw [s1, encL_app]
    have t2 : encL (o.take (p + n1 + n2)) = encL (o.take p) + encL (seg o p n1) + encL (seg o (p + n1) n2) := by rw [s2, encL_app, t1]
    have t3 : o = o.take (p + n1 + n2) ++ o.drop (p + n1 + n2) := (List.take_append_drop _ _).symm
    have t4 : encL (o.take (p + n1 + n2)) ≤ encL o := by
      have := encL_app (o.take (p + n1 + n2)) (o.drop (p + n1 + n2))
      rw [← t3] at this; omega
    have en : encAt (u 40) 0 (o.take p ++ seg o p n1 ++ seg o (p + n1) n2) := by
      have h := hC.2
      rw [t3, encAt_app] at h
      rw [← s1, ← s2]; exact h.1
    rw [encAt_app, encAt_app, encL_app, Nat.zero_add, Nat.zero_add] at en
    unfold LC1
    rw [q1, q2, q3, seg_opsW ops n1 p (by omega), seg_opsW ops n2 (p + n1) (by omega)]
    refine ⟨⟨k, a1, b4, ?_⟩, encL (o.take p), ?_, ?_, ?_, by omega, ?_, ?_⟩
    · exact (law8_w u (c := 10) hl16 (by omega)).trans c1
    · exact (law8_w u (c := 11) hl16 (by omega)).trans c2
    · rw [← t1]; exact (law8_w u (c := 12) hl16 (by omega)).trans c3
    · rw [← t2]; exact (law8_w u (c := 13) hl16 (by omega)).trans c4
    · exact encAt_B (B := 400) (fun j hj => law8_9 u hj) _ _ (by omega) en.1.2
    · exact encAt_B (B := 400) (fun j hj => law8_9 u hj) _ _ (by omega) en.2
theorem TR_cgx {v v' : Mem} {W : Wt} (e : ∀ c, (1 ≤ c ∧ c ≤ 7) ∨ (15 ≤ c ∧ c ≤ 22) → v' c = v c) (h : TR 1 v W) : TR 1 v' W := by
  unfold TR at h ⊢
  rw [e 1 (by omega), e (1 + 1) (by omega), e (1 + 2) (by omega), e (1 + 3) (by omega), e (1 + 4) (by omega), e (1 + 5) (by omega), e (1 + 6) (by omega), e (1 + 14) (by omega), e (1 + 15) (by omega), e (1 + 16) (by omega), e (1 + 17) (by omega), e (1 + 18) (by omega), e (1 + 19) (by omega), e (1 + 20) (by omega), e (1 + 21) (by omega)]
  exact h
/-- nothing was told -/
theorem SP_txt {v v' w w' : Mem} (h : SP v w) (hc : ∀ c, c < 34 ∨ c = 35 ∨ 51 < c → v' c = v c) (h12 : v' 34 12 = 0) (hw : ∀ c, c = 147 ∨ c = 148 ∨ c = 149 → w' c = w c) (h4 : w' 146 4 = w 146 4) (h5 : w' 146 5 = w 146 5) (h16 : w' 146 16 = 0) (h13 : v' 34 13 = w' 146 23) (h14 : v' 34 14 = w' 146 25) : SP v' w' := by
  obtain ⟨a, b, c, d, f, g⟩ := h
  unfold SP
  rw [hw 147 (by omega), hw 148 (by omega), hw 149 (by omega)]
  exact ⟨a, XD_cg (fun c h => hc c (by omega)) b, by rw [hc 104 (by omega)]; exact c, UN_M h4 (UN_cg (fun c h => hc c (by omega)) d), IMG_M h5 (IMG_cg (fun c h => hc c (by omega)) f), 0, by omega, by rw [h12]; exact nI_0.symm, by rw [h16]; exact nI_0.symm, fun i hi => by omega, h13, h14⟩
theorem text_0 {v w : Mem} (h : SP v w) : ∃ r v' w', FX11_text_0 (nI 0) v = some (r, v') ∧ FX12_text_146 (nI 0) w = some (r, w') ∧ SP v' w' := by
  have hsp := h
  obtain ⟨a, b, c, d, f, n, r1, r2, r3, r4, r5, r6⟩ := h
  have hTw : TP (fun i => nt (w 154 i)) n (w 154) := ⟨r1, fun i hi => by
    obtain ⟨e1, x, e2, e3⟩ := r4 i hi
    show w 154 i = nI (nt (w 154 i)) ∧ nt (w 154 i) < 256
    rw [e3, nt_nI (by omega)]; exact ⟨rfl, e2⟩⟩
  have hTv : TP (fun i => nt (w 154 i)) n (v 35) := ⟨r1, fun i hi => by rw [(r4 i hi).1]; exact hTw.2 i hi⟩
  generalize (fun i => nt (w 154 i)) = bt at hTw hTv
  obtain ⟨u, N, e1, N1, N2, N3, hA, h11, h12, h6, h7, -, -, -, hu⟩ := c_begin (v0 := w 146 20) (show 0 < 4 by decide) hTv r2
  obtain ⟨w1, e2, hT, h23, h25, hw, hw6⟩ := m_begin (show 0 < 4 by decide) hTw r3
  rw [if_pos (by decide)] at e2
  have hZ := kk_K (v0 := w 146 20) (show 0 < 4 by decide) r1 N1 N2 N3
  have hY := kk_Y (v0 := w 146 20) r1 N1 N2 N3
  have hT2 : myT 0 bt n (w 146 20) 0 (mupd (mupd w1 146 13 0) 146 14 0) := by
    unfold myT txS
    rw [m_eq, up_ne (by decide), up_ne (by decide), up_ne (by decide), up_ne (by decide), up_ne (by decide), up_ne (by decide), m_eq, up_ne (by decide), up_ne (by decide), up_ne (by decide), up_ne (by decide), up_ne (by decide), up_ne (by decide), m_ne (by decide), m_ne (by decide)]
    exact hT
  have hM2 : myC [] (mupd (mupd w1 146 13 0) 146 14 0) := ⟨by rw [m_eq, up_eq]; exact nI_0.symm, rfl, fun j hj => by cases hj⟩
  obtain ⟨u', x, w', g1, g2, g3, g4, g5⟩ := law_L hZ hY 400 0 [] u (mupd (mupd w1 146 13 0) 146 14 0) FU FU 0 0 (by omega) (by decide) (by decide) hA ⟨by rw [h6]; exact nI_0.symm, trivial⟩ hT2 hM2 (Nat.le_refl _) (by rw [h11]; exact nI_0.symm) (by rw [h7]; exact nI_0.symm) (by rw [m_eq, up_ne (by decide), m_eq, up_eq]; exact nI_0.symm) (by decide) (fun l hl => by omega) (Nat.le_refl _)
  have z0 : nI 0 = 0 := nI_0
  rw [z0] at e1 e2 g1
  have ec : FX6_read_34_1 0 v = FX6_read_34_1_b127 0 u' := e1.trans g1
  have em : FX12_text_146 0 w = FX12_text_146_b60 0 x w' := by
    rw [e2]
    unfold FX12_readsLaw_146
    rw [b_some, b_some, g2, b2_some]
  have cu : ∀ c, c < 34 ∨ c = 35 ∨ 51 < c → u' c = v c := fun c hc => by rw [g3.1 c (by omega), hu c hc]
  have c12 : u' 34 12 = 0 := by rw [g3.2 12 (by decide) (by decide) (by decide) (by decide) (by decide)]; exact h12
  have cw : ∀ c, c ≠ 146 → c ≠ 151 → c ≠ 152 → w' c = w c := fun c h1 h2 h3 => by rw [g4.1 c h1 h2 h3, m_ne h1, m_ne h1, hw c h1]
  have cw6 : ∀ j, j < 12 → w' 146 j = w 146 j := fun j hj => by rw [g4.2 j (by omega), m_eq, up_ne (by omega), m_eq, up_ne (by omega), hw6 j (by omega)]
  rw [z0]
  rcases g5 with ⟨x0, fa, y, f0, f4, k1, k2, k3, k4⟩ | ⟨x1, o', L', k0, kL, k11, k7, k13, kC, kM, k400, kln⟩
  · refine ⟨-1, u', mupd (mupd (mupd w' 146 16 0) 146 23 (w' 146 21)) 146 25 (w' 146 22), ?_, ?_, SP_txt hsp cu c12 (fun c hc => by rw [m_ne (by omega), m_ne (by omega), m_ne (by omega), cw c (by omega) (by omega) (by omega)]) ?_ ?_ ?_ ?_ ?_⟩
    · unfold FX11_text_0 FX11_text_0_b35
      rw [ec]
      unfold FX6_read_34_1_b127
      rw [if_neg (by rw [k1]; exact nI_f f0 f4), b2_some, if_pos rfl]
    · rw [em]
      unfold FX12_text_146_b60
      rw [b_some, if_pos x0, m_eq, up_ne (by decide), b_some, m_eq, up_ne (by decide), m_eq, up_ne (by decide), b_some]
    · rw [m_eq, up_ne (by decide), m_eq, up_ne (by decide), m_eq, up_ne (by decide)]; exact cw6 4 (by decide)
    · rw [m_eq, up_ne (by decide), m_eq, up_ne (by decide), m_eq, up_ne (by decide)]; exact cw6 5 (by decide)
    · rw [m_eq, up_ne (by decide), m_eq, up_ne (by decide), m_eq, up_eq]
    · rw [m_eq, up_ne (by decide), m_eq, up_eq, k1, k3]
    · rw [m_eq, up_eq, k2, k4]
  · have hs14 : (mupd w' 146 16 0) 146 14 = nI o'.length := by rw [m_eq, up_ne (by decide)]; exact kM.1
    have hlen := len_enc o'
    obtain ⟨w6, p1, p2, p3, p4, p5, p6⟩ := m_putsLaw (w := mupd w' 146 16 0) kL (show o'.length ≤ 400 by omega) (by rw [m_eq, up_ne (by decide)]; exact k13) hs14
    rw [m_ne (show 151 ≠ 146 by decide)] at p5
    rw [m_ne (show 152 ≠ 146 by decide)] at p6
    rw [m_ne (show 147 ≠ 146 by decide), cw 147 (by decide) (by decide) (by decide)] at p3
    obtain ⟨hLW, hLC⟩ := law_W kC kM k400 kL k7 kln p4 p5 p6
    have cx : ∀ c, c < 8 ∨ (13 < c ∧ c < 34) ∨ c = 35 ∨ 51 < c → law8 u' c = v c := fun c hc => by rw [law8_c u' (by omega), cu c (by omega)]
    refine ⟨nI L', law8 u', w6, ?_, ?_, ?_⟩
    · unfold FX11_text_0 FX11_text_0_b35
      rw [ec]
      unfold FX6_read_34_1_b127 FX6_hand_34_1
      rw [if_pos k0.1, if_pos rfl, law8_e, b_some, b_some, b2_some, law8_c u' (by omega), k11, if_neg (nI_m1 (by omega)), if_neg (by decide), if_neg (by decide)]
    · rw [em]
      unfold FX12_text_146_b60 FX12_putsText_146
      rw [b_some, if_neg (by rw [x1]; exact z1), if_pos rfl, p1, b2_some, b2_some]
    · unfold SP
      rw [p2 148 (by decide), p2 149 (by decide), p2 146 (by decide), m_ne (show 148 ≠ 146 by decide), m_ne (show 149 ≠ 146 by decide), cw 148 (by decide) (by decide) (by decide), cw 149 (by decide) (by decide) (by decide)]
      obtain ⟨⟨b1, b2, b3⟩, b4, b5, b6⟩ := b
      refine ⟨⟨OkT_l9 p3 a.1, OkD_cg (fun k hk => p3 k (by omega) (by omega)) a.2.1, hLW⟩, ⟨⟨TR_cgx (fun c hc => cx c (by omega)) (TR_l9 p3 a.1 b1), hLC, BR_W (fun k hk => p3 k (by omega) (by omega)) (BR_cg b3 (fun j hj => cx _ (by omega)))⟩, ?_, by rw [cx 32 (by omega)]; exact b5, by rw [cx 32 (by omega)]; exact b6⟩, by rw [cx 104 (by omega)]; exact c, ?_, ?_, 0, by omega, ?_, ?_, fun i hi => by omega, ?_, ?_⟩
      · intro i hi
        rw [cx 31 (by omega), p3 _ (by omega) (by omega)]; exact b4 i hi
      · exact UN_M (by rw [m_eq, up_ne (by decide)]; exact cw6 4 (by decide)) (UN_W (p3 78 (by decide) (by decide)) (UN_cg (fun c hc => cx c (by omega)) d))
      · exact IMG_M (by rw [m_eq, up_ne (by decide)]; exact cw6 5 (by decide)) (IMG_cg (fun c hc => cx c (by omega)) f)
      · rw [law8_c u' (by omega), c12]; exact nI_0.symm
      · rw [m_eq, up_eq]; exact nI_0.symm
      · rw [law8_c u' (by omega), k0.1, m_eq, up_ne (by decide), g4.2 23 (by decide), m_eq, up_ne (by decide), m_eq, up_ne (by decide), h23]
      · rw [law8_c u' (by omega), k0.2, m_eq, up_ne (by decide), g4.2 25 (by decide), m_eq, up_ne (by decide), m_eq, up_ne (by decide), h25]

