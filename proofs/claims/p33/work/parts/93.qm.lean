/-! texts told: the War and the row go on together -/
/-- all of the row but the rows of tellings, weights, orders stays -/
def sT (W W' : Wt) : Prop := ∀ z, z ≠ 85 → z ≠ 86 → z ≠ 87 → (z < 158 ∨ 270 ≤ z) → W' z = W z
theorem sHills_sT {W W' : Wt} (s : sT W W') : sHills W' = sHills W := by
  refine fo_n rfl (fun i z hi => ?_)
  rw [s _ (by omega) (by omega) (by omega) (by omega)]
theorem nmen_sT {W W' : Wt} (s : sT W W') : nmen W' = nmen W := by
  unfold nmen
  rw [s 78 (by omega) (by omega) (by omega) (by omega)]
theorem r_texts {w : Wd} {a n day : Nat} {L : Lay} {g : Mem} {W : Wt} {S : List Wt} (x : Int32) (h : Wv w a L W) (hl : Lw w g) (hG : GS g W S) (hd : W 0 = nI day) (hd9 : day + 9 < 1000) (hR : Rm w (n + 19500)) : ∃ w' g' L' W', (DL_texts a x).1 w = some (1, w') ∧ Lw w' g' ∧ GS g' W' [] ∧ Wv w' a L' W' ∧ Rm w' n ∧ sT W W' ∧ Kp (fun c => c < 146 ∨ c = a) w w' := by
  obtain ⟨hA, ho, hW, hb⟩ := h
  have hT := hW.1
  obtain ⟨hn, h12⟩ := OkT_n hT
  have ha : 146 ≤ a := hb a RS_a
  have hK : Kn w a (.inr (.inl 12)) (w.2.1 a) (w.2.2 a) := ⟨(WA_r hA).1, rfl, rfl⟩
  obtain ⟨i0, i1, i2, i3, i4, i5, i6, i7, i8, i9, i10, i11⟩ := WA_i hA
  -- tellings
  obtain ⟨N1, hN1, h21, e0⟩ : ∃ N1, N1 ≤ 9 ∧ (2 ≤ nmen W ∨ N1 = 0) ∧ (DL_texts a x).1 w = (DL_texts_b21 a x (nI N1)).1 w := by
    unfold DL_texts
    by_cases c : 2 ≤ nmen W
    · refine ⟨btN (x >>> ((3 : Int32) &&& 31)) 0 9, (btN_r _ (by omega)).2, Or.inl c, ?_⟩
      rw [b_rd (g_6 hA), hn, i_t (by rw [li_le (by decide) (by omega)]; exact c), b_bt _ 0 9 (by omega) (by omega) _ _ (by decide) (by decide)]
    · refine ⟨0, by omega, Or.inr rfl, ?_⟩
      rw [b_rd (g_6 hA), hn, i_f (by rw [li_le (by decide) (by omega)]; exact c)]
      rfl
  obtain ⟨w1, g1, W1, tc, e1, k1, a1, t1, x1, l1, G1, p1, p2, p3, r1⟩ := r_tells1 (n := n + 13000) x hK hl hG hT ha (rfl : nmen W = nmen W) (by rw [i6, hn]) hN1 h21 (Rm_le hR (by omega))
  have hW1 : WO W1 := by have := SP_a l1.2; rw [G1.1] at this; exact this
  obtain ⟨w2, g2, W2, wc, N2, T, e2, k2, a2, t2, x2, l2, G2, hN2, p4, p5, p6, r2⟩ := r_tells2 (n := n + 6500) x a1 l1 G1 ha (Rm_le r1 (by omega))
  obtain ⟨w3, g3, W3, oc, N3, f, e3, k3, a3, t3, x3, l3, G3, hN3, p7, p8, p9, r3⟩ := r_tells3 (n := n) (day := day) x hd9 (by rw [up_ne (by decide), i1, hd]) a2 l2 G2 ha r2
  have hW3 : WO W3 := by have := SP_a l3.2; rw [G3.1] at this; exact this
  have sT3 : sT W W3 := fun z z1 z2 z3 z4 => by rw [p9 z z3 (by omega), p6 z z2 (by omega), p3 z z1 (by omega)]
  have K : Kp (fun c => c < 146 ∨ c = a) w w3 := Kp_tr k1 (Kp_tr k2 k3 (fun _ _ z => z)) (fun _ _ z => z)
  have lw0 := OKs_len ho
  have lw1 := Kp_len k1
  have lw2 := Kp_len k2
  have al : a < w.1.length := Kn_lt hK
  have T1 : Kn w3 tc (.inl 12) (fun _ => none) (tlW (lnT x (nmen W)) N1) := Kn_kp (Kn_kp t1 k2 (by omega)) k3 (by omega)
  have T2 : Kn w3 wc (.inl 8) (fun _ => none) T := Kn_kp t2.1 k3 (by omega)
  have agA : ∀ {c : Nat} {s : Shp}, RS a L W c → w.1[c]? = some s → s ≠ .inr (.inl 12) → agr w w3 c := fun {c s} hc hs hd => Kp_agr K (sh_len hs) (fun z => by
    rcases z with z | z
    · have := hb c hc; omega
    · exact absurd z (ne_sh hs hK.1 hd))
  obtain ⟨s13, s14, s15, s16, s17, s18⟩ := WA_s hA
  have n87 : nt (W3 87) = N3 := by rw [p7, nt_nI (by omega)]
  have e3' : W3 3 = W 3 := sT3 3 (by omega) (by omega) (by omega) (by omega)
  have en := nmen_sT sT3
  have ag13 := agA (RS_j (L := L) (show 13 ≤ 13 by omega) (by omega)) s13 (by simp)
  have ag16 := agA (RS_j (L := L) (show 13 ≤ 16 by omega) (by omega)) s16 (by simp)
  have ag17 := agA (RS_j (L := L) (show 13 ≤ 17 by omega) (by omega)) s17 (by simp)
  obtain ⟨L', hL'⟩ : ∃ L' : Lay, L' = ((fun j => if j = 14 then tc else if j = 15 then wc else if j = 18 then oc else L.1 j), L.2.1, L.2.2.1, f, L.2.2.2.2) := ⟨_, rfl⟩
  have L13 : L'.1 13 = L.1 13 := by rw [hL']; rfl
  have L14 : L'.1 14 = tc := by rw [hL']; rfl
  have L15 : L'.1 15 = wc := by rw [hL']; rfl
  have L16 : L'.1 16 = L.1 16 := by rw [hL']; rfl
  have L17 : L'.1 17 = L.1 17 := by rw [hL']; rfl
  have L18 : L'.1 18 = oc := by rw [hL']; rfl
  have Lm : L'.2.1 = L.2.1 := by rw [hL']
  have Ll : L'.2.2.1 = L.2.2.1 := by rw [hL']
  have Lo : L'.2.2.2.1 = f := by rw [hL']
  have Ld : L'.2.2.2.2 = L.2.2.2.2 := by rw [hL']
  refine ⟨w3, g3, L', W3, by rw [e0, e1, e2, e3], l3, G3, ⟨⟨?_, ?_, ?_, ?_, ?_, ?_, ?_, ?_⟩, l3.1, hW3, ?_⟩, r3, sT3, K⟩
  · unfold WAi
    rw [a3.2.2, up_ne (by decide), up_ne (by decide), up_ne (by decide), up_ne (by decide), up_ne (by decide), up_ne (by decide), up_ne (by decide), up_ne (by decide), up_ne (by decide), up_ne (by decide), up_ne (by decide), up_ne (by decide), up_ne (by decide), up_ne (by decide), up_ne (by decide), up_ne (by decide), up_ne (by decide), up_ne (by decide), up_ne (by decide), up_eq, up_eq, up_ne (by decide), up_ne (by decide), sHills_sT sT3, e3', sT3 0 (by omega) (by omega) (by omega) (by omega), sT3 1 (by omega) (by omega) (by omega) (by omega), sT3 2 (by omega) (by omega) (by omega) (by omega), sT3 78 (by omega) (by omega) (by omega) (by omega), sT3 79 (by omega) (by omega) (by omega) (by omega), sT3 80 (by omega) (by omega) (by omega) (by omega), sT3 81 (by omega) (by omega) (by omega) (by omega), p7, p9 85 (by omega) (by omega), p6 85 (by omega) (by omega), p1]
    exact ⟨i0, i1, i2, i3, i4, i5, i6, i7, i8, rfl, rfl, i11⟩
  · refine ⟨a3.1, fun j j1 j2 => ?_, ?_⟩
    · rw [a3.2.1]
      obtain ⟨-, q, -⟩ := WA_r hA
      rcases (by omega : j = 13 ∨ j = 14 ∨ j = 15 ∨ j = 16 ∨ j = 17 ∨ j = 18) with rfl | rfl | rfl | rfl | rfl | rfl
      · rw [ou_ne (by decide), ou_ne (by decide), ou_ne (by decide), L13]; exact q 13 (by omega) (by omega)
      · rw [ou_ne (by decide), ou_ne (by decide), ou_eq, L14]
      · rw [ou_ne (by decide), ou_eq, L15]
      · rw [ou_ne (by decide), ou_ne (by decide), ou_ne (by decide), L16]; exact q 16 (by omega) (by omega)
      · rw [ou_ne (by decide), ou_ne (by decide), ou_ne (by decide), L17]; exact q 17 (by omega) (by omega)
      · rw [ou_eq, L18]
    · rw [a3.2.1, ou_ne (by decide), ou_ne (by decide), ou_ne (by decide), Ld]
      exact (WA_r hA).2.2
  · unfold WAs
    rw [L13, L14, L15, L16, L17, L18, n87, ag13.1, ag16.1, ag17.1]
    exact ⟨s13, T1.1, T2.1, s16, s17, t3.1.1⟩
  · unfold WAv
    rw [L13, L14, L15, ag13.2.2, T1.2.2, T2.2.2]
    refine ⟨fun c hc => ?_, fun m hm => ?_, fun i hi => ?_⟩
    · rw [sT3 (82 + c) (by omega) (by omega) (by omega) (by omega)]
      exact (WA_v hA).1 c hc
    · have n85 : nt (W3 85) = N1 := by rw [p9 85 (by omega) (by omega), p6 85 (by omega) (by omega), p1, nt_nI (by omega)]
      show fo N1 _ _ = sTold W3 (nI m)
      unfold sTold
      rw [n85]
      refine fo_congr (fun i s hi => ?_)
      have q0 : W3 (158 + 2 * i) = nI (lnT x (nmen W) i).1 := by
        rw [p9 _ (by omega) (by omega), p6 _ (by omega) (by omega), p2 (2 * i) (by omega)]
        unfold tlw
        rw [if_pos (by omega), show 2 * i / 2 = i by omega]
      have q1 : W3 (158 + 2 * i + 1) = tlM (lnT x (nmen W) i) := by
        rw [p9 _ (by omega) (by omega), p6 _ (by omega) (by omega), show 158 + 2 * i + 1 = 158 + (2 * i + 1) by omega, p2 (2 * i + 1) (by omega)]
        unfold tlw
        rw [if_neg (by omega), show (2 * i + 1) / 2 = i by omega]
      have ok := (lnT_ok x (show 2 ≤ nmen W by omega) i).1
      rw [q0, q1]
      by_cases c : (lnT x (nmen W) i).1 = m
      · rw [if_pos c, if_pos (by rw [c])]
      · rw [if_neg c, if_neg (by rw [nn_eq (by omega) (by omega)]; exact c)]
    · have n86 : nt (W3 86) = N2 := by rw [p9 86 (by omega) (by omega), p4, nt_nI (by omega)]
      rw [t2.2 i hi]
      show fo N2 _ _ = sWt1 W3 (nI i)
      unfold sWt1
      rw [n86]
      refine fo_congr (fun j s hj => ?_)
      have q0 : W3 (190 + 2 * j) = nI (lnV x j).1 := by
        rw [p9 _ (by omega) (by omega), p5 (2 * j) (by omega)]
        unfold wgw
        rw [if_pos (by omega), show 2 * j / 2 = j by omega]
      have q1 : W3 (190 + 2 * j + 1) = nI (lnV x j).2 := by
        rw [p9 _ (by omega) (by omega), show 190 + 2 * j + 1 = 190 + (2 * j + 1) by omega, p5 (2 * j + 1) (by omega)]
        unfold wgw
        rw [if_neg (by omega), show (2 * j + 1) / 2 = j by omega]
      have ok := (lnV_ok x j).1
      rw [q0, q1]
      by_cases c : (lnV x j).1 = i
      · rw [if_pos c, if_pos (by rw [c])]
      · rw [if_neg c, if_neg (by rw [nn_eq (by omega) (by omega)]; exact c)]
  · refine ⟨fun m hm => ?_, fun m k hm hk => ?_⟩
    · rw [en] at hm
      have q := (WA_m hA).1 m hm
      have agm := agA (RS_m (a := a) (L := L) hm) q.2.1 (by simp)
      unfold WA1
      rw [L16, Lm, ag16.2.1, agm.1, agm.2.2, sT3 (90 + m) (by omega) (by omega) (by omega) (by omega), sT3 (102 + m) (by omega) (by omega) (by omega) (by omega), sT3 (114 + m) (by omega) (by omega) (by omega) (by omega), sT3 (4 + m) (by omega) (by omega) (by omega) (by omega), sT3 (16 + m) (by omega) (by omega) (by omega) (by omega), sT3 (28 + m) (by omega) (by omega) (by omega) (by omega), sT3 (40 + m) (by omega) (by omega) (by omega) (by omega), sT3 (52 + m) (by omega) (by omega) (by omega) (by omega), sT3 (64 + m) (by omega) (by omega) (by omega) (by omega)]
      exact q
    · rw [en] at hm hk
      rw [Lm]
      exact (WA_m hA).2 m k hm hk
  · intro i hi
    rw [e3'] at hi
    have q := (WA_l hA) i hi
    have agl := agA (RS_l (a := a) (L := L) hi) q.2.1 (by simp)
    rw [L17, Ll, ag17.2.1, agl.1, agl.2.2]
    refine ⟨q.1, q.2.1, fun k hk => ?_⟩
    rw [sT3 (300 + 4 * i + k) (by omega) (by omega) (by omega) (by omega)]
    exact q.2.2 k hk
  · intro i hi
    rw [n87] at hi
    obtain ⟨o1, o2, o3, o4, o5⟩ := t3.2 i hi
    rw [L18, Lo, t3.1.2.1]
    refine ⟨if_pos hi, o2, ?_, ?_, ?_⟩
    · rw [o3, p8 (3 * i) (by omega)]
      unfold orw
      rw [if_pos (by omega), show 3 * i / 3 = i by omega]
    · have qv : orw (lnR x day) (3 * i + 1) = nI (orK (lnR x day i).2.1) := by
        unfold orw
        rw [if_neg (by omega), if_pos (by omega), show (3 * i + 1) / 3 = i by omega]
      rw [o4, show 222 + 3 * i + 1 = 222 + (3 * i + 1) by omega, p8 (3 * i + 1) (by omega), qv]
      cases (lnR x day i).2.1 <;> rfl
    · rw [o5, show 222 + 3 * i + 2 = 222 + (3 * i + 2) by omega, p8 (3 * i + 2) (by omega)]
      unfold orw
      rw [if_neg (by omega), if_neg (by omega), show (3 * i + 2) / 3 = i by omega]
  · have hLq : ∀ {d : Option (Nat → Int32)}, Lq d W → Lq d W3 := fun hq V e hV wd m hwd hm => hq V (fun k hk => by
      rw [e k hk]
      exact sT3 k (by omega) (by omega) (by omega) (by omega)) hV wd m hwd hm
    have h8 := WA_d hA
    unfold WAd at h8 ⊢
    rw [Ld]
    cases eq : L.2.2.2.2 with
    | none =>
      rw [eq] at h8
      exact hLq h8
    | some q =>
      rw [eq] at h8
      have agq := agA (RS_d (a := a) (W := W) eq) h8.1 (by simp)
      show w3.1[q]? = _ ∧ Lq (some (w3.2.2 q)) W3
      rw [agq.1, agq.2.2]
      exact ⟨h8.1, hLq h8.2⟩
  · intro c hc
    rcases hc with rfl | ⟨j, j1, j2, rfl⟩ | ⟨m, hm, rfl⟩ | ⟨i, hi, rfl⟩ | ⟨i, hi, rfl⟩ | hq
    · exact ha
    · rcases (by omega : j = 13 ∨ j = 14 ∨ j = 15 ∨ j = 16 ∨ j = 17 ∨ j = 18) with rfl | rfl | rfl | rfl | rfl | rfl
      · rw [L13]; exact hb _ (RS_j (by omega) (by omega))
      · rw [L14]; omega
      · rw [L15]; omega
      · rw [L16]; exact hb _ (RS_j (by omega) (by omega))
      · rw [L17]; exact hb _ (RS_j (by omega) (by omega))
      · rw [L18]; omega
    · rw [Lm]; exact hb _ (RS_m (by rw [en] at hm; exact hm))
    · rw [Ll]; exact hb _ (RS_l (by rw [e3'] at hi; exact hi))
    · rw [Lo]
      rw [n87] at hi
      have := (t3.2 i hi).1
      omega
    · rw [Ld] at hq; exact hb _ (RS_d hq)
