/-! the weights' text -/
def wgT (l : Nat × Nat) : List Nat := bsS 9 ++ (dg l.1 ++ (bsS 10 ++ (dg l.2 ++ bsS 8)))
theorem wgT_B (l : Nat × Nat) (r : List Nat) : wgB l r = wgT l ++ r := by
  obtain ⟨f, x⟩ := l
  show wo_fact ++ (blk 1 ++ (dg f ++ (blk 1 ++ (wo_weighs ++ (blk 1 ++ (dg x ++ (blk 0 ++ ([59] ++ (blk 0 ++ r))))))))) = (bsS 9 ++ (dg f ++ (bsS 10 ++ (dg x ++ bsS 8)))) ++ r
  rw [bsS_9, bsS_10, bsS_8]
  simp only [List.append_assoc, List.nil_append]
  rfl
theorem wgT_len {l : Nat × Nat} (h1 : l.1 < 1000) (h2 : l.2 < 1000) : (wgT l).length ≤ 22 := by
  obtain ⟨b5, b6, b7, b8, b9, b10, -⟩ := bsS_l
  have d1 := (dg_d l.1 h1).2.2
  have d2 := (dg_d l.2 h2).2.2
  unfold wgT
  simp only [List.length_append, b8, b9, b10]
  omega
theorem wgT_c {l : Nat × Nat} (h1 : l.1 < 1000) (h2 : l.2 < 1000) : ∀ c ∈ wgT l, c < 128 := by
  intro c hc
  have d1 := dg_c l.1 h1
  have d2 := dg_c l.2 h2
  have s9 := c128_S (k := 9) (by decide)
  have s10 := c128_S (k := 10) (by decide)
  have s8 := c128_S (k := 8) (by decide)
  unfold wgT at hc
  simp only [List.mem_append] at hc
  rcases hc with hc | hc | hc | hc | hc
  · exact s9 c hc
  · exact d1 c hc
  · exact s10 c hc
  · exact d2 c hc
  · exact s8 c hc
def lnV (x : Int32) (k : Nat) : Nat × Nat := (btN ((x * (nI k + 5)) + (241 * nI k)) 0 7, btN (((x * (nI k + 5)) + (241 * nI k)) >>> ((4 : Int32) &&& 31)) 0 20)
theorem lnV_ok (x : Int32) (k : Nat) : (lnV x k).1 < 8 ∧ (lnV x k).2 ≤ 20 := by
  have b0 := btN_r ((x * (nI k + 5)) + (241 * nI k)) (show 0 ≤ 7 by omega)
  have b1 := btN_r (((x * (nI k + 5)) + (241 * nI k)) >>> ((4 : Int32) &&& 31)) (show 0 ≤ 20 by omega)
  exact ⟨by show btN _ 0 7 < 8; omega, b1.2⟩
/-- what the facts weigh, after k lines -/
def wgV (ln : Nat → Nat × Nat) (k f : Nat) : Int32 := fo k (fun i s => if (ln i).1 = f then nI (ln i).2 else s) 1
theorem wgV_s {ln : Nat → Nat × Nat} {k f j : Nat} {T : Wt} (h : ∀ i, i < 8 → T i = wgV ln k i) (hj : j < 8) (hf : f = (ln k).1) : upd T f (nI (ln k).2) j = wgV ln (k + 1) j := by
  show _ = fo (k + 1) _ _
  rw [fo_s, ← hf]
  by_cases c : j = f
  · rw [c, up_eq, if_pos rfl]
  · rw [up_ne c, if_neg (fun z => c z.symm)]
    exact h j hj
abbrev wgJ (x : Int32) (k : Nat) : List Nat := jn (fun i => wgT (lnV x i)) k
theorem wgJ_len (x : Int32) (k : Nat) : (wgJ x k).length ≤ 22 * k := jn_le (fun l => by
  obtain ⟨o1, o2⟩ := lnV_ok x l
  exact wgT_len (by omega) (by omega)) k
theorem wg_loop {w0 : Wd} {a wc N n0 : Nat} {g : Mem} {ρ : Nat → Option Nat} {P : Wt} (x : Int32) (hρ : ρ 15 = some wc) (hwc : w0.1.length ≤ wc) (hN : N ≤ 9) (l4 : Nat) (hl4 : w0.1.length ≤ l4) : ∀ (d k F : Nat) (w : Wd) (v : Nat) (T : Wt), k + d = N → d < F → TI w0 w a g ρ P → Kn w wc (.inl 8) (fun _ => none) T → (∀ i, i < 8 → T i = wgV (lnV x) k i) → Bu w l4 v (wgJ x k) → w0.1.length ≤ v → Rm w (n0 + 710 * d) → ∃ w' v' F' T', (DL_texts_L336 F a x (nI N) l4 (nI k)).1 w = (DL_texts_b336 (DL_texts_L336 F') a x (nI N) l4 (nI N)).1 w' ∧ TI w0 w' a g ρ P ∧ (Kn w' wc (.inl 8) (fun _ => none) T' ∧ ∀ i, i < 8 → T' i = wgV (lnV x) N i) ∧ Bu w' l4 v' (wgJ x N) ∧ w0.1.length ≤ v' ∧ Rm w' n0 := by
  intro d
  induction d with
  | zero =>
    intro k F w v T hk hF hI hK hT hB hv hR
    obtain ⟨F, rfl⟩ : ∃ F', F = F' + 1 := ⟨F - 1, by omega⟩
    have e : k = N := by omega
    subst e
    exact ⟨w, v, F, T, rfl, hI, ⟨hK, hT⟩, hB, hv, hR⟩
  | succ d ih =>
    intro k F w v T hk hF hI hK hT hB hv hR
    obtain ⟨F, rfl⟩ : ∃ F', F = F' + 1 := ⟨F - 1, by omega⟩
    obtain ⟨b5, b6, b7, b8, b9, b10, -⟩ := bsS_l
    have hlen := wgJ_len x k
    obtain ⟨V, hV⟩ : ∃ V, V = ((x * (nI k + 5)) + (241 * nI k)) := ⟨_, rfl⟩
    have eln : lnV x k = (btN V 0 7, btN (V >>> ((4 : Int32) &&& 31)) 0 20) := by rw [hV]; rfl
    obtain ⟨f, hf⟩ : ∃ f, f = btN V 0 7 := ⟨_, rfl⟩
    obtain ⟨y, hy⟩ : ∃ y, y = btN (V >>> ((4 : Int32) &&& 31)) 0 20 := ⟨_, rfl⟩
    have b0 := btN_r V (show 0 ≤ 7 by omega)
    have b1 := btN_r (V >>> ((4 : Int32) &&& 31)) (show 0 ≤ 20 by omega)
    rw [← hf] at b0
    rw [← hy] at b1
    rw [← hf, ← hy] at eln
    have g15 : gfR a 12 15 w = some wc := by rw [gfR_k hI.2.1, hρ]
    have kw := Kp_wr w wc (upd T f (nI y))
    have hK1 := Kn_wr hK (upd T f (nI y))
    have xB := Bu_x hB hK.1
    obtain ⟨w1, hw1⟩ : ∃ w1, w1 = wr w wc (upd T f (nI y)) := ⟨_, rfl⟩
    rw [← hw1] at kw hK1
    have hI1 := TI_kp hI kw (fun c hc z => by have : c = wc := z; omega)
    have hB1 := Bu_kp hB kw (fun z => xB.1 z.symm) (fun z => xB.2 z.symm)
    have hR1 : Rm w1 ((n0 + 710 * d) + 488 + 3) := by rw [hw1]; exact Rm_le (Rm_wr hR) (by omega)
    have df := (dg_d f (by omega)).2.2
    have dy := (dg_d y (by omega)).2.2
    -- the line
    obtain ⟨w2, e2, c2⟩ := ck_new (n := (n0 + 710 * d) + 488) hR1
    obtain ⟨w3, v3, e3, c3, k3⟩ := ck_con (n := (n0 + 710 * d) + 420) (k := 9) c2 (by decide) 2000009 rfl (by simp only [List.length_nil, b9]; omega)
    obtain ⟨w4, v4, e4, c4, k4⟩ := ck_num (n := (n0 + 710 * d) + 352) c3 (show f < 1000 by omega) (nI f) rfl (by simp only [List.length_append, List.length_nil, b9]; omega)
    obtain ⟨w5, v5, e5, c5, k5⟩ := ck_con (n := (n0 + 710 * d) + 284) (k := 10) c4 (by decide) 2000010 rfl (by simp only [List.length_append, List.length_nil, b9]; omega)
    have hI5 := TI_kp hI1 c5.2.2.2.1 (fun _ _ z => z)
    have hK5 := Kn_kp hK1 c5.2.2.2.1 (fun z => z)
    obtain ⟨w6, v6, e6, c6, k6⟩ := ck_num (n := (n0 + 710 * d) + 216) c5 (show y < 1000 by omega) (nI y) rfl (by simp only [List.length_append, List.length_nil, b9, b10]; omega)
    obtain ⟨w7, v7, e7, c7, k7⟩ := ck_con (n := (n0 + 710 * d) + 145) (k := 8) (Ck_le c6 (m := (n0 + 710 * d) + 145 + 68) (by omega)) (by decide) 2000008 rfl (by simp only [List.length_append, List.length_nil, b9, b10, b8]; omega)
    have et : ((((([] ++ bsS 9) ++ dg f) ++ bsS 10) ++ dg y) ++ bsS 8) = wgT (lnV x k) := by
      rw [eln]
      show _ = bsS 9 ++ (dg f ++ (bsS 10 ++ (dg y ++ bsS 8)))
      simp only [List.append_assoc, List.nil_append]
    rw [et] at c7
    have ht := wgT_len (l := lnV x k) (by rw [eln]; show f < 1000; omega) (by rw [eln]; show y < 1000; omega)
    obtain ⟨w8, v8, e8, f8, k8, g8, r8⟩ := ln_end hB1 c7 (by omega)
    have hI8 := TI_kp hI1 k8 (fun c hc z => by rcases z with z | z <;> omega)
    have xB1 := Bu_x hB1 hK1.1
    have hK8 := Kn_kp hK1 k8 (fun z => by rcases z with z | z; exact xB1.1 z; exact xB1.2 z)
    have hT8 : ∀ i, i < 8 → upd T f (nI y) i = wgV (lnV x) (k + 1) i := fun i hi => by
      have q := wgV_s (f := f) hT hi (by rw [eln])
      rw [eln] at q
      exact q
    obtain ⟨w', v', F', T', q1, q2⟩ := ih (k + 1) F w8 v8 _ (by omega) (by omega) hI8 hK8 hT8 f8 (by have := Kp_len hI1.1; omega) r8
    refine ⟨w', v', F', T', ?_, q2⟩
    show (DL_texts_b336 (DL_texts_L336 F) a x (nI N) l4 (nI k)).1 w = _
    unfold DL_texts_b336
    rw [i_f (by rw [nn_le (by omega) (by omega)]; omega), ← hV, b_bt _ 0 7 (by omega) (by omega) _ _ (by decide) (by decide), ← hf, b_rd g15, b_bt _ 0 20 (by omega) (by omega) _ _ (by decide) (by decide), ← hy, b_ki hK f _ _ rfl (by omega) (by decide), ← hw1]
    refine (e2 _ _).trans ?_
    refine (e3 _ _).trans ?_
    refine (e4 _ _).trans ?_
    refine (e5 _ _).trans ?_
    refine (b_rd (by rw [gfR_k hI5.2.1, hρ])).trans ?_
    refine (b_rd (g_ki hK5 f _ rfl (by omega) (by decide))).trans ?_
    rw [up_eq]
    refine (e6 _ _).trans ?_
    refine (e7 _ _).trans ?_
    refine (e8 _ _).trans ?_
    rw [← nI_succ]
    exact q1
theorem r_tells2 {w : Wd} {a n : Nat} {g : Mem} {W : Wt} {ρ : Nat → Option Nat} {P : Wt} (x : Int32) (h : Kn w a (.inr (.inl 12)) ρ P) (hl : Lw w g) (hG : GS g W []) (ha : 146 ≤ a) (hR : Rm w (n + 6500)) : ∃ w' g' W1 wc N T, (R47 a x).1 w = (R336 a x).1 w' ∧ Kp (fun c => c < 146 ∨ c = a) w w' ∧ Kn w' a (.inr (.inl 12)) (oupd ρ 15 (some wc)) P ∧ (Kn w' wc (.inl 8) (fun _ => none) T ∧ ∀ i, i < 8 → T i = wgV (lnV x) N i) ∧ w.1.length ≤ wc ∧ Lw w' g' ∧ GS g' W1 [] ∧ N ≤ 9 ∧ W1 86 = nI N ∧ (∀ y, y < 2 * N → W1 (190 + y) = wgw (lnV x) y) ∧ (∀ z, z ≠ 86 → (z < 190 ∨ 222 ≤ z) → W1 z = W z) ∧ Rm w' n := by
  obtain ⟨N, hN'⟩ : ∃ N, N = btN (x >>> ((5 : Int32) &&& 31)) 0 9 := ⟨_, rfl⟩
  have hN := (btN_r (x >>> ((5 : Int32) &&& 31)) (show 0 ≤ 9 by omega)).2
  rw [← hN'] at hN
  have hI0 := TI_0 h hl ha
  obtain ⟨w1, e1, f1, k1, r1, l1⟩ := r_new (n := n + 6497) hR
  have hI1 := TI_kp hI0 k1 (fun _ _ z => z)
  have kq := Kp_nq (fun _ => False) w1 (.inl 8) (fun _ => none) w18
  have nq' := Kn_nq w1 (.inl 8) (fun _ => none) w18
  have r2 : Rm (nq w1 (.inl 8) (fun _ => none) w18) (n + 6496) := Rm_nq1 (n := n + 6496) r1 (by decide)
  obtain ⟨w2, hw2⟩ : ∃ w2, w2 = nq w1 (.inl 8) (fun _ => none) w18 := ⟨_, rfl⟩
  have hI2 := TI_kp hI1 kq (fun _ _ z => z)
  rw [← hw2] at nq' r2 hI2
  have kq2 : Kp (fun _ => False) w1 w2 := by rw [hw2]; exact kq
  have hI3 := TI_wo hI2 (oupd ρ 15 (some w1.1.length))
  have al : a < w.1.length := Kn_lt h
  have k34 : Kp (fun c => c = a) w2 (wo w2 a (oupd ρ 15 (some w1.1.length))) := Kp_wo w2 a _
  have hK4 := Kn_kp nq' k34 (by omega)
  have hB4 : Bu (wo w2 a (oupd ρ 15 (some w1.1.length))) w.1.length (w.1.length + 1) [] := Bu_kp (Bu_kp f1 kq2 (fun z => z) (fun z => z)) k34 (by omega) (by omega)
  have t18 : ∀ i, i < 8 → w18 i = wgV (lnV x) 0 i := fun i hi => by
    have key : ∀ i, i < 8 → w18 i = 1 := by decide
    exact key i hi
  obtain ⟨w5, v5, F5, T5, e5, i5, kn5, b5, g5, r5⟩ := wg_loop (n0 := n + 97) x (show oupd ρ 15 (some w1.1.length) 15 = some w1.1.length from ou_eq _ _ _) (show w.1.length ≤ w1.1.length by omega) hN w.1.length (Nat.le_refl _) N 0 FU _ (w.1.length + 1) _ (by omega) (by show _ < 10000; omega) hI3 hK4 t18 hB4 (by omega) (Rm_le (Rm_wo r2) (by omega))
  have hok : ∀ l, l < N → (lnV x l).1 < 8 ∧ (lnV x l).2 < 100 := fun l _ => by
    obtain ⟨o1, o2⟩ := lnV_ok x l
    exact ⟨o1, by omega⟩
  have hbs : (wgJ x N).length ≤ 400 ∧ ∀ c ∈ wgJ x N, c < 128 := ⟨by have := wgJ_len x N; omega, jn_c (P := fun c => c < 128) (fun l => by
    obtain ⟨o1, o2⟩ := lnV_ok x l
    exact wgT_c (by omega) (by omega)) N⟩
  obtain ⟨w6, g6, e6, l6, ⟨W1, q1, q2, q3, q4⟩, k6, r6⟩ := say_txt1 (n := n) (p := 2) (r := nI N) b5 i5.2.2.1 hG hbs.1 hbs.2 r5 (fun g' => ∃ W1, GS g' W1 [] ∧ W1 86 = nI N ∧ (∀ y, y < 2 * N → W1 (190 + y) = wgw (lnV x) y) ∧ ∀ z, z ≠ 86 → (z < 190 ∨ 222 ≤ z) → W1 z = W z) (fun g1 h1 => by
    obtain ⟨g', W', z1, z2, z3, z4, z5⟩ := ge_text2 h1 (by omega) (rst_jn (fun s r => wgT_B (lnV x s) r) N) hok
    exact ⟨g', z1, W', z2, z3, z4, z5⟩)
  refine ⟨w6, g6, W1, w1.1.length, N, T5, ?_, Kp_tr i5.1 k6 (fun _ _ z => Or.inl z), Kn_kp i5.2.1 k6 (by omega), ⟨Kn_kp kn5.1 k6 (by omega), kn5.2⟩, by omega, l6, q1, hN, q2, q3, q4, r6⟩
  unfold R47
  rw [b_bt _ 0 9 (by omega) (by omega) _ _ (by decide) (by decide), ← hN']
  refine (e1 _ _).trans ?_
  refine (b_nw (show nwI 8 w1 = _ from nwI_n (n := 8) (by decide) w1) (n := n + 6496) (c := 1) r1 (by decide) (by decide)).trans ?_
  rw [ia_nq rfl 0 0 _ (by decide) (by decide) (by decide), ia_nq rfl 1 1 _ (by decide) (by decide) (by decide), ia_nq rfl 2 2 _ (by decide) (by decide) (by decide), ia_nq rfl 3 3 _ (by decide) (by decide) (by decide), ia_nq rfl 4 4 _ (by decide) (by decide) (by decide), ia_nq rfl 5 5 _ (by decide) (by decide) (by decide), ia_nq rfl 6 6 _ (by decide) (by decide) (by decide), ia_nq rfl 7 7 _ (by decide) (by decide) (by decide)]
  show (dbind (dput (pfO a 12 15 (some w1.1.length))) fun _ => DL_texts_L336 FU a x (nI N) w.1.length 0).1 (nq w1 (.inl 8) (fun _ => none) w18) = _
  rw [← hw2, b_po hI2.2.1]
  refine e5.trans ?_
  unfold DL_texts_b336
  rw [i_t (Int32.le_refl _)]
  refine (e6 _ _).trans ?_
  rw [i_t rfl]
  rfl
