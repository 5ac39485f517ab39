/-! the orders' text -/
def orS (t : Bool) : Nat := if t = true then 12 else 13
theorem bsS_or (t : Bool) : bsS (orS t) = blk 1 ++ (orv t ++ blk 1) := by
  cases t
  · exact bsS_13
  · exact bsS_12
def orT (l : Nat × Bool × Nat) : List Nat := bsS 11 ++ (dg l.1 ++ (bsS (orS l.2.1) ++ (dg l.2.2 ++ bsS 8)))
theorem orT_B (l : Nat × Bool × Nat) (r : List Nat) : orB l r = orT l ++ r := by
  obtain ⟨f, t, x⟩ := l
  show wo_on ++ (blk 1 ++ (dg f ++ (blk 1 ++ (orv t ++ (blk 1 ++ (dg x ++ (blk 0 ++ ([59] ++ (blk 0 ++ r))))))))) = (bsS 11 ++ (dg f ++ (bsS (orS t) ++ (dg x ++ bsS 8)))) ++ r
  rw [bsS_11, bsS_or, bsS_8]
  simp only [List.append_assoc, List.nil_append]
  rfl
theorem orS_lt (t : Bool) : orS t < 23 ∧ (bsS (orS t)).length ≤ 6 := by
  cases t <;> decide
theorem orT_len {l : Nat × Bool × Nat} (h1 : l.1 < 1000) (h2 : l.2.2 < 1000) : (orT l).length ≤ 22 := by
  obtain ⟨b5, b6, b7, b8, b9, b10, b11, -⟩ := bsS_l
  have d1 := (dg_d l.1 h1).2.2
  have d2 := (dg_d l.2.2 h2).2.2
  have d3 := (orS_lt l.2.1).2
  unfold orT
  simp only [List.length_append, b8, b11]
  omega
theorem orT_c {l : Nat × Bool × Nat} (h1 : l.1 < 1000) (h2 : l.2.2 < 1000) : ∀ c ∈ orT l, c < 128 := by
  intro c hc
  have d1 := dg_c l.1 h1
  have d2 := dg_c l.2.2 h2
  have s9 := c128_S (k := 11) (by decide)
  have s10 := c128_S (orS_lt l.2.1).1
  have s8 := c128_S (k := 8) (by decide)
  unfold orT at hc
  simp only [List.mem_append] at hc
  rcases hc with hc | hc | hc | hc | hc
  · exact s9 c hc
  · exact d1 c hc
  · exact s10 c hc
  · exact d2 c hc
  · exact s8 c hc
def lnR (x : Int32) (day k : Nat) : Nat × Bool × Nat := (day + btN ((x * (nI k + 7)) + (251 * nI k)) 0 9, decide (((((x * (nI k + 7)) + (251 * nI k)) >>> ((5 : Int32) &&& 31)) &&& 1) = 1), if ((((x * (nI k + 7)) + (251 * nI k)) >>> ((7 : Int32) &&& 31)) &&& 1) = 1 then 1 else 0)
theorem lnR_ok (x : Int32) {day : Nat} (hd : day + 9 < 1000) (k : Nat) : (lnR x day k).1 < 1000 ∧ (lnR x day k).2.2 < 2 := by
  have b0 := btN_r ((x * (nI k + 7)) + (251 * nI k)) (show 0 ≤ 9 by omega)
  refine ⟨by show day + btN _ 0 9 < 1000; omega, ?_⟩
  show (if _ then 1 else 0) < 2
  split <;> omega
abbrev orJ (x : Int32) (day k : Nat) : List Nat := jn (fun i => orT (lnR x day i)) k
theorem orJ_len (x : Int32) {day : Nat} (hd : day + 9 < 1000) (k : Nat) : (orJ x day k).length ≤ 22 * k := jn_le (fun l => by
  obtain ⟨o1, o2⟩ := lnR_ok x hd l
  exact orT_len (by omega) (by omega)) k
/-- an order as the law has it -/
def OR (w : Wd) (q : Nat) (l : Nat × Bool × Nat) : Prop := w.1[q]? = some (.inl 3) ∧ w.2.2 q 0 = nI l.1 ∧ w.2.2 q 1 = (if l.2.1 = true then 1 else 0) ∧ w.2.2 q 2 = nI l.2.2
theorem OR_kp {S : Nat → Prop} {w w' : Wd} {q : Nat} {l : Nat × Bool × Nat} (h : OR w q l) (k : Kp S w w') (hS : ¬ S q) : OR w' q l := by
  obtain ⟨h1, h2, h3, h4⟩ := h
  obtain ⟨a1, a2, a3⟩ := Kp_agr k (sh_len h1) hS
  unfold OR
  rw [a1, a3]
  exact ⟨h1, h2, h3, h4⟩
theorem ar_k {w : Wd} {a n q : Nat} {ρ : Nat → Option Nat} {P : Wt} (h : Kn w a (.inr (.inr (2, n))) ρ P) (j : Nat) (hj : j < n) (hn : n < 2147483648) (hr : ρ j = some q) : aald a (nI j) w = some q := aa_k h.1 j hj hn (by rw [h.2.1]; exact hr)
theorem or_loop {w0 : Wd} {a oc N n0 day : Nat} {g : Mem} {ρ : Nat → Option Nat} {P : Wt} (x : Int32) (hd : day + 9 < 1000) (P1 : P 1 = nI day) (hρ : ρ 18 = some oc) (hoc : w0.1.length ≤ oc) (hN : N ≤ 9) (l4 : Nat) (hl4 : w0.1.length ≤ l4) : ∀ (d k F : Nat) (w : Wd) (v : Nat) (f : Nat → Nat), k + d = N → d < F → TI w0 w a g ρ P → Kn w oc (.inr (.inr (2, N))) (lR f k) (fun _ => 0) → (∀ i, i < k → w0.1.length ≤ f i ∧ OR w (f i) (lnR x day i)) → Bu w l4 v (orJ x day k) → w0.1.length ≤ v → Rm w (n0 + 710 * d) → ∃ w' v' F' f', (DL_texts_L492 F a x (nI N) l4 (nI k)).1 w = (DL_texts_b492 (DL_texts_L492 F') a x (nI N) l4 (nI N)).1 w' ∧ TI w0 w' a g ρ P ∧ (Kn w' oc (.inr (.inr (2, N))) (lR f' N) (fun _ => 0) ∧ ∀ i, i < N → w0.1.length ≤ f' i ∧ OR w' (f' i) (lnR x day i)) ∧ Bu w' l4 v' (orJ x day N) ∧ w0.1.length ≤ v' ∧ Rm w' n0 := by
  intro d
  induction d with
  | zero =>
    intro k F w v f hk hF hI hK hO hB hv hR
    obtain ⟨F, rfl⟩ : ∃ F', F = F' + 1 := ⟨F - 1, by omega⟩
    have e : k = N := by omega
    subst e
    exact ⟨w, v, F, f, rfl, hI, ⟨hK, hO⟩, hB, hv, hR⟩
  | succ d ih =>
    intro k F w v f hk hF hI hK hO hB hv hR
    obtain ⟨F, rfl⟩ : ∃ F', F = F' + 1 := ⟨F - 1, by omega⟩
    obtain ⟨b5, b6, b7, b8, b9, b10, b11, -⟩ := bsS_l
    have hlen := orJ_len x hd k
    obtain ⟨V, hV⟩ : ∃ V, V = ((x * (nI k + 7)) + (251 * nI k)) := ⟨_, rfl⟩
    obtain ⟨y, hy⟩ : ∃ y, y = btN V 0 9 := ⟨_, rfl⟩
    have b0 := btN_r V (show 0 ≤ 9 by omega)
    rw [← hy] at b0
    obtain ⟨t, ht⟩ : ∃ t, t = decide (((V >>> ((5 : Int32) &&& 31)) &&& 1) = 1) := ⟨_, rfl⟩
    obtain ⟨c, hc⟩ : ∃ c, c = if ((V >>> ((7 : Int32) &&& 31)) &&& 1) = 1 then 1 else 0 := ⟨_, rfl⟩
    have eln : lnR x day k = (day + y, t, c) := by rw [ht, hc, hy, hV]; rfl
    have v5 : ((V >>> ((5 : Int32) &&& 31)) &&& 1) = if t = true then 1 else 0 := by
      rw [ht]
      by_cases z : ((V >>> ((5 : Int32) &&& 31)) &&& 1) = 1
      · rw [decide_eq_true z, if_pos rfl, z]
      · rw [decide_eq_false z, if_neg (by decide)]
        rcases b01 (V >>> ((5 : Int32) &&& 31)) with q | q
        · exact q
        · exact absurd q z
    have v7 : ((V >>> ((7 : Int32) &&& 31)) &&& 1) = nI c := by
      rw [hc]
      by_cases z : ((V >>> ((7 : Int32) &&& 31)) &&& 1) = 1
      · rw [if_pos z, z]; rfl
      · rw [if_neg z]
        rcases b01 (V >>> ((7 : Int32) &&& 31)) with q | q
        · exact q
        · exact absurd q z
    have c2 : c < 2 := by rw [hc]; split <;> omega
    have g18 : ∀ {z : Wd}, TI w0 z a g ρ P → gfR a 12 18 z = some oc := fun {z} h => by rw [gfR_k h.2.1, hρ]
    -- the new row
    obtain ⟨Q, hQ⟩ : ∃ Q, Q = upd (upd (upd (fun _ => (0 : Int32)) 0 (nI (day + y))) 1 (if t = true then 1 else 0)) 2 (nI c) := ⟨_, rfl⟩
    have hR0 : Rm w ((n0 + 710 * d) + 500 + 1) := Rm_le hR (by omega)
    have kq := Kp_nq (fun _ => False) w (.inl 3) (fun _ => none) Q
    have nq' := Kn_nq w (.inl 3) (fun _ => none) Q
    have rq : Rm (nq w (.inl 3) (fun _ => none) Q) ((n0 + 710 * d) + 500) := Rm_nq1 hR0 (by decide)
    obtain ⟨w1, hw1⟩ : ∃ w1, w1 = nq w (.inl 3) (fun _ => none) Q := ⟨_, rfl⟩
    rw [← hw1] at kq nq' rq
    have hI1 := TI_kp hI kq (fun _ _ z => z)
    have hK1 := Kn_kp hK kq (fun z => z)
    have hB1 := Bu_kp hB kq (fun z => z) (fun z => z)
    have kp := Kp_wo w1 oc (oupd (lR f k) k (some w.1.length))
    have hK2 := Kn_wo hK1 (oupd (lR f k) k (some w.1.length))
    have ocl : oc < w.1.length := Kn_lt hK
    obtain ⟨f2, hf2⟩ : ∃ f2 : Nat → Nat, f2 = fun i => if i = k then w.1.length else f i := ⟨_, rfl⟩
    have ef : oupd (lR f k) k (some w.1.length) = lR f2 (k + 1) := by
      rw [hf2]
      funext i
      unfold oupd lR
      by_cases z : i = k
      · rw [if_pos z, if_pos (by omega)]
        show _ = some (if i = k then w.1.length else f i)
        rw [if_pos z]
      · rw [if_neg z]
        by_cases z2 : i < k
        · rw [if_pos z2, if_pos (by omega)]
          show _ = some (if i = k then w.1.length else f i)
          rw [if_neg z]
        · rw [if_neg z2, if_neg (by omega)]
    rw [ef] at kp hK2
    obtain ⟨w2, hw2⟩ : ∃ w2, w2 = wo w1 oc (lR f2 (k + 1)) := ⟨_, rfl⟩
    rw [← hw2] at kp hK2
    have l1 : w1.1.length = w.1.length + 1 := by rw [hw1]; exact len_nq _ _ _ _
    have hI2 := TI_kp hI1 kp (fun c hc z => by have : c = oc := z; omega)
    have nl4 : l4 ≠ oc ∧ v ≠ oc := by
      obtain ⟨h1, h2, ⟨cap, h3, -⟩, -⟩ := id hB
      exact ⟨ne_sh h1 hK.1 (by simp), ne_sh h3 hK.1 (by simp)⟩
    have hB2 := Bu_kp hB1 kp nl4.1 nl4.2
    have hq2 : Kn w2 w.1.length (.inl 3) (fun _ => none) Q := Kn_kp nq' kp (by omega)
    have rw2 : Rm w2 ((n0 + 710 * d) + 497 + 3) := by rw [hw2]; exact Rm_le (Rm_wo rq) (by omega)
    have hO2 : ∀ i, i < k + 1 → w0.1.length ≤ f2 i ∧ OR w2 (f2 i) (lnR x day i) := fun i hi => by
      have hl0 := Kp_len hI.1
      by_cases z : i = k
      · have e : f2 i = w.1.length := by rw [hf2]; exact if_pos z
        rw [e, z, eln]
        refine ⟨hl0, hq2.1, ?_, ?_, ?_⟩
        · rw [hq2.2.2, hQ, up_ne (by decide), up_ne (by decide), up_eq]
        · rw [hq2.2.2, hQ, up_ne (by decide), up_eq]
        · rw [hq2.2.2, hQ, up_eq]
      · have e : f2 i = f i := by rw [hf2]; exact if_neg z
        rw [e]
        obtain ⟨o1, o2⟩ := hO i (by omega)
        exact ⟨o1, OR_kp (OR_kp o2 kq (fun z => z)) kp (ne_sh (Kn_kp ⟨o2.1, rfl, rfl⟩ kq (fun z => z)).1 hK1.1 (by simp))⟩
    have rk : (lR f2 (k + 1)) k = some w.1.length := by
      unfold lR
      rw [if_pos (by omega), hf2]
      show some (if k = k then w.1.length else f k) = _
      rw [if_pos rfl]
    -- reads of the row, wherever it stands
    have rd : ∀ {z : Wd}, Kp (fun _ => False) w2 z → gfR a 12 18 z = some oc ∧ aald oc (nI k) z = some w.1.length ∧ iald w.1.length 0 z = some (nI (day + y)) ∧ iald w.1.length 1 z = some (if t = true then 1 else 0) ∧ iald w.1.length 2 z = some (nI c) := fun {z} kz => by
      have q := Kn_kp hq2 kz (fun z => z)
      refine ⟨g18 (TI_kp hI2 kz (fun _ _ z => z)), ar_k (Kn_kp hK2 kz (fun z => z)) k (by omega) (by omega) rk, ?_, ?_, ?_⟩
      · rw [g_ki q 0 0 (by decide) (by decide) (by decide), hQ, up_ne (by decide), up_ne (by decide), up_eq]
      · rw [g_ki q 1 1 (by decide) (by decide) (by decide), hQ, up_ne (by decide), up_eq]
      · rw [g_ki q 2 2 (by decide) (by decide) (by decide), hQ, up_eq]
    -- the line
    have dy1 := (dg_d (day + y) (by omega)).2.2
    have dc := (dg_d c (by omega)).2.2
    obtain ⟨os1, os2⟩ := orS_lt t
    obtain ⟨w3, e3, c3⟩ := ck_new (n := (n0 + 710 * d) + 497) rw2
    obtain ⟨w4, v4, e4, c4, -⟩ := ck_con (n := (n0 + 710 * d) + 429) (k := 11) c3 (by decide) 2000011 rfl (by simp only [List.length_nil, b11]; omega)
    obtain ⟨r4a, r4b, r4c, -, -⟩ := rd c4.2.2.2.1
    obtain ⟨w5, v5', e5, c5, -⟩ := ck_num (n := (n0 + 710 * d) + 361) c4 (show day + y < 1000 by omega) (nI (day + y)) rfl (by simp only [List.length_append, List.length_nil, b11]; omega)
    obtain ⟨r5a, r5b, -, r5d, -⟩ := rd c5.2.2.2.1
    obtain ⟨w6, v6, e6, c6, -⟩ := ck_con (n := (n0 + 710 * d) + 293) (k := orS t) c5 os1 (2000000 + orS t) rfl (by simp only [List.length_append, List.length_nil, b11]; omega)
    obtain ⟨r6a, r6b, -, -, r6e⟩ := rd c6.2.2.2.1
    obtain ⟨w7, v7', e7, c7, -⟩ := ck_num (n := (n0 + 710 * d) + 225) c6 (show c < 1000 by omega) (nI c) rfl (by simp only [List.length_append, List.length_nil, b11]; omega)
    obtain ⟨w8, v8, e8, c8, -⟩ := ck_con (n := (n0 + 710 * d) + 145) (k := 8) (Ck_le c7 (m := (n0 + 710 * d) + 145 + 68) (by omega)) (by decide) 2000008 rfl (by simp only [List.length_append, List.length_nil, b11, b8]; omega)
    have et : ((((([] ++ bsS 11) ++ dg (day + y)) ++ bsS (orS t)) ++ dg c) ++ bsS 8) = orT (lnR x day k) := by
      rw [eln]
      show _ = bsS 11 ++ (dg (day + y) ++ (bsS (orS t) ++ (dg c ++ bsS 8)))
      simp only [List.append_assoc, List.nil_append]
    rw [et] at c8
    have hlt := orT_len (l := lnR x day k) (by rw [eln]; show day + y < 1000; omega) (by rw [eln]; show c < 1000; omega)
    obtain ⟨w9, v9, e9, f9, k9, g9, r9⟩ := ln_end hB2 c8 (by omega)
    have l2 : w2.1.length = w.1.length + 1 := by rw [hw2]; exact l1
    have hI9 := TI_kp hI2 k9 (fun c hc z => by rcases z with z | z <;> omega)
    have hK9 := Kn_kp hK2 k9 (fun z => by rcases z with z | z; exact nl4.1 z.symm; exact nl4.2 z.symm)
    have hO9 : ∀ i, i < k + 1 → w0.1.length ≤ f2 i ∧ OR w9 (f2 i) (lnR x day i) := fun i hi => by
      obtain ⟨o1, o2⟩ := hO2 i hi
      have xB := Bu_x hB2 o2.1
      exact ⟨o1, OR_kp o2 k9 (fun z => by rcases z with z | z; exact xB.1 z; exact xB.2 z)⟩
    obtain ⟨w', v', F', f', q1, q2⟩ := ih (k + 1) F w9 v9 f2 (by omega) (by omega) hI9 hK9 hO9 f9 (by have := Kp_len hI2.1; omega) r9
    refine ⟨w', v', F', f', ?_, q2⟩
    show (DL_texts_b492 (DL_texts_L492 F) a x (nI N) l4 (nI k)).1 w = _
    unfold DL_texts_b492
    rw [i_f (by rw [nn_le (by omega) (by omega)]; omega), ← hV, b_rd (g18 hI)]
    refine (b_nw (show nwI 3 w = _ from nwI_n (n := 3) (by decide) w) (n := (n0 + 710 * d) + 500) (c := 1) hR0 (by decide) (by decide)).trans ?_
    have hIz : ∀ R : Wt, gfI a 12 1 (nq w (.inl 3) (fun _ => none) R) = some (nI day) := fun R => by
      rw [g_fi (TI_kp hI (Kp_nq (fun _ => False) w (.inl 3) (fun _ => none) R) (fun _ _ z => z)).2.1, P1]
    rw [b_rd (hIz _), b_bt _ 0 9 (by omega) (by omega) _ _ (by decide) (by decide), ← hy, nI_add, ia_nq rfl 0 0 _ (by decide) (by decide) (by decide), v5, ia_nq rfl 1 1 _ (by decide) (by decide) (by decide), v7, ia_nq rfl 2 2 _ (by decide) (by decide) (by decide), ← hQ, ← hw1, b_ps hK1 (Or.inr ⟨rfl, nq'.1⟩) k _ rfl (by omega) (by omega), ef, ← hw2]
    refine (e3 _ _).trans ?_
    refine (e4 _ _).trans ?_
    refine (b_rd r4a).trans ((b_rd r4b).trans ((b_rd r4c).trans ?_))
    refine (e5 _ _).trans ?_
    refine (b_rd r5a).trans ((b_rd r5b).trans ((b_rd r5d).trans ?_))
    cases t with
    | true =>
      refine (i_t (by decide)).trans ?_
      unfold DL_texts_b605a
      refine (e6 _ _).trans ?_
      refine (b_rd r6a).trans ((b_rd r6b).trans ((b_rd r6e).trans ?_))
      refine (e7 _ _).trans ?_
      refine (e8 _ _).trans ?_
      refine (e9 _ _).trans ?_
      rw [← nI_succ]
      exact q1
    | false =>
      refine (i_f (by decide)).trans ?_
      unfold DL_texts_b605
      refine (e6 _ _).trans ?_
      refine (b_rd r6a).trans ((b_rd r6b).trans ((b_rd r6e).trans ?_))
      refine (e7 _ _).trans ?_
      refine (e8 _ _).trans ?_
      refine (e9 _ _).trans ?_
      rw [← nI_succ]
      exact q1
theorem r_tells3 {w : Wd} {a n day : Nat} {g : Mem} {W : Wt} {ρ : Nat → Option Nat} {P : Wt} (x : Int32) (hd : day + 9 < 1000) (P1 : P 1 = nI day) (h : Kn w a (.inr (.inl 12)) ρ P) (hl : Lw w g) (hG : GS g W []) (ha : 146 ≤ a) (hR : Rm w (n + 6500)) : ∃ w' g' W1 oc N f, (R336 a x).1 w = some (1, w') ∧ Kp (fun c => c < 146 ∨ c = a) w w' ∧ Kn w' a (.inr (.inl 12)) (oupd ρ 18 (some oc)) (upd P 10 (nI N)) ∧ (Kn w' oc (.inr (.inr (2, N))) (lR f N) (fun _ => 0) ∧ ∀ i, i < N → w.1.length ≤ f i ∧ OR w' (f i) (lnR x day i)) ∧ w.1.length ≤ oc ∧ Lw w' g' ∧ GS g' W1 [] ∧ N ≤ 9 ∧ W1 87 = nI N ∧ (∀ y, y < 3 * N → W1 (222 + y) = orw (lnR x day) y) ∧ (∀ z, z ≠ 87 → (z < 222 ∨ 270 ≤ z) → W1 z = W z) ∧ Rm w' n := by
  obtain ⟨N, hN'⟩ : ∃ N, N = btN (x >>> ((6 : Int32) &&& 31)) 0 9 := ⟨_, rfl⟩
  have hN := (btN_r (x >>> ((6 : Int32) &&& 31)) (show 0 ≤ 9 by omega)).2
  rw [← hN'] at hN
  have hI0 := TI_0 h hl ha
  obtain ⟨w1, e1, f1, k1, r1, l1⟩ := r_new (n := n + 6497) hR
  have hI1 := TI_kp hI0 k1 (fun _ _ z => z)
  have kq := Kp_nq (fun _ => False) w1 (.inr (.inr (2, N))) (fun _ => none) (fun _ => 0)
  have nq' := Kn_nq w1 (.inr (.inr (2, N))) (fun _ => none) (fun _ => 0)
  have r2 : Rm (nq w1 (.inr (.inr (2, N))) (fun _ => none) (fun _ => 0)) (n + 6496) := Rm_nq (n := n + 6496) (c := 1) r1 (by decide) (by show N ≤ 12 * 1; omega)
  obtain ⟨w2, hw2⟩ : ∃ w2, w2 = nq w1 (.inr (.inr (2, N))) (fun _ => none) (fun _ => 0) := ⟨_, rfl⟩
  have hI2 := TI_kp hI1 kq (fun _ _ z => z)
  rw [← hw2] at kq nq' r2 hI2
  have hI3 := TI_wo hI2 (oupd ρ 18 (some w1.1.length))
  have hI4 := TI_wr hI3 (upd P 10 (nI N))
  have al : a < w.1.length := Kn_lt h
  have k34 : Kp (fun c => c = a) w2 (wr (wo w2 a (oupd ρ 18 (some w1.1.length))) a (upd P 10 (nI N))) := Kp_tr (Kp_wo w2 a _) (Kp_wr _ a _) (fun _ _ z => z)
  have hK4 := Kn_kp nq' k34 (by omega)
  have e0 : (fun _ => none : Nat → Option Nat) = lR (fun _ => 0) 0 := by
    funext i
    unfold lR
    rw [if_neg (by omega)]
  rw [e0] at hK4
  have hB4 : Bu (wr (wo w2 a (oupd ρ 18 (some w1.1.length))) a (upd P 10 (nI N))) w.1.length (w.1.length + 1) [] := Bu_kp (Bu_kp f1 kq (fun z => z) (fun z => z)) k34 (by omega) (by omega)
  obtain ⟨w5, v5, F5, f5, e5, i5, kn5, b5, g5, r5⟩ := or_loop (n0 := n + 97) x hd (show upd P 10 (nI N) 1 = nI day by rw [up_ne (by decide)]; exact P1) (show oupd ρ 18 (some w1.1.length) 18 = some w1.1.length from ou_eq _ _ _) (show w.1.length ≤ w1.1.length by omega) hN w.1.length (Nat.le_refl _) N 0 FU _ (w.1.length + 1) _ (by omega) (by show _ < 10000; omega) hI4 hK4 (fun i hi => by omega) hB4 (by omega) (Rm_le (Rm_wr (Rm_wo r2)) (by omega))
  have hok : ∀ l, l < N → (lnR x day l).1 < 1000 ∧ (lnR x day l).2.2 < 2 := fun l _ => lnR_ok x hd l
  have hbs : (orJ x day N).length ≤ 400 ∧ ∀ c ∈ orJ x day N, c < 128 := ⟨by have := orJ_len x hd N; omega, jn_c (P := fun c => c < 128) (fun l => by
    obtain ⟨o1, o2⟩ := lnR_ok x hd l
    exact orT_c (by omega) (by omega)) N⟩
  obtain ⟨w6, g6, e6, l6, ⟨W1, q1, q2, q3, q4⟩, k6, r6⟩ := say_txt1 (n := n) (p := 3) (r := nI N) b5 i5.2.2.1 hG hbs.1 hbs.2 r5 (fun g' => ∃ W1, GS g' W1 [] ∧ W1 87 = nI N ∧ (∀ y, y < 3 * N → W1 (222 + y) = orw (lnR x day) y) ∧ ∀ z, z ≠ 87 → (z < 222 ∨ 270 ≤ z) → W1 z = W z) (fun g1 h1 => by
    obtain ⟨g', W', z1, z2, z3, z4, z5⟩ := ge_text3 h1 (by omega) (rst_jn (fun s r => orT_B (lnR x day s) r) N) hok
    exact ⟨g', z1, W', z2, z3, z4, z5⟩)
  refine ⟨w6, g6, W1, w1.1.length, N, f5, ?_, Kp_tr i5.1 k6 (fun _ _ z => Or.inl z), Kn_kp i5.2.1 k6 (by omega), ⟨Kn_kp kn5.1 k6 (by omega), fun i hi => ?_⟩, by omega, l6, q1, hN, q2, q3, q4, r6⟩
  · unfold R336
    rw [b_bt _ 0 9 (by omega) (by omega) _ _ (by decide) (by decide), ← hN']
    refine (e1 _ _).trans ?_
    refine (b_nw (nwA_n (κ := 2) (n := N) (by omega) w1) (n := n + 6496) (c := 1) r1 (by decide) (by show N ≤ 12 * 1; omega)).trans ?_
    rw [← hw2, b_po hI2.2.1, b_fi hI3.2.1]
    refine e5.trans ?_
    unfold DL_texts_b492
    rw [i_t (Int32.le_refl _)]
    refine (e6 _ _).trans ?_
    rw [i_t rfl, u_rt]
  · obtain ⟨o1, o2⟩ := kn5.2 i hi
    exact ⟨o1, OR_kp o2 k6 (by omega)⟩
