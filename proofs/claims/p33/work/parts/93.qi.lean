/-! a line of the texts, put together -/
theorem bsS_5 : bsS 5 = blk 1 ++ (wo_tells ++ blk 1) := by decide
theorem bsS_6 : bsS 6 = blk 1 ++ (wo_and ++ blk 1) := by decide
theorem bsS_7 : bsS 7 = [] := by decide
theorem bsS_8 : bsS 8 = [59] := by decide
theorem bsS_9 : bsS 9 = wo_fact ++ blk 1 := by decide
theorem bsS_10 : bsS 10 = blk 1 ++ (wo_weighs ++ blk 1) := by decide
theorem bsS_11 : bsS 11 = wo_on ++ blk 1 := by decide
theorem bsS_12 : bsS 12 = blk 1 ++ (orv true ++ blk 1) := by decide
theorem bsS_13 : bsS 13 = blk 1 ++ (orv false ++ blk 1) := by decide
theorem bsS_l : (bsS 5).length = 7 ∧ (bsS 6).length = 5 ∧ (bsS 7).length = 0 ∧ (bsS 8).length = 1 ∧ (bsS 9).length = 5 ∧ (bsS 10).length = 8 ∧ (bsS 11).length = 3 ∧ (bsS 12).length = 6 ∧ (bsS 13).length = 4 := by decide
def tlT (l : Nat × Nat × Option Nat) : List Nat := match l.2.2 with
  | none => dg l.1 ++ (bsS 5 ++ (dg l.2.1 ++ (bsS 7 ++ bsS 8)))
  | some o => dg l.1 ++ (bsS 5 ++ (dg l.2.1 ++ ((bsS 6 ++ dg o) ++ bsS 8)))
theorem tlT_B (l : Nat × Nat × Option Nat) (r : List Nat) : tlB l r = tlT l ++ r := by
  obtain ⟨m, a, o⟩ := l
  cases o with
  | none =>
    show dg m ++ (blk 1 ++ (wo_tells ++ (blk 1 ++ (dg a ++ (blk 0 ++ ([59] ++ (blk 0 ++ r))))))) = (dg m ++ (bsS 5 ++ (dg a ++ (bsS 7 ++ bsS 8)))) ++ r
    rw [bsS_5, bsS_7, bsS_8]
    simp only [List.append_assoc, List.nil_append]
    rfl
  | some x =>
    show dg m ++ (blk 1 ++ (wo_tells ++ (blk 1 ++ (dg a ++ (blk 1 ++ (wo_and ++ (blk 1 ++ (dg x ++ (blk 0 ++ ([59] ++ (blk 0 ++ r))))))))))) = (dg m ++ (bsS 5 ++ (dg a ++ ((bsS 6 ++ dg x) ++ bsS 8)))) ++ r
    rw [bsS_5, bsS_6, bsS_8]
    simp only [List.append_assoc, List.nil_append]
    rfl
theorem tlT_len {l : Nat × Nat × Option Nat} (h1 : l.1 < 1000) (h2 : l.2.1 < 1000) (h3 : ∀ o, l.2.2 = some o → o < 1000) : (tlT l).length ≤ 22 := by
  obtain ⟨m, a, o⟩ := l
  obtain ⟨b5, b6, b7, b8, -⟩ := bsS_l
  have d1 := (dg_d m h1).2.2
  have d2 := (dg_d a h2).2.2
  cases o with
  | none =>
    show (dg m ++ (bsS 5 ++ (dg a ++ (bsS 7 ++ bsS 8)))).length ≤ 22
    simp only [List.length_append, b5, b7, b8]
    omega
  | some x =>
    have d3 := (dg_d x (h3 x rfl)).2.2
    show (dg m ++ (bsS 5 ++ (dg a ++ ((bsS 6 ++ dg x) ++ bsS 8)))).length ≤ 22
    simp only [List.length_append, b5, b6, b8]
    omega
theorem c128_S {k : Nat} (hk : k < 23) : ∀ c ∈ bsS k, c < 128 := (sc_ok k hk).2.1
theorem tlT_c {l : Nat × Nat × Option Nat} (h1 : l.1 < 1000) (h2 : l.2.1 < 1000) (h3 : ∀ o, l.2.2 = some o → o < 1000) : ∀ c ∈ tlT l, c < 128 := by
  obtain ⟨m, a, o⟩ := l
  intro c hc
  have d1 := dg_c m h1
  have d2 := dg_c a h2
  have s5 := c128_S (k := 5) (by decide)
  have s6 := c128_S (k := 6) (by decide)
  have s7 := c128_S (k := 7) (by decide)
  have s8 := c128_S (k := 8) (by decide)
  cases o with
  | none =>
    have hc : c ∈ dg m ++ (bsS 5 ++ (dg a ++ (bsS 7 ++ bsS 8))) := hc
    simp only [List.mem_append] at hc
    rcases hc with hc | hc | hc | hc | hc
    · exact d1 c hc
    · exact s5 c hc
    · exact d2 c hc
    · exact s7 c hc
    · exact s8 c hc
  | some x =>
    have d3 := dg_c x (h3 x rfl)
    have hc : c ∈ dg m ++ (bsS 5 ++ (dg a ++ ((bsS 6 ++ dg x) ++ bsS 8))) := hc
    simp only [List.mem_append] at hc
    rcases hc with hc | hc | hc | (hc | hc) | hc
    · exact d1 c hc
    · exact s5 c hc
    · exact d2 c hc
    · exact s6 c hc
    · exact d3 c hc
    · exact s8 c hc
/-- the word of a line is put behind the text -/
theorem ln_end {w0 w : Wd} {l4 v x vx n : Nat} {bs cs : List Nat} (hB : Bu w0 l4 v bs) (h : Ck w0 w x vx cs (n + 145)) (hl : bs.length + cs.length ≤ 400) : ∃ w' v', (∀ (β : Type) (k : Nat → Dm β), (dbind (dread (isC x 14)) fun _ => dbind (DJ4_toString_0e30d x) fun s => dbind (dread (isC l4 14)) fun _ => dbind (DJ4_append_15ec4 l4 s) fun y => k y).1 w = (k l4).1 w') ∧ Bu w' l4 v' (bs ++ cs) ∧ Kp (fun c => c = l4 ∨ c = v) w0 w' ∧ (v' = v ∨ w0.1.length ≤ v') ∧ Rm w' n := by
  obtain ⟨w2, e2, s2, c2, k2⟩ := ck_str (n := n + 68) h
  obtain ⟨b1, b2, ⟨cap, b3, -⟩, -⟩ := id hB
  have l1 := sh_len b1
  have l2 := sh_len b3
  have l0 := Kp_len h.2.2.2.1
  have hB2 : Bu w2 l4 v bs := Bu_kp hB c2.2.2.2.1 (fun z => z) (fun z => z)
  obtain ⟨w3, v3, e3, f3, k3, g3, r3⟩ := r_app hB2 s2 (show w.1.length ≠ l4 by omega) (show w.1.length + 1 ≠ l4 by omega) (show w.1.length + 1 ≠ v by omega) hl c2.2.2.2.2
  have hlen2 := Kp_len c2.2.2.2.1
  refine ⟨w3, v3, fun β k => ?_, f3, Kp_tr (Kp_F c2.2.2.2.1) k3 (fun _ _ z => z), by omega, r3⟩
  refine (e2 β _).trans ?_
  rw [b_rd (isC_s hB2.1), b_ok e3]
theorem ln_tell0 {w : Wd} {l4 v n m a : Nat} {bs : List Nat} (hB : Bu w l4 v bs) (hR : Rm w (n + 710)) (hm : m < 1000) (ha : a < 1000) (hl : bs.length + 22 ≤ 400) (k47 : Nat → Int32 → Int32 → Nat → Int32 → Dm Int32) (l1 : Nat) (l2 l3 l5 l9 : Int32) : ∃ w' v', (DL_texts_b147 k47 l1 l2 l3 l4 l5 (nI m) (nI a) l9 0).1 w = (dbind (dread (gfR l1 12 14)) fun x9 => dbind (dread (iald x9 (nI m))) fun x10 => DL_texts_b243 k47 l1 l2 l3 l4 l5 x9 (nI m) x10 ((1 : Int32) <<< (nI a &&& 31)) 0).1 w' ∧ Bu w' l4 v' (bs ++ tlT (m, a, none)) ∧ Kp (fun c => c = l4 ∨ c = v) w w' ∧ (v' = v ∨ w.1.length ≤ v') ∧ Rm w' n := by
  obtain ⟨b5, b6, b7, b8, -⟩ := bsS_l
  have d1 := (dg_d m hm).2.2
  have d2 := (dg_d a ha).2.2
  obtain ⟨w1, e1, c1⟩ := ck_new (n := n + 707) hR
  obtain ⟨w2, v2, e2, c2, -⟩ := ck_num (n := n + 639) c1 hm (nI m) rfl (by simp)
  obtain ⟨w3, v3, e3, c3, -⟩ := ck_con (n := n + 571) (k := 5) c2 (by decide) 2000005 rfl (by simp only [List.length_append, List.length_nil, b5]; omega)
  obtain ⟨w4, v4, e4, c4, -⟩ := ck_num (n := n + 503) c3 ha (nI a) rfl (by simp only [List.length_append, List.length_nil, b5]; omega)
  obtain ⟨w5, v5, e5, c5, -⟩ := ck_con (n := n + 435) (k := 7) c4 (by decide) 2000007 rfl (by simp only [List.length_append, List.length_nil, b5, b7]; omega)
  obtain ⟨w6, v6, e6, c6, -⟩ := ck_con (n := n + 145) (k := 8) (Ck_le c5 (m := n + 145 + 68) (by omega)) (by decide) 2000008 rfl (by simp only [List.length_append, List.length_nil, b5, b7, b8]; omega)
  have et : ((((([] ++ dg m) ++ bsS 5) ++ dg a) ++ bsS 7) ++ bsS 8) = tlT (m, a, none) := by
    show _ = dg m ++ (bsS 5 ++ (dg a ++ (bsS 7 ++ bsS 8)))
    simp only [List.append_assoc, List.nil_append]
  rw [et] at c6
  have ht := tlT_len (l := (m, a, none)) hm ha (fun o h => by cases h)
  obtain ⟨w7, v7, e7, f7, k7, g7, r7⟩ := ln_end hB c6 (by omega)
  refine ⟨w7, v7, ?_, f7, k7, g7, r7⟩
  unfold DL_texts_b147
  refine (e1 _ _).trans ?_
  refine (e2 _ _).trans ?_
  refine (e3 _ _).trans ?_
  refine (e4 _ _).trans ?_
  refine (i_t rfl).trans ?_
  unfold DL_texts_b203
  refine (e5 _ _).trans ?_
  refine (e6 _ _).trans ?_
  refine (e7 _ _).trans ?_
  rfl
theorem ln_tell1 {w : Wd} {l4 v n m a x : Nat} {bs : List Nat} (hB : Bu w l4 v bs) (hR : Rm w (n + 710)) (hm : m < 1000) (ha : a < 1000) (hx : x < 1000) (hl : bs.length + 22 ≤ 400) (k47 : Nat → Int32 → Int32 → Nat → Int32 → Dm Int32) (l1 : Nat) (l2 l3 l5 : Int32) : ∃ w' v', (DL_texts_b147 k47 l1 l2 l3 l4 l5 (nI m) (nI a) (nI x) 1).1 w = (dbind (dread (gfR l1 12 14)) fun x9 => dbind (dread (iald x9 (nI m))) fun x10 => DL_texts_b243 k47 l1 l2 l3 l4 l5 x9 (nI m) x10 ((1 : Int32) <<< (nI a &&& 31)) ((1 : Int32) <<< (nI x &&& 31))).1 w' ∧ Bu w' l4 v' (bs ++ tlT (m, a, some x)) ∧ Kp (fun c => c = l4 ∨ c = v) w w' ∧ (v' = v ∨ w.1.length ≤ v') ∧ Rm w' n := by
  obtain ⟨b5, b6, b7, b8, -⟩ := bsS_l
  have d1 := (dg_d m hm).2.2
  have d2 := (dg_d a ha).2.2
  have d3 := (dg_d x hx).2.2
  obtain ⟨w1, e1, c1⟩ := ck_new (n := n + 707) hR
  obtain ⟨w2, v2, e2, c2, -⟩ := ck_num (n := n + 639) c1 hm (nI m) rfl (by simp)
  obtain ⟨w3, v3, e3, c3, -⟩ := ck_con (n := n + 571) (k := 5) c2 (by decide) 2000005 rfl (by simp only [List.length_append, List.length_nil, b5]; omega)
  obtain ⟨w4, v4, e4, c4, -⟩ := ck_num (n := n + 503) c3 ha (nI a) rfl (by simp only [List.length_append, List.length_nil, b5]; omega)
  -- the second hearer, in a text of its own
  obtain ⟨x1, y1, z1⟩ := ck_new (w := w4) (n := n + 500) c4.2.2.2.2
  obtain ⟨x2, u2, y2, z2, -⟩ := ck_con (n := n + 432) (k := 6) z1 (by decide) 2000006 rfl (by simp only [List.length_nil, b6]; omega)
  obtain ⟨x3, u3, y3, z3, -⟩ := ck_num (n := n + 364) z2 hx (nI x) rfl (by simp only [List.length_append, List.length_nil, b6]; omega)
  obtain ⟨x4, y4, s4, z4, k4⟩ := ck_str (n := n + 287) z3
  have q4 := z4.2.2.2.1
  have c4' : Ck w x4 w.1.length v4 _ (n + 287) := Ck_kp c4 q4 (fun z => z) (fun z => z) (fun _ _ z => z) z4.2.2.2.2
  have hlt := Ck_lt c4
  have hl3 := Kp_len z3.2.2.2.1
  obtain ⟨w5, v5, e5, c5, -⟩ := ck_app (n := n + 213) (Ck_le c4' (m := n + 213 + 68) (by omega)) s4 (by omega) (by omega) (by omega) (by simp only [List.length_append, List.length_nil, b5, b6]; omega)
  obtain ⟨w6, v6, e6, c6, -⟩ := ck_con (n := n + 145) (k := 8) (Ck_le c5 (m := n + 145 + 68) (by omega)) (by decide) 2000008 rfl (by simp only [List.length_append, List.length_nil, b5, b6, b8]; omega)
  have et : ((((([] ++ dg m) ++ bsS 5) ++ dg a) ++ (([] ++ bsS 6) ++ dg x)) ++ bsS 8) = tlT (m, a, some x) := by
    show _ = dg m ++ (bsS 5 ++ (dg a ++ ((bsS 6 ++ dg x) ++ bsS 8)))
    simp only [List.append_assoc, List.nil_append]
  rw [et] at c6
  have ht := tlT_len (l := (m, a, some x)) hm ha (fun o h => by cases h; exact hx)
  obtain ⟨w7, v7, e7, f7, k7, g7, r7⟩ := ln_end hB c6 (by omega)
  refine ⟨w7, v7, ?_, f7, k7, g7, r7⟩
  unfold DL_texts_b147
  refine (e1 _ _).trans ?_
  refine (e2 _ _).trans ?_
  refine (e3 _ _).trans ?_
  refine (e4 _ _).trans ?_
  refine (i_f (by decide)).trans ?_
  refine (y1 _ _).trans ?_
  refine (y2 _ _).trans ?_
  refine (y3 _ _).trans ?_
  refine (y4 _ _).trans ?_
  unfold DL_texts_b203a
  refine (e5 _ _).trans ?_
  refine (e6 _ _).trans ?_
  refine (e7 _ _).trans ?_
  rfl
