/-! teaching, undoing, in the law and in the system -/
/-- within a round: a copy of what was before stands by -/
def LwX (w : Wd) (g : Mem) (a : Nat) (L : Lay) (W : Wt) (l3 : Nat) (B : List WrT) (D : Nat) (x : WrT) : Prop := WJ w W (B ++ [x, (a, L, W)]) D ∧ x.2.2 = W ∧ ArW w l3 B ∧ Lw w g ∧ GS g W (B.map (fun y => y.2.2))
theorem X_sub {w : Wd} {g : Mem} {a l3 D : Nat} {L : Lay} {W : Wt} {B : List WrT} {x : WrT} (h : LwX w g a L W l3 B D x) : LwI w g a L W l3 B D :=
  ⟨WJ_sub h.1 (List.Sublist.append (List.Sublist.refl _) (List.sublist_cons_self _ _)), h.2.2.1, h.2.2.2.1, h.2.2.2.2⟩
theorem X_ap {B : List WrT} {x y : WrT} : B ++ [x, y] = (B ++ [x]) ++ [y] := by
  rw [List.append_assoc]
  rfl
theorem X_last {w : Wd} {g : Mem} {a l3 D : Nat} {L : Lay} {W : Wt} {B : List WrT} {x : WrT} (h : LwX w g a L W l3 B D x) : Wv w a L W ∧ ∃ d, W 0 = nI d ∧ d ≤ D := by
  have q := h.1
  rw [X_ap] at q
  exact WJ_last q
/-- a call that changes nothing, then the round's end -/
theorem r_none {w : Wd} {g : Mem} {a l3 D n SL r : Nat} {L : Lay} {W : Wt} {B : List WrT} {x : WrT} (xs : Nat → Int32) (K : Nat → Nat → Int32 → Int32 → Dm Int32) (h : LwX w g a L W l3 B D x) {f gg : Mem → Option (Int32 × Mem)} {L0 : List Nat} (hA : A2 f gg) (fr : ∀ {u : Mem} {v : Int32} {u' : Mem}, f u = some (v, u') → FrL L0 u u') (h0 : ∀ c, 146 ≤ c → L0.contains c = false) (hg : gg g = some (0, g)) (hR : Rm w (n + 1)) : ∃ w1 w', (∀ k : Int32 → Dm Int32, (dbind (dclW f) k).1 w = (k 0).1 w1) ∧ (DL_law_b1082 SL xs K a l3 (nI B.length) (nI r) x.1 0).1 w1 = (K a l3 (nI B.length) (nI (r + 1))).1 w' ∧ LwI w' g a L W l3 B D ∧ Rm w' n := by
  obtain ⟨w1, c1, c2, c3, c4, c5⟩ := b_cl hA fr h0 h.2.2.2.1 hg
  obtain ⟨i1, i2, i3, i4⟩ := X_sub h
  have I1 : LwI w1 g a L W l3 B D := ⟨WJ_cl i1 c4 c1.1, AR_kp i2 c4 (by have := i2.2.1; show ¬ l3 < 146; omega), c1, i4⟩
  obtain ⟨w', e, q, rr⟩ := r_nop (SL := SL) (r := r) xs K x.1 I1 (Rm_e hR c2)
  exact ⟨w1, w', fun k => c5 _ k, e, q, rr⟩
/-- a step of the War that is kept to be undone -/
theorem r_acts {w w' : Wd} {g' : Mem} {a l3 D n SL r : Nat} {L L' : Lay} {W W' : Wt} {B : List WrT} {x : WrT} (xs : Nat → Int32) (K : Nat → Nat → Int32 → Int32 → Dm Int32) (hJ : WJ w W (B ++ [x, (a, L, W)]) D) (hx : x.2.2 = W) (hA : ArW w l3 B) (hl : Lw w g') (hG : GS g' W' (psh (B.map (fun y => y.2.2)) W)) (hg : Go w a L W w' L' W') (s : same78 W W') (b : bp W W') (h0 : W' 0 = W 0) (hR : Rm w' (n + 1)) : ∃ w2 B', (DL_law_b1082 SL xs K a l3 (nI B.length) (nI r) x.1 1).1 w' = (K a l3 (nI B'.length) (nI (r + 1))).1 w2 ∧ LwI w2 g' a L' W' l3 B' D ∧ Rm w2 n := by
  rw [X_ap] at hJ
  obtain ⟨hv, d, hd, hd'⟩ := WJ_last hJ
  have j1 := WJ_go (D' := D) (d := d) hJ hg s b (by rw [h0]; exact hd) hd' (Nat.le_refl _)
  rw [← X_ap] at j1
  have a1 := AR_kp hA hg.2.1 (fun z => RS_l3 hv.1 hA.1 (MW_RS z) rfl)
  have l1 := Lw_kp hl hg.2.1 (fun c hc z => by have := hv.2.2.2 c (MW_RS z); omega)
  exact r_push xs K j1 a1 l1 (by rw [hx]; exact hG) hR
theorem r_teach {w : Wd} {g : Mem} {a l3 D n SL r : Nat} {L : Lay} {W : Wt} {B : List WrT} {x : WrT} (xs : Nat → Int32) (K : Nat → Nat → Int32 → Int32 → Dm Int32) (h : LwX w g a L W l3 B D x) (m f : Nat) (hm : m ≤ nmen W) (hf : f ≤ 8) (hR : Rm w (n + 1)) : ∃ w' g' W' B', (dbind (dread (gfI a 12 6)) fun x70 => (if x70 ≤ nI m then (DL_law_b308 SL xs K a l3 (nI B.length) (nI r) (nI m) x.1 (nI f) 0) else ((if 8 ≤ nI f then (DL_law_b308 SL xs K a l3 (nI B.length) (nI r) (nI m) x.1 (nI f) 0) else (dbind (dread (gfR a 12 16)) fun x73 => dbind (dread (aald x73 (nI m))) fun x74 => dbind (dread (iald x74 4)) fun x75 => (if ((x75 >>> (nI f &&& 31)) &&& 1) = 0 then (DL_law_b308 SL xs K a l3 (nI B.length) (nI r) (nI m) x.1 (nI f) 1) else (DL_law_b308 SL xs K a l3 (nI B.length) (nI r) (nI m) x.1 (nI f) 0))))))).1 w = (K a l3 (nI B'.length) (nI (r + 1))).1 w' ∧ LwI w' g' a L W' l3 B' D ∧ Rm w' n := by
  obtain ⟨hv, d, hd, hd'⟩ := X_last h
  obtain ⟨hJ, hx, hA, hl, hG⟩ := id h
  have hT := hv.2.2.1.1
  obtain ⟨hn, h12⟩ := OkT_n hT
  -- where nothing is taught
  have no : ¬ (∃ m' i, m' < nmen W ∧ i < 8 ∧ nI m = nI m' ∧ nI f = nI i ∧ ¬ tb (W (16 + m')) i = true) → ∃ w' g' W' B', (DL_law_b308 SL xs K a l3 (nI B.length) (nI r) (nI m) x.1 (nI f) 0).1 w = (K a l3 (nI B'.length) (nI (r + 1))).1 w' ∧ LwI w' g' a L W' l3 B' D ∧ Rm w' n := fun hno => by
    obtain ⟨w1, w', e1, e2, I, rr⟩ := r_none (SL := SL) (r := r) xs K h (A_teach (nI m) (nI f)) (fun {u v u'} h => frX11_teach_0 _ _ u h) (fun c hc => by simp; omega) (ge_teachN hG hT hno) hR
    refine ⟨w', g, W, B, ?_, I, rr⟩
    unfold DL_law_b308
    refine (e1 _).trans ?_
    rw [i_t rfl, i_t rfl]
    exact e2
  rw [b_rd (g_6 hv.1), hn]
  by_cases c1 : nmen W ≤ m
  · rw [i_t (by rw [nn_le (by omega) (by omega)]; exact c1)]
    refine no ?_
    rintro ⟨m', i, h1, h2, h3, h4, h5⟩
    rw [nn_eq (by omega) (by omega)] at h3
    omega
  · rw [i_f (by rw [nn_le (by omega) (by omega)]; exact c1)]
    by_cases c2 : 8 ≤ f
    · rw [i_t (by rw [show (8 : Int32) = nI 8 by decide, nn_le (by decide) (by omega)]; exact c2)]
      refine no ?_
      rintro ⟨m', i, h1, h2, h3, h4, h5⟩
      rw [nn_eq (by omega) (by omega)] at h4
      omega
    · have hmn : m < nmen W := by omega
      rw [i_f (by rw [show (8 : Int32) = nI 8 by decide, nn_le (by decide) (by omega)]; exact c2), b_rd (g_R hv.1 16 (by decide) (by decide)), b_rd (g_man hv.1 hT hmn), b_rd (g_m4 hv.1 hmn)]
      by_cases c3 : tb (W (16 + m)) f = true
      · rw [i_f (fun z => by
          have q := (bit_1 (W (16 + m)) (show f < 32 by omega)).mpr c3
          rw [z] at q
          exact absurd q (by decide))]
        refine no ?_
        rintro ⟨m', i, h1, h2, h3, h4, h5⟩
        rw [nn_eq (by omega) (by omega)] at h3 h4
        subst h3
        subst h4
        exact h5 c3
      · have b0 : ((W (16 + m) >>> (nI f &&& 31)) &&& 1) = 0 := by
          rcases b01 (W (16 + m) >>> (nI f &&& 31)) with z | z
          · exact z
          · rw [bit_1 _ (by omega)] at z
            exact absurd z c3
        rw [i_t b0]
        obtain ⟨g1, m1, G1⟩ := ge_teach hG hT hmn (show f < 8 by omega) c3
        obtain ⟨w1, a1, a2, a3, a4, a5⟩ := b_cl (A_teach _ _) (fun {u v u'} h => frX11_teach_0 _ _ u h) (fun c hc => by simp; omega) hl m1
        have hv1 := Wv_cl hv a4 a1.1
        have hg := Go_kn hv1 hmn (GS_ok a1 G1)
        have j1 := WJ_cl hJ a4 a1.1
        have ar1 := AR_kp hA a4 (by have := hA.2.1; show ¬ l3 < 146; omega)
        obtain ⟨w2, B', e2, I2, r2⟩ := r_acts (SL := SL) (r := r) (n := n) xs K j1 hx ar1 a1 G1 hg (s78_u (by omega)) (bp_u (by omega) (by omega)) (up_ne (by omega)) (Rm_wr (Rm_e hR a2))
        refine ⟨w2, g1, _, B', ?_, I2, r2⟩
        unfold DL_law_b308
        refine (a5 _ _).trans ?_
        rw [i_t rfl, i_f (by decide), b_rd (g_R hv1.1 16 (by decide) (by decide)), b_rd (g_man hv1.1 hT hmn), b_rd (g_m4 hv1.1 hmn), b_row0 (row_of hv1.1 hmn) 4 4 _ (by decide) (by decide) (by decide)]
        exact e2
theorem r_undo {w : Wd} {g : Mem} {a l3 D n SL r : Nat} {L : Lay} {W : Wt} {B : List WrT} {x : WrT} (xs : Nat → Int32) (K : Nat → Nat → Int32 → Int32 → Dm Int32) (h : LwX w g a L W l3 B D x) (hR : Rm w (n + 1)) : ∃ w' g' a' L' W' B', (dbind (dclW (fun u => FX11_undo_0 u)) fun x59 => (if nI B.length ≤ 0 then (DL_law_b1064 SL xs K a l3 (nI B.length) (nI r) x.1 0 x59 0) else (DL_law_b1064 SL xs K a l3 (nI B.length) (nI r) x.1 0 x59 1))).1 w = (K a' l3 (nI B'.length) (nI (r + 1))).1 w' ∧ LwI w' g' a' L' W' l3 B' D ∧ Rm w' n := by
  rcases List.eq_nil_or_concat B with rfl | ⟨B0, y, rfl⟩
  · obtain ⟨w1, w', e1, e2, I, rr⟩ := r_none (SL := SL) (r := r) xs K h A_undo (fun {u v u'} h => frX11_undo_0 u h) (fun c hc => by simp; omega) (ge_undo0 h.2.2.2.2) hR
    refine ⟨w', g, a, L, W, [], ?_, I, rr⟩
    refine (e1 _).trans ?_
    have e0 : nI ([] : List WrT).length ≤ 0 := Int32.le_refl _
    rw [i_t e0]
    unfold DL_law_b1064
    rw [i_t rfl, i_t e0]
    exact e2
  · rw [List.concat_eq_append] at h ⊢
    obtain ⟨i1, i2, i3, i4⟩ := X_sub h
    have i4' : GS g W (B0.map (fun y => y.2.2) ++ [y.2.2]) := by
      rw [List.map_append] at i4
      exact i4
    obtain ⟨g1, m1, G1⟩ := ge_undo i4'
    obtain ⟨w1, a1, a2, a3, a4, a5⟩ := b_cl A_undo (fun {u v u'} h => frX11_undo_0 u h) (fun c hc => by simp; omega) i3 m1
    have j1 := WJ_cl i1 a4 a1.1
    rw [← X_ap] at j1
    have j2 := WJ_undo j1
    have hlen : (B0 ++ [y]).length = B0.length + 1 := by rw [List.length_append]; rfl
    have h6 := i2.2.2.1
    have ar1 : ArW w1 l3 B0 := by
      have q := AR_kp i2 a4 (by have := i2.2.1; show ¬ l3 < 146; omega)
      exact ⟨q.1, q.2.1, by omega, fun j z hz => q.2.2.2 j z (by rw [List.getElem?_append_left (List.getElem?_eq_some_iff.mp hz).1]; exact hz)⟩
    have I1 : LwI w1 g1 y.1 y.2.1 (mixR W y.2.2) l3 B0 D := ⟨j2, ar1, a1, G1⟩
    obtain ⟨w', e2, I2, r2⟩ := r_nop (SL := SL) (r := r) xs K x.1 I1 (Rm_e hR a2)
    refine ⟨w', g1, y.1, y.2.1, _, B0, ?_, I2, r2⟩
    refine (a5 _ _).trans ?_
    have e0 : ¬ nI (B0 ++ [y]).length ≤ 0 := by
      rw [show (0 : Int32) = nI 0 by decide, nn_le (by omega) (by omega), hlen]
      omega
    have e1 : nI (B0 ++ [y]).length + (-1) = nI B0.length := by
      rw [hlen, ← nI_1, Int32.add_assoc]
      show nI B0.length + 0 = _
      rw [Int32.add_zero]
    have rd : aald l3 (nI B0.length) w1 = some y.1 := by
      have q := (AR_kp i2 a4 (by have := i2.2.1; show ¬ l3 < 146; omega)).2.2.2 B0.length y (by rw [List.getElem?_append_right (Nat.le_refl _), Nat.sub_self]; rfl)
      unfold aald
      rw [ar1.1]
      show (if nI B0.length < 0 ∨ 6 ≤ (nI B0.length).toNatClampNeg then none else w1.2.1 l3 (nI B0.length).toNatClampNeg) = _
      rw [if_neg (nI_in (by omega) (by omega)), nI_clamp (by omega), q]
    rw [i_f e0]
    unfold DL_law_b1064
    rw [i_t rfl, i_f e0, e1, b_rd rd]
    exact e2
