/-! undoing, setting, a man -/
def mixR (W R : Wt) : Wt := fun k => if k < 78 then R k else W k
theorem ge_undo0 {g : Mem} {W : Wt} (h : GS g W []) : FX12_undo_146 g = some (0, g) := by
  unfold FX12_undo_146
  rw [if_pos (by rw [h.2.1.2.1]; rfl)]
theorem ge_undo {g : Mem} {W R : Wt} {S : List Wt} (h : GS g W (S ++ [R])) : ∃ g', FX12_undo_146 g = some (1, g') ∧ GS g' (mixR W R) S := by
  obtain ⟨h1, ⟨h2, h3, h4⟩, h5⟩ := h
  rw [List.length_append] at h2 h3
  have h2 : S.length + 1 ≤ 6 := h2
  have h3 : g 146 4 = nI (S.length + 1) := h3
  have lastR : ∀ k, k < 78 → g 149 (78 * S.length + k) = R k := fun k hk => h4 S.length R (by rw [List.getElem?_append_right (Nat.le_refl _), Nat.sub_self]; rfl) k hk
  unfold FX12_undo_146
  rw [h3, if_neg (nI_ne0 (by omega) (by omega))]
  have mm : ∃ w', ((some (mupd g 146 4 (nI (S.length + 1) - 1))).bind fun u2 => FX12_undo_146_L21 FU 0 u2) = some (1, w') ∧ w' 147 = mixR W R ∧ w' 146 = upd (g 146) 4 (nI S.length) ∧ FrL [146, 147] g w' := by
    rw [b_some, dec1 (by omega) (by omega)]
    have e0 : S.length + 1 - 1 = S.length := by omega
    rw [e0]
    have hh := lp_r (S := Wt) (fun F i P => FX12_undo_146_L21 F i (mset (mupd g 146 4 (nI S.length)) 147 P)) 78 (fun i P => (∀ k, k < i → P k = mixR W R k) ∧ ∀ k, i ≤ k → P k = g 147 k) (fun o => ∃ w', o = some (1, w') ∧ w' 147 = mixR W R ∧ w' 146 = upd (g 146) 4 (nI S.length) ∧ FrL [146, 147] g w') (fun i P hi' hI => ?_) (fun P hI F => ?_) FU 0 (g 147) (by omega) (by decide) ⟨fun k hk => by omega, fun _ _ => rfl⟩
    · rw [nI_0] at hh
      have es : mset (mupd g 146 4 (nI S.length)) 147 (g 147) = mupd g 146 4 (nI S.length) := by
        have := ms_self (mupd g 146 4 (nI S.length)) 147
        rw [m_ne (show 147 ≠ 146 by decide)] at this
        exact this
      rw [es] at hh
      exact hh
    · refine Or.inl ⟨upd P i (R i), ⟨fun k hk => ?_, fun k hk => ?_⟩, fun F => ?_⟩
      · by_cases z : k = i
        · subst z; rw [up_eq]; unfold mixR; rw [if_pos hi']
        · rw [up_ne z]; exact hI.1 k (by omega)
      · rw [up_ne (by omega)]; exact hI.2 k (by omega)
      · show FX12_undo_146_b21 _ _ _ = _
        unfold FX12_undo_146_b21
        have e1 : (78 * nI S.length) + nI i = nI (78 * S.length + i) := by rw [show (78 : Int32) = nI 78 by decide, nI_mul, nI_add]
        rw [if_neg (by rw [li_le (by decide) (by omega)]; show ¬ 78 ≤ i; omega), ms_ne (by decide), m_eq, up_eq, e1, rbs (by omega) (by omega) (by decide), wbs (by omega) (by omega), m_ne (by decide), nI_1, lastR i hi']
    · show ∃ w', FX12_undo_146_b21 _ _ _ = some (1, w') ∧ _
      unfold FX12_undo_146_b21
      rw [if_pos (by decide)]
      refine ⟨_, rfl, ?_, by rw [ms_ne (by decide), m_eq], fun c hc => ?_⟩
      · rw [ms_eq]
        funext k
        by_cases z : k < 78
        · exact hI.1 k z
        · rw [hI.2 k (by omega), h1]
          unfold mixR
          rw [if_neg z]
      · rw [ms_ne (by intro e; subst e; simp at hc), m_ne (by intro e; subst e; simp at hc)]
  obtain ⟨w', g1, g2, g3, g4⟩ := mm
  refine ⟨w', g1, g2, ⟨by omega, by rw [g3, up_eq], fun j R' hj k hk => ?_⟩, by rw [g3, up_ne (by omega)]; exact h5⟩
  rw [g4 149 (by decide)]
  exact h4 j R' (by rw [List.getElem?_append_left (List.getElem?_eq_some_iff.mp hj).1]; exact hj) k hk
theorem ge_state {g : Mem} {W : Wt} {S : List Wt} (h : GS g W S) (x : Int32) : ∃ g', FX12_state_146 x g = some (W 2, g') ∧ GS g' (upd W 2 x) [] := by
  refine ⟨mupd (mupd g 147 2 x) 146 4 0, ?_, GS_0 (GS_u h 2 x)⟩
  unfold FX12_state_146
  rw [b_some, m_forget, b_some, h.1]
def cSet (W : Wt) (what who v : Nat) : Prop := (what = 0 ∧ v ≤ 99) ∨ (what = 1 ∧ v ≤ 9) ∨ (what = 2 ∧ v ≤ 99) ∨ (what = 3 ∧ who < 2 ∧ v ≤ 9) ∨ (what = 4 ∧ who < 16 ∧ v ≤ 1) ∨ (what = 5 ∧ who < nmen W ∧ v ≤ 99) ∨ (what = 6 ∧ who < nmen W ∧ v ≤ 999)
def plc (what who : Nat) : Nat := if what = 0 then 79 else if what = 1 then 80 else if what = 2 then 81 else if what = 3 then 82 + who else if what = 4 then 126 + who else if what = 5 then 4 + who else 28 + who
theorem in_k {k v : Nat} (hv : v < 100000) (hk : k < 100000) : (0 ≤ nI v ∧ nI v ≤ nI k) = (v ≤ k) := by
  rw [nn_le (by omega) (by omega)]
  exact propext ⟨fun z => z.2, fun z => ⟨by rw [i_le]; exact nI_pos (by omega), z⟩⟩
theorem ge_can {g : Mem} {W : Wt} {S : List Wt} (h : GS g W S) (hT : OkT W) {what who v : Nat} (h7 : what < 8) (hw : who < 100) (hv : v < 10000) (b : Bool) (hb : (b = true) = cSet W what who v) : FX12_canSet_146 (nI what) (nI who) (nI v) g = some (if b = true then 1 else 0) := by
  have h12 := (OkT_n hT).2
  have hm : FX12_isMan_146 (nI who) g = some (if who < nmen W then 1 else 0) := by
    by_cases c : who < nmen W
    · rw [if_pos c, m_isMan h.1 hT c]
    · rw [if_neg c, m_isManN h.1 hT]
      rintro ⟨m, hm, e⟩
      rw [nn_eq (by omega) (by omega)] at e
      omega
  have r : ∀ {p : Prop} [Decidable p], (p ↔ cSet W what who v) → (if p then (1 : Int32) else 0) = if b = true then 1 else 0 := fun {p} _ hp => by
    by_cases c : p
    · rw [if_pos c, if_pos (by rw [hb]; exact hp.mp c)]
    · rw [if_neg c, if_neg (by rw [hb]; exact fun z => c (hp.mpr z))]
  have e99 : (0 ≤ nI v ∧ nI v ≤ 99) = (v ≤ 99) := in_k (k := 99) (by omega) (by omega)
  have e9 : (0 ≤ nI v ∧ nI v ≤ 9) = (v ≤ 9) := in_k (k := 9) (by omega) (by omega)
  have e1 : (0 ≤ nI v ∧ nI v ≤ 1) = (v ≤ 1) := in_k (k := 1) (by omega) (by omega)
  have e999 : (0 ≤ nI v ∧ nI v ≤ 999) = (v ≤ 999) := in_k (k := 999) (by omega) (by omega)
  have w15 : (0 ≤ nI who ∧ nI who ≤ 15) = (who ≤ 15) := in_k (k := 15) (by omega) (by omega)
  have w1 : (0 ≤ nI who ∧ nI who ≤ 1) = (who ≤ 1) := in_k (k := 1) (by omega) (by omega)
  have bb : ∀ (p : Prop) [Decidable p], (bchk (if p then (1 : Int32) else 0)).bind (fun x => some x) = some (if p then (1 : Int32) else 0) := fun p _ => by rw [bchk_i]
  have two : ∀ (p q : Prop) [Decidable p] [Decidable q], (if (if p then (1 : Int32) else 0) = 0 then some 0 else (if (if q then (1 : Int32) else 0) = 0 then some 0 else some (1 : Int32))) = some (if p ∧ q then 1 else 0) := fun p q _ _ => by
    by_cases c1 : p
    · by_cases c2 : q
      · rw [if_pos c1, if_pos c2, if_neg z1, if_neg z1, if_pos ⟨c1, c2⟩]
      · rw [if_pos c1, if_neg c2, if_neg z1, if_pos rfl, if_neg (fun z => c2 z.2)]
    · rw [if_neg c1, if_pos rfl, if_neg (fun z => c1 z.1)]
  have un : ∀ p, FX12_canSet_146 p (nI who) (nI v) g = (if p = 0 then some (if v ≤ 99 then 1 else 0) else if p = 1 then some (if v ≤ 9 then 1 else 0) else if p = 2 then some (if v ≤ 99 then 1 else 0) else if p = 3 then some (if who ≤ 1 ∧ v ≤ 9 then 1 else 0) else if p = 4 then some (if who ≤ 15 ∧ v ≤ 1 then 1 else 0) else if p = 5 then some (if who < nmen W ∧ v ≤ 99 then 1 else 0) else if p = 6 then some (if who < nmen W ∧ v ≤ 999 then 1 else 0) else some 0) := fun p => by
    unfold FX12_canSet_146 FX12_isCountry
    simp only [m_in, b_some, bb, hm, two, e99, e9, e1, e999, w15, w1]
  rw [un]
  rcases (by omega : what = 0 ∨ what = 1 ∨ what = 2 ∨ what = 3 ∨ what = 4 ∨ what = 5 ∨ what = 6 ∨ what = 7) with rfl | rfl | rfl | rfl | rfl | rfl | rfl | rfl
  · rw [if_pos (by decide)]
    exact congrArg some (r (by unfold cSet; omega))
  · rw [if_neg (by decide), if_pos (by decide)]
    exact congrArg some (r (by unfold cSet; omega))
  · rw [if_neg (by decide), if_neg (by decide), if_pos (by decide)]
    exact congrArg some (r (by unfold cSet; omega))
  · rw [if_neg (by decide), if_neg (by decide), if_neg (by decide), if_pos (by decide)]
    exact congrArg some (r (by unfold cSet; omega))
  · rw [if_neg (by decide), if_neg (by decide), if_neg (by decide), if_neg (by decide), if_pos (by decide)]
    exact congrArg some (r (by unfold cSet; omega))
  · rw [if_neg (by decide), if_neg (by decide), if_neg (by decide), if_neg (by decide), if_neg (by decide), if_pos (by decide)]
    exact congrArg some (r (by unfold cSet; omega))
  · rw [if_neg (by decide), if_neg (by decide), if_neg (by decide), if_neg (by decide), if_neg (by decide), if_neg (by decide), if_pos (by decide)]
    exact congrArg some (r (by unfold cSet; omega))
  · rw [if_neg (by decide), if_neg (by decide), if_neg (by decide), if_neg (by decide), if_neg (by decide), if_neg (by decide), if_neg (by decide), if_neg (by rw [hb]; unfold cSet; omega)]
theorem plc_ok {what who : Nat} (h7 : what < 7) (hw : who < 100) : FX12_placeOf (nI what) (nI who) = some (nI (plc what who)) ∧ plc what who < 300 := by
  unfold FX12_placeOf plc
  rcases (by omega : what = 0 ∨ what = 1 ∨ what = 2 ∨ what = 3 ∨ what = 4 ∨ what = 5 ∨ what = 6) with rfl | rfl | rfl | rfl | rfl | rfl | rfl
  · exact ⟨rfl, by show 79 < 300; omega⟩
  · exact ⟨rfl, by show 80 < 300; omega⟩
  · exact ⟨rfl, by show 81 < 300; omega⟩
  · refine ⟨?_, by show 82 + who < 300; omega⟩
    rw [if_neg (by decide), if_neg (by decide), if_neg (by decide), if_pos (by decide), li_add]
    rfl
  · refine ⟨?_, by show 126 + who < 300; omega⟩
    rw [if_neg (by decide), if_neg (by decide), if_neg (by decide), if_neg (by decide), if_pos (by decide), li_add]
    rfl
  · refine ⟨?_, by show 4 + who < 300; omega⟩
    rw [if_neg (by decide), if_neg (by decide), if_neg (by decide), if_neg (by decide), if_neg (by decide), if_pos (by decide), li_add]
    rfl
  · refine ⟨?_, by show 28 + who < 300; omega⟩
    rw [if_neg (by decide), if_neg (by decide), if_neg (by decide), if_neg (by decide), if_neg (by decide), if_neg (by decide), li_add]
    rfl
theorem ge_set {g : Mem} {W : Wt} {S : List Wt} (h : GS g W S) (hT : OkT W) {what who v : Nat} (h7 : what < 8) (hw : who < 100) (hv : v < 10000) (hc : cSet W what who v) : ∃ g', FX12_set_146 (nI what) (nI who) (nI v) g = some (1, g') ∧ GS g' (upd W (plc what who) (nI v)) [] := by
  have h6 : what < 7 := by unfold cSet at hc; omega
  have c := ge_can h hT h7 hw hv true (by rw [eq_self]; exact (eq_true hc).symm)
  obtain ⟨p1, p2⟩ := plc_ok h6 hw
  refine ⟨mupd (mupd g 147 (plc what who) (nI v)) 146 4 0, ?_, GS_0 (GS_u h _ _)⟩
  unfold FX12_set_146
  rw [c, b_some, if_pos rfl, if_neg z1, p1, b_some, wb (by omega) (by omega), m_forget, b_some]
theorem ge_setN {g : Mem} {W : Wt} {S : List Wt} (h : GS g W S) (hT : OkT W) {what who v : Nat} (h7 : what < 8) (hw : who < 100) (hv : v < 10000) (hc : ¬ cSet W what who v) : FX12_set_146 (nI what) (nI who) (nI v) g = some (0, g) := by
  have c := ge_can h hT h7 hw hv false (by rw [show (false = true) = False by decide]; exact (eq_false hc).symm)
  unfold FX12_set_146
  rw [c, b_some, if_pos (by decide)]
theorem ge_man {g : Mem} {W : Wt} {S : List Wt} (h : GS g W S) (hT : OkT W) (hm : nmen W < 12) {p q l : Int32} (c : manOk p q l) : ∃ g', FX12_man_146 p q l g = some (nI (nmen W), g') ∧ GS g' (mkW W (nmen W) p q l) [] := by
  obtain ⟨c1, c2, c3⟩ := c
  have hn := (OkT_n hT).1
  obtain ⟨m, e⟩ : ∃ m, m = nmen W := ⟨_, rfl⟩
  rw [← e] at hn hm ⊢
  unfold FX12_man_146
  have ew : ∀ z : Int32, mupd (mupd (mupd (mupd (mupd (mupd (mupd (mupd (mupd (mupd g 147 (90 + m) p) 147 (102 + m) q) 147 (114 + m) l) 147 (4 + m) 50) 147 (16 + m) 0) 147 (28 + m) 0) 147 (40 + m) 0) 147 (52 + m) 0) 147 (64 + m) 0) 147 78 z = mset g 147 (upd (upd (upd (upd (upd (upd (upd (upd (upd (upd W (90 + m) p) (102 + m) q) (114 + m) l) (4 + m) 50) (16 + m) 0) (28 + m) 0) (40 + m) 0) (52 + m) 0) (64 + m) 0) 78 z) := by
    intro z
    rw [mu_eq g, mu_ms, mu_ms, mu_ms, mu_ms, mu_ms, mu_ms, mu_ms, mu_ms, mu_ms, h.1]
  have e78 : (mupd (mupd (mupd (mupd (mupd (mupd (mupd (mupd (mupd g 147 (90 + m) p) 147 (102 + m) q) 147 (114 + m) l) 147 (4 + m) 50) 147 (16 + m) 0) 147 (28 + m) 0) 147 (40 + m) 0) 147 (52 + m) 0) 147 (64 + m) 0) 147 78 = nI m := by
    rw [mu_eq g, mu_ms, mu_ms, mu_ms, mu_ms, mu_ms, mu_ms, mu_ms, mu_ms, ms_eq, up_ne (by omega), up_ne (by omega), up_ne (by omega), up_ne (by omega), up_ne (by omega), up_ne (by omega), up_ne (by omega), up_ne (by omega), up_ne (by omega), h.1, hn]
  rw [m_co, b_some, if_pos c1, if_neg z1, m_in, b_some, if_pos c2, if_neg z1, m_in, b_some, if_pos c3, if_neg z1, h.1, hn, if_neg (by rw [eq_li (by decide) (by omega)]; show ¬ m = 12; omega)]
  rw [wl (by show 90 + m < _; omega) (by omega), wl (by show 102 + m < _; omega) (by omega), wl (by show 114 + m < _; omega) (by omega), wl (by show 4 + m < _; omega) (by omega), wl (by show 16 + m < _; omega) (by omega), wl (by show 28 + m < _; omega) (by omega), wl (by show 40 + m < _; omega) (by omega), wl (by show 52 + m < _; omega) (by omega), wl (by show 64 + m < _; omega) (by omega), b_some, m_forget, b_some]
  refine ⟨mupd (mset g 147 (mkW W m p q l)) 146 4 0, ?_, ?_⟩
  · show some (nI m, mupd (mupd (mupd (mupd (mupd (mupd (mupd (mupd (mupd (mupd (mupd g 147 (90 + m) p) 147 (102 + m) q) 147 (114 + m) l) 147 (4 + m) 50) 147 (16 + m) 0) 147 (28 + m) 0) 147 (40 + m) 0) 147 (52 + m) 0) 147 (64 + m) 0) 147 78 (_ + 1)) 146 4 0) = _
    rw [ew, e78]
    rfl
  · obtain ⟨a1, ⟨a2, a3, a4⟩, a5⟩ := h
    exact ⟨by rw [m_ne (by decide), ms_eq], ⟨by decide, by rw [m_eq, up_eq]; rfl, fun j R hj => by cases hj⟩, by rw [m_eq, up_ne (by omega), ms_ne (by decide)]; exact a5⟩
theorem ge_manN {g : Mem} {p q l : Int32} (c : ¬ manOk p q l) : FX12_man_146 p q l g = some (-1, g) := by
  unfold FX12_man_146
  rw [m_co, b_some]
  by_cases c1 : p = 0 ∨ p = 1
  · rw [if_pos c1, if_neg z1, m_in, b_some]
    by_cases c2 : 0 ≤ q ∧ q ≤ 120
    · rw [if_pos c2, if_neg z1, m_in, b_some]
      by_cases c3 : 1 ≤ l ∧ l ≤ 9
      · exact absurd ⟨c1, c2, c3⟩ c
      · rw [if_neg c3, if_pos rfl]
    · rw [if_neg c2, if_pos rfl]
  · rw [if_neg c1, if_pos rfl]
