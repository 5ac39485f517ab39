/-! fights -/
def mx0 (x : Int32) : Int32 := if 0 < x then x else 0
def dHalve1 (x : Int32) (m : Nat) (W : Wt) : Wt := if W (40 + m) = 1 ∧ W (52 + m) = x then upd W (4 + m) (W (4 + m) / 2) else W
def yng (W : Wt) (c x : Int32) : Nat → Int32
  | 0 => -1
  | i + 1 => if (W (90 + i) = c ∧ W (40 + i) = 1 ∧ W (52 + i) = x) ∧ (yng W c x i = -1 ∨ W (102 + i) < W (102 + nt (yng W c x i))) then nI i else yng W c x i
def dBeat1 (tr c x : Int32) (m : Nat) (W : Wt) : Wt := if W (40 + m) = 1 ∧ W (52 + m) = x then (if W (90 + m) = c then dNote tr 2 (nI m) x (upd (upd W (40 + m) 0) (4 + m) (W (4 + m) / 2)) else upd W (4 + m) (mx0 (W (4 + m) - 10))) else W
def dCatch (tr c x : Int32) (W : Wt) : Wt := dNote tr 1 (yng W c x (nmen W)) x (upd (upd W (40 + nt (yng W c x (nmen W))) 2) (64 + nt (yng W c x (nmen W))) (W 0))
def dBeat (tr c x : Int32) (W : Wt) : Wt := fo (nmen W) (dBeat1 tr c x) W
def dFight (tr : Int32) (x : Nat) (s : Wt × Int32) : Wt × Int32 := if sHeld s.1 0 (nI x) = true ∧ sHeld s.1 1 (nI x) = true then (if sAt s.1 0 (nI x) - sAt s.1 1 (nI x) = 0 then (fo (nmen s.1) (dHalve1 (nI x)) s.1, s.2) else (dBeat tr (if 0 ≤ sAt s.1 0 (nI x) - sAt s.1 1 (nI x) then 1 else 0) (nI x) (dCatch tr (if 0 ≤ sAt s.1 0 (nI x) - sAt s.1 1 (nI x) then 1 else 0) (nI x) s.1), s.2 + 1)) else s
theorem yng_ok (W : Wt) (c x : Int32) : ∀ i, yng W c x i = -1 ∨ ∃ k, k < i ∧ yng W c x i = nI k ∧ W (90 + k) = c ∧ W (40 + k) = 1 ∧ W (52 + k) = x := by
  intro i
  induction i with
  | zero => exact Or.inl rfl
  | succ i ih =>
    unfold yng
    by_cases h : (W (90 + i) = c ∧ W (40 + i) = 1 ∧ W (52 + i) = x) ∧ (yng W c x i = -1 ∨ W (102 + i) < W (102 + nt (yng W c x i)))
    · rw [if_pos h]; exact Or.inr ⟨i, by omega, rfl, h.1⟩
    · rw [if_neg h]
      rcases ih with e | ⟨k, hk, r⟩
      · exact Or.inl e
      · exact Or.inr ⟨k, by omega, r⟩
theorem yng_ne {W : Wt} {c x : Int32} {m : Nat} (hm : W (90 + m) = c ∧ W (40 + m) = 1 ∧ W (52 + m) = x) : ∀ i, m < i → i < 1000 → yng W c x i ≠ -1 := by
  intro i
  induction i with
  | zero => intro h; omega
  | succ i ih =>
    intro h hi
    unfold yng
    by_cases c1 : (W (90 + i) = c ∧ W (40 + i) = 1 ∧ W (52 + i) = x) ∧ (yng W c x i = -1 ∨ W (102 + i) < W (102 + nt (yng W c x i)))
    · rw [if_pos c1]; exact nI_m1 (by omega)
    · rw [if_neg c1]
      by_cases q : m = i
      · subst q
        intro e
        exact c1 ⟨hm, Or.inl e⟩
      · exact ih (by omega) (by omega)
theorem yng_held {W : Wt} (hT : OkT W) {c x : Int32} (h : sHeld W c x = true) : ∃ k, k < nmen W ∧ yng W c x (nmen W) = nI k ∧ W (90 + k) = c ∧ W (40 + k) = 1 ∧ W (52 + k) = x := by
  obtain ⟨hn, hn12⟩ := OkT_n hT
  rw [sHeld_iff] at h
  obtain ⟨m, hm, r⟩ := h
  rcases yng_ok W c x (nmen W) with e | e
  · exact absurd e (yng_ne r _ hm (by omega))
  · exact e
/-- what a fight in a cell leaves as it was -/
def fx (x : Int32) (W W' : Wt) : Prop := lf W W' ∧ ∀ k, k < 12 → W' (52 + k) = W (52 + k) ∧ (W' (40 + k) = W (40 + k) ∨ (W (40 + k) = 1 ∧ W (52 + k) = x ∧ W' (40 + k) ≠ 1))
theorem fx_r (x : Int32) (W : Wt) : fx x W W := ⟨lf_r W, fun _ _ => ⟨rfl, Or.inl rfl⟩⟩
theorem fx_t {x : Int32} {W W' W'' : Wt} (h : fx x W W') (h' : fx x W' W'') : fx x W W'' := by
  refine ⟨lf_t h.1 h'.1, fun k hk => ?_⟩
  obtain ⟨a, b⟩ := h.2 k hk
  obtain ⟨a', b'⟩ := h'.2 k hk
  refine ⟨a'.trans a, ?_⟩
  rcases b' with b' | ⟨p, q, r⟩
  · rcases b with b | ⟨p, q, r⟩
    · exact Or.inl (b'.trans b)
    · exact Or.inr ⟨p, q, by rw [b']; exact r⟩
  · rcases b with b | ⟨p2, q2, r2⟩
    · exact Or.inr ⟨by rw [← b]; exact p, by rw [← a]; exact q, r⟩
    · exact absurd p r2
theorem fx_note {x tr what m num : Int32} {W : Wt} (hD : OkD W) : fx x W (dNote tr what m num W) := ⟨lf_note hD, fun k hk => ⟨dNote_lo hD (by omega), Or.inl (dNote_lo hD (by omega))⟩⟩
theorem fx_br {x y : Int32} {W : Wt} {m : Nat} (hm : m < 12) : fx x W (upd W (4 + m) y) := ⟨lf_u (by omega), fun k hk => ⟨up_ne (by omega), Or.inl (up_ne (by omega))⟩⟩
theorem fx_si {x y : Int32} {W : Wt} {m : Nat} (hm : m < 12) : fx x W (upd W (64 + m) y) := ⟨lf_u (by omega), fun k hk => ⟨up_ne (by omega), Or.inl (up_ne (by omega))⟩⟩
theorem fx_wh {x y : Int32} {W : Wt} {m : Nat} (hm : m < 12) (h1 : W (40 + m) = 1) (h2 : W (52 + m) = x) (hy : y ≠ 1) : fx x W (upd W (40 + m) y) := by
  refine ⟨lf_u (by omega), fun k hk => ⟨up_ne (by omega), ?_⟩⟩
  by_cases q : k = m
  · subst q; exact Or.inr ⟨h1, h2, by rw [up_eq]; exact hy⟩
  · exact Or.inl (up_ne (by omega))
theorem fx_held {x y c : Int32} {W W' : Wt} (h12 : nmen W ≤ 12) (h : fx x W W') (hy : y ≠ x) : sHeld W' c y = sHeld W c y := by
  have e : (sHeld W' c y = true) = (sHeld W c y = true) := by
    rw [sHeld_iff, sHeld_iff, s78_n h.1.1]
    apply propext
    constructor
    · rintro ⟨k, hk, a, b, d⟩
      obtain ⟨p, q⟩ := h.2 k (by omega)
      rw [h.1.1 _ (by omega) (by omega)] at a
      rw [p] at d
      rcases q with q | ⟨-, -, q⟩
      · exact ⟨k, hk, a, by rw [← q]; exact b, d⟩
      · exact absurd b q
    · rintro ⟨k, hk, a, b, d⟩
      obtain ⟨p, q⟩ := h.2 k (by omega)
      rcases q with q | ⟨-, q, -⟩
      · exact ⟨k, hk, by rw [h.1.1 _ (by omega) (by omega)]; exact a, by rw [q]; exact b, by rw [p]; exact d⟩
      · exact absurd (d.symm.trans q) hy
  cases h1 : sHeld W' c y <;> cases h2 : sHeld W c y <;> simp [h1, h2] at e ⊢
theorem half_n {j : Nat} (h : j ≤ 99) : ∃ k, k ≤ 99 ∧ nI j / 2 = nI k := by
  have : ∀ j, j ≤ 99 → nI j / 2 = nI (j / 2) := by decide +kernel
  exact ⟨j / 2, by omega, this j h⟩
theorem less_n {j : Nat} (h : j ≤ 99) : ∃ k, k ≤ 99 ∧ mx0 (nI j - 10) = nI k := by
  have : ∀ j, j ≤ 99 → mx0 (nI j - 10) = nI (j - 10) := by decide +kernel
  exact ⟨j - 10, by omega, this j h⟩
theorem dHalve1_w {x : Int32} {m : Nat} {W : Wt} (hW : WO W) (hm : m < 12) : WO (dHalve1 x m W) ∧ fx x W (dHalve1 x m W) := by
  unfold dHalve1
  split
  · obtain ⟨j, hj, e⟩ := OkD_br hW.2.1 m hm
    exact ⟨WO_u hW (s78_u (by omega)) (OkD_ubr hW.2.1 hm (by rw [e]; exact half_n hj)), fx_br hm⟩
  · exact ⟨hW, fx_r x W⟩
theorem dBeat1_w {tr c x : Int32} {m : Nat} {W : Wt} (hW : WO W) (hm : m < 12) : WO (dBeat1 tr c x m W) ∧ fx x W (dBeat1 tr c x m W) := by
  obtain ⟨j, hj, e⟩ := OkD_br hW.2.1 m hm
  unfold dBeat1
  by_cases h : W (40 + m) = 1 ∧ W (52 + m) = x
  · rw [if_pos h]
    split
    · have hW1 : WO (upd W (40 + m) 0) := WO_u hW (s78_u (by omega)) (OkD_uwh hW.2.1 hm ⟨0, by omega, rfl⟩ (Or.inr rfl))
      have hW2 : WO (upd (upd W (40 + m) 0) (4 + m) (W (4 + m) / 2)) := WO_u hW1 (s78_u (by omega)) (OkD_ubr hW1.2.1 hm (by rw [e]; exact half_n hj))
      exact ⟨WO_note hW2, fx_t (fx_t (fx_wh hm h.1 h.2 (by decide)) (fx_br hm)) (fx_note hW2.2.1)⟩
    · exact ⟨WO_u hW (s78_u (by omega)) (OkD_ubr hW.2.1 hm (by rw [e]; exact less_n hj)), fx_br hm⟩
  · rw [if_neg h]; exact ⟨hW, fx_r x W⟩
theorem fo_w {x : Int32} {f : Nat → Wt → Wt} (hf : ∀ m W, WO W → m < 12 → WO (f m W) ∧ fx x W (f m W)) {W : Wt} (hW : WO W) : ∀ n, n ≤ 12 → WO (fo n f W) ∧ fx x W (fo n f W)
  | 0, _ => ⟨hW, fx_r x W⟩
  | n + 1, h => by
    obtain ⟨a, b⟩ := fo_w hf hW n (by omega)
    obtain ⟨a', b'⟩ := hf n _ a (by omega)
    exact ⟨a', fx_t b b'⟩
theorem dCatch_w {tr c x : Int32} {W : Wt} (hW : WO W) (h : sHeld W c x = true) : WO (dCatch tr c x W) ∧ fx x W (dCatch tr c x W) := by
  obtain ⟨hn, hn12⟩ := OkT_n hW.1
  obtain ⟨k, hk, e, r1, r2, r3⟩ := yng_held hW.1 h
  unfold dCatch
  rw [e, nt_nI (by omega)]
  have hk12 : k < 12 := by omega
  have hW1 : WO (upd W (40 + k) 2) := WO_u hW (s78_u (by omega)) (OkD_uwh hW.2.1 hk12 ⟨2, by omega, rfl⟩ (Or.inl hk))
  have hW2 : WO (upd (upd W (40 + k) 2) (64 + k) (W 0)) := WO_u hW1 (s78_u (by omega)) (OkD_usi hW1.2.1 hk12)
  exact ⟨WO_note hW2, fx_t (fx_t (fx_wh hk12 r2 r3 (by decide)) (fx_si hk12)) (fx_note hW2.2.1)⟩
theorem dFight_w {tr : Int32} {x : Nat} {s : Wt × Int32} (hW : WO s.1) : WO (dFight tr x s).1 ∧ fx (nI x) s.1 (dFight tr x s).1 := by
  obtain ⟨hn, hn12⟩ := OkT_n hW.1
  unfold dFight
  by_cases h : sHeld s.1 0 (nI x) = true ∧ sHeld s.1 1 (nI x) = true
  · rw [if_pos h]
    split
    · exact fo_w (fun m W => dHalve1_w) hW _ hn12
    · have hc : sHeld s.1 (if 0 ≤ sAt s.1 0 (nI x) - sAt s.1 1 (nI x) then 1 else 0) (nI x) = true := by
        split
        · exact h.2
        · exact h.1
      obtain ⟨a, b⟩ := dCatch_w (tr := tr) hW hc
      obtain ⟨a', b'⟩ := fo_w (x := nI x) (fun m W => dBeat1_w (tr := tr) (c := if 0 ≤ sAt s.1 0 (nI x) - sAt s.1 1 (nI x) then 1 else 0)) a (nmen (dCatch tr (if 0 ≤ sAt s.1 0 (nI x) - sAt s.1 1 (nI x) then 1 else 0) (nI x) s.1)) (OkT_n a.1).2
      exact ⟨a', fx_t b b'⟩
  · rw [if_neg h]; exact ⟨hW, fx_r _ _⟩
/-! the model's -/
theorem m_yng {u : Mem} {W : Wt} (hu : u 147 = W) (hT : OkT W) (c x : Int32) : FX12_youngestAt_146 c x u = some (yng W c x (nmen W)) := by
  obtain ⟨hn, hn12⟩ := OkT_n hT
  refine lp_v (fun F i s => FX12_youngestAt_146_L5 F c x s i u) (nmen W) (fun i => yng W c x i) _ (fun i F hi => ?_) (fun F => ?_) FU (by show _ < 10000; omega)
  · show FX12_youngestAt_146_b5 _ _ _ _ _ _ = FX12_youngestAt_146_L5 F c x (yng W c x (i + 1)) (nI (i + 1)) u
    unfold FX12_youngestAt_146_b5 FX12_youngestAt_146_b69 FX12_youngestAt_146_b72
    rw [hu, hn, if_neg (nle hi (by omega)), m_isOf hu (by omega), b_some, nI_1]
    rw [show yng W c x (i + 1) = if (W (90 + i) = c ∧ W (40 + i) = 1 ∧ W (52 + i) = x) ∧ (yng W c x i = -1 ∨ W (102 + i) < W (102 + nt (yng W c x i))) then nI i else yng W c x i from rfl]
    by_cases c1 : W (90 + i) = c ∧ W (40 + i) = 1
    · rw [if_pos c1, if_neg z1, rl (by show 52 + i < _; omega) (by omega), hu]
      show (if W (52 + i) = x then _ else _) = _
      by_cases c2 : W (52 + i) = x
      · rw [if_pos c2]
        rcases yng_ok W c x i with e | ⟨k, hk, e, -⟩
        · rw [if_pos e, if_pos ⟨⟨c1.1, c1.2, c2⟩, Or.inl e⟩]
        · rw [e, if_neg (nI_m1 (by omega)), rl (by show 102 + i < _; omega) (by omega), rl (by show 102 + k < _; omega) (by omega), hu, nt_nI (by omega)]
          show (if W (102 + k) ≤ W (102 + i) then _ else _) = _
          by_cases c3 : W (102 + i) < W (102 + k)
          · rw [if_neg (by rw [Int32.not_le]; exact c3), if_pos ⟨⟨c1.1, c1.2, c2⟩, Or.inr c3⟩]
          · rw [if_pos (by rw [← Int32.not_lt]; exact c3), if_neg]
            rintro ⟨-, h | h⟩
            · exact nI_m1 (by omega) h
            · exact c3 h
      · rw [if_neg c2, if_neg (fun h => c2 h.1.2.2)]
    · rw [if_neg c1, if_pos rfl, if_neg (fun h => c1 ⟨h.1.1, h.1.2.1⟩)]
  · show FX12_youngestAt_146_b5 _ _ _ _ _ _ = _
    unfold FX12_youngestAt_146_b5
    rw [hu, hn, if_pos (yle (by omega))]
theorem dv2 {x : Int32} {β : Type} (f : Int32 → Option β) : (dvI x 2).bind f = f (x / 2) := by
  unfold dvI; rw [if_neg (by decide), b_some]
theorem m_beat1 {M : Wt} {u : Mem} {W : Wt} (hM : MR M u W) (hW : WO W) {c x : Int32} {m : Nat} (hm : m < nmen W) : ∃ u', MR M u' (dBeat1 (M 28) c x m W) ∧ ∀ F, FX12_isBeaten_146_L52 (F + 1) c x (nI m) u = FX12_isBeaten_146_L52 F c x (nI (m + 1)) u' := by
  obtain ⟨hn, hn12⟩ := OkT_n hW.1
  have hm12 : m < 12 := by omega
  have hn' : u 147 78 = nI (nmen W) := by rw [hM.1]; exact hn
  have start : ∀ F, FX12_isBeaten_146_L52 (F + 1) c x (nI m) u = FX12_isBeaten_146_b52 (FX12_isBeaten_146_L52 F) c x (nI m) u := fun F => rfl
  unfold dBeat1
  by_cases h1 : W (40 + m) = 1
  · by_cases h2 : W (52 + m) = x
    · rw [if_pos ⟨h1, h2⟩]
      by_cases h3 : W (90 + m) = c
      · rw [if_pos h3]
        have hW1 : WO (upd W (40 + m) 0) := WO_u hW (s78_u (by omega)) (OkD_uwh hW.2.1 hm12 ⟨0, by omega, rfl⟩ (Or.inr rfl))
        obtain ⟨j, hj, e⟩ := OkD_br hW.2.1 m hm12
        have hW2 : WO (upd (upd W (40 + m) 0) (4 + m) (W (4 + m) / 2)) := WO_u hW1 (s78_u (by omega)) (OkD_ubr hW1.2.1 hm12 (by rw [e]; exact half_n hj))
        have hM1 := MR_u hM (40 + m) 0
        have hM2 := MR_u hM1 (4 + m) (W (4 + m) / 2)
        obtain ⟨u3, g3, hM3⟩ := m_note hM2 hW2 2 (nI m) x
        refine ⟨u3, hM3, fun F => ?_⟩
        rw [start]
        unfold FX12_isBeaten_146_b52 FX12_isBeaten_146_b169
        rw [hn', if_neg (nle hm (by omega)), rl (by show 40 + m < _; omega) (by omega), hM.1]
        show (if W (40 + m) = 1 then _ else _) = _
        rw [if_pos h1, rl (by show 52 + m < _; omega) (by omega), hM.1]
        show (if W (52 + m) = x then _ else _) = _
        rw [if_pos h2, rl (by show 90 + m < _; omega) (by omega), hM.1]
        show (if W (90 + m) = c then _ else _) = _
        rw [if_pos h3, wl (by show 40 + m < _; omega) (by omega), rl (by show 4 + m < _; omega) (by omega), dv2, wl (by show 4 + m < _; omega) (by omega)]
        have e4 : (mupd u 147 ((OfNat.ofNat 40 : Nat) + m) 0) 147 ((OfNat.ofNat 4 : Nat) + m) = W (4 + m) := by
          show (mupd u 147 (40 + m) 0) 147 (4 + m) = _
          rw [hM1.1, up_ne (by omega)]
        rw [e4, nI_1]
        show (FX12_notes_146 2 (nI m) x (mupd (mupd u 147 (40 + m) 0) 147 (4 + m) (W (4 + m) / 2))).bind _ = _
        rw [g3, b_some]
      · rw [if_neg h3]
        refine ⟨_, MR_u hM (4 + m) (mx0 (W (4 + m) - 10)), fun F => ?_⟩
        rw [start]
        unfold FX12_isBeaten_146_b52 FX12_isBeaten_146_b169
        rw [hn', if_neg (nle hm (by omega)), rl (by show 40 + m < _; omega) (by omega), hM.1]
        show (if W (40 + m) = 1 then _ else _) = _
        rw [if_pos h1, rl (by show 52 + m < _; omega) (by omega), hM.1]
        show (if W (52 + m) = x then _ else _) = _
        rw [if_pos h2, rl (by show 90 + m < _; omega) (by omega), hM.1]
        show (if W (90 + m) = c then _ else _) = _
        rw [if_neg h3, rl (by show 4 + m < _; omega) (by omega), hM.1]
        show (FX12_greater 0 (W (4 + m) - 10)).bind _ = _
        have e5 : FX12_greater 0 (W (4 + m) - 10) = some (mx0 (W (4 + m) - 10)) := by
          unfold FX12_greater mx0
          by_cases q : 0 < W (4 + m) - 10
          · rw [if_pos q, if_pos (Int32.le_of_lt q)]
          · rw [if_neg q]
            by_cases q2 : 0 ≤ W (4 + m) - 10
            · rw [if_pos q2]
              exact congrArg some (Int32.le_antisymm (by rw [← Int32.not_lt]; exact q) q2)
            · rw [if_neg q2]
        rw [e5, b_some, wl (by show 4 + m < _; omega) (by omega), nI_1]
    · rw [if_neg (fun h => h2 h.2)]
      refine ⟨u, hM, fun F => ?_⟩
      rw [start]
      unfold FX12_isBeaten_146_b52 FX12_isBeaten_146_b169
      rw [hn', if_neg (nle hm (by omega)), rl (by show 40 + m < _; omega) (by omega), hM.1]
      show (if W (40 + m) = 1 then _ else _) = _
      rw [if_pos h1, rl (by show 52 + m < _; omega) (by omega), hM.1]
      show (if W (52 + m) = x then _ else _) = _
      rw [if_neg h2, nI_1]
  · rw [if_neg (fun h => h1 h.1)]
    refine ⟨u, hM, fun F => ?_⟩
    rw [start]
    unfold FX12_isBeaten_146_b52 FX12_isBeaten_146_b169
    rw [hn', if_neg (nle hm (by omega)), rl (by show 40 + m < _; omega) (by omega), hM.1]
    show (if W (40 + m) = 1 then _ else _) = _
    rw [if_neg h1, nI_1]
theorem m_beat {M : Wt} {u : Mem} {W : Wt} (hM : MR M u W) (hW : WO W) (c x : Int32) : ∃ u', FX12_isBeaten_146_L52 FU c x 0 u = some u' ∧ MR M u' (dBeat (M 28) c x W) := by
  obtain ⟨hn, hn12⟩ := OkT_n hW.1
  have hh := lp_w (fun F i u => FX12_isBeaten_146_L52 F c x i u) (nmen W) (fun u V => MR M u V ∧ WO V ∧ fx x W V) (dBeat1 (M 28) c x) (fun u => some u) (fun i v V hi hV => ?_) (fun v V F hV => ?_) (F := FU) (u := u) (s := W) (by show _ < 10000; omega) ⟨hM, hW, fx_r x W⟩
  · obtain ⟨u', ⟨hR, -⟩, e⟩ := hh
    exact ⟨u', e, hR⟩
  · obtain ⟨h1, h2, h3⟩ := hV
    have en := s78_n h3.1.1
    obtain ⟨v', a, b⟩ := m_beat1 h1 h2 (c := c) (x := x) (m := i) (by omega)
    obtain ⟨w1, w2⟩ := dBeat1_w (tr := M 28) (c := c) (x := x) (m := i) h2 (by omega)
    exact ⟨v', ⟨a, w1, fx_t h3 w2⟩, b⟩
  · obtain ⟨h1, h2, h3⟩ := hV
    have en := s78_n h3.1.1
    show FX12_isBeaten_146_b52 _ _ _ _ _ = _
    unfold FX12_isBeaten_146_b52
    rw [h1.1, (OkT_n h2.1).1, en, if_pos (yle (by omega))]
theorem m_halve {M : Wt} {u : Mem} {W : Wt} (hM : MR M u W) (hW : WO W) (x : Int32) : ∃ u', FX12_fights_146_L54 FU x 0 u = some u' ∧ MR M u' (fo (nmen W) (dHalve1 x) W) := by
  obtain ⟨hn, hn12⟩ := OkT_n hW.1
  have hh := lp_w (fun F i u => FX12_fights_146_L54 F x i u) (nmen W) (fun u V => MR M u V ∧ WO V ∧ fx x W V) (dHalve1 x) (fun u => some u) (fun i v V hi hV => ?_) (fun v V F hV => ?_) (F := FU) (u := u) (s := W) (by show _ < 10000; omega) ⟨hM, hW, fx_r x W⟩
  · obtain ⟨u', ⟨hR, -⟩, e⟩ := hh
    exact ⟨u', e, hR⟩
  · obtain ⟨h1, h2, h3⟩ := hV
    have en := s78_n h3.1.1
    have hn' : v 147 78 = nI (nmen W) := by rw [h1.1, (OkT_n h2.1).1, en]
    obtain ⟨w1, w2⟩ := dHalve1_w (x := x) (m := i) h2 (by omega)
    have start : ∀ F, FX12_fights_146_L54 (F + 1) x (nI i) v = (if V (40 + i) = 1 then (if V (52 + i) = x then FX12_fights_146_L54 F x (nI (i + 1)) (mupd v 147 (4 + i) (V (4 + i) / 2)) else FX12_fights_146_L54 F x (nI (i + 1)) v) else FX12_fights_146_L54 F x (nI (i + 1)) v) := by
      intro F
      show FX12_fights_146_b54 _ _ _ _ = _
      unfold FX12_fights_146_b54 FX12_fights_146_b103
      rw [hn', if_neg (nle hi (by omega)), rl (by show 40 + i < _; omega) (by omega), rl (by show 52 + i < _; omega) (by omega), rl (by show 4 + i < _; omega) (by omega), dv2, wl (by show 4 + i < _; omega) (by omega), h1.1, nI_1]
    unfold dHalve1 at w1 w2 ⊢
    by_cases q1 : V (40 + i) = 1
    · by_cases q2 : V (52 + i) = x
      · rw [if_pos ⟨q1, q2⟩] at w1 w2 ⊢
        exact ⟨_, ⟨MR_u h1 (4 + i) (V (4 + i) / 2), w1, fx_t h3 w2⟩, fun F => by rw [start, if_pos q1, if_pos q2]⟩
      · rw [if_neg (fun h => q2 h.2)]
        exact ⟨v, ⟨h1, h2, h3⟩, fun F => by rw [start, if_pos q1, if_neg q2]⟩
    · rw [if_neg (fun h => q1 h.1)]
      exact ⟨v, ⟨h1, h2, h3⟩, fun F => by rw [start, if_neg q1]⟩
  · obtain ⟨h1, h2, h3⟩ := hV
    have en := s78_n h3.1.1
    show FX12_fights_146_b54 _ _ _ _ = _
    unfold FX12_fights_146_b54
    rw [h1.1, (OkT_n h2.1).1, en, if_pos (yle (by omega))]
def MD (M : Wt) (u : Mem) (s : Wt × Int32) : Prop := MR (upd M 29 s.2) u s.1
theorem m_isBeaten {M : Wt} {u : Mem} {s : Wt × Int32} (hM : MD M u s) (hW : WO s.1) {c x : Int32} (h : sHeld s.1 c x = true) : ∃ u', FX12_isBeaten_146 c x u = some u' ∧ MD M u' (dBeat (M 28) c x (dCatch (M 28) c x s.1), s.2 + 1) := by
  obtain ⟨W, md⟩ := s
  have hM : MR (upd M 29 md) u W := hM
  have hW : WO W := hW
  have h : sHeld W c x = true := h
  obtain ⟨hn, hn12⟩ := OkT_n hW.1
  obtain ⟨k, hk, e, r1, r2, r3⟩ := yng_held hW.1 h
  have hk12 : k < 12 := by omega
  obtain ⟨wc, -⟩ := dCatch_w (tr := M 28) hW h
  unfold FX12_isBeaten_146
  rw [m_yng hM.1 hW.1, b_some, e]
  have hM1 := MR_u hM (40 + k) 2
  have hM2 := MR_u hM1 (64 + k) (W 0)
  have hW1 : WO (upd W (40 + k) 2) := WO_u hW (s78_u (by omega)) (OkD_uwh hW.2.1 hk12 ⟨2, by omega, rfl⟩ (Or.inl hk))
  have hW2 : WO (upd (upd W (40 + k) 2) (64 + k) (W 0)) := WO_u hW1 (s78_u (by omega)) (OkD_usi hW1.2.1 hk12)
  rw [wl (by show 40 + k < _; omega) (by omega)]
  have e0 : (mupd u 147 ((OfNat.ofNat 40 : Nat) + k) 2) 147 0 = W 0 := by
    show (mupd u 147 (40 + k) 2) 147 0 = _
    rw [hM1.1, up_ne (by omega)]
  rw [e0, wl (by show 64 + k < _; omega) (by omega), b_some]
  show ∃ u', (FX12_notes_146 1 (nI k) x (mupd (mupd (mupd u 147 (40 + k) 2) 147 (64 + k) (W 0)) 146 29 ((mupd (mupd u 147 (40 + k) 2) 147 (64 + k) (W 0)) 146 29 + 1))).bind _ = _ ∧ _
  rw [hM2.2, up_eq]
  have hM3 : MR (upd M 29 (md + 1)) (mupd (mupd (mupd u 147 (40 + k) 2) 147 (64 + k) (W 0)) 146 29 (md + 1)) (upd (upd W (40 + k) 2) (64 + k) (W 0)) := by
    refine ⟨by rw [m_ne (by decide)]; exact hM2.1, ?_⟩
    rw [m_eq, hM2.2]
    funext q
    by_cases hq : q = 29
    · rw [hq, up_eq, up_eq]
    · rw [up_ne hq, up_ne hq, up_ne hq]
  obtain ⟨u4, g4, hM4⟩ := m_note hM3 hW2 1 (nI k) x
  rw [up_ne (show 28 ≠ 29 by omega)] at hM4
  have ed : dCatch (M 28) c x W = dNote (M 28) 1 (nI k) x (upd (upd W (40 + k) 2) (64 + k) (W 0)) := by unfold dCatch; rw [e, nt_nI (by omega)]
  rw [← ed] at hM4
  obtain ⟨u5, g5, hM5⟩ := m_beat hM4 wc c x
  rw [up_ne (show 28 ≠ 29 by omega)] at hM5
  exact ⟨u5, by rw [g4, b_some]; exact g5, hM5⟩
theorem m_fight {M : Wt} {u : Mem} {s : Wt × Int32} (hM : MD M u s) (hW : WO s.1) (x : Nat) : ∃ u', FX12_fights_146 (nI x) u = some u' ∧ MD M u' (dFight (M 28) x s) := by
  have hM0 : MR (upd M 29 s.2) u s.1 := hM
  unfold FX12_fights_146 dFight
  rw [m_held hM0.1 hW.1, b_some, m_held hM0.1 hW.1, b_some]
  by_cases h0 : sHeld s.1 0 (nI x) = true
  · by_cases h1 : sHeld s.1 1 (nI x) = true
    · rw [if_pos h0, if_pos h1, if_neg z1, if_neg z1, if_pos ⟨h0, h1⟩, m_brAt hM0.1 hW.1, b_some, m_brAt hM0.1 hW.1, b_some]
      by_cases q : sAt s.1 0 (nI x) - sAt s.1 1 (nI x) = 0
      · rw [if_pos q, if_pos q]
        exact m_halve hM0 hW (nI x)
      · rw [if_neg q, if_neg q]
        unfold FX12_fights_146_b47
        by_cases q2 : 0 ≤ sAt s.1 0 (nI x) - sAt s.1 1 (nI x)
        · rw [if_pos q2, if_pos q2]
          obtain ⟨u', a, b⟩ := m_isBeaten hM hW h1
          exact ⟨u', by rw [a]; rfl, b⟩
        · rw [if_neg q2, if_neg q2]
          obtain ⟨u', a, b⟩ := m_isBeaten hM hW h0
          exact ⟨u', by rw [a]; rfl, b⟩
    · rw [if_pos h0, if_neg z1, if_neg h1, if_pos rfl, if_neg (fun h => h1 h.2)]
      exact ⟨u, rfl, hM⟩
  · rw [if_neg h0, if_pos rfl, if_neg (fun h => h0 h.1)]
    exact ⟨u, rfl, hM⟩

