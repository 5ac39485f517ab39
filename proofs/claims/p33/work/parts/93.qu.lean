/-! the book's rows stay as they were noted -/
def bp (W W' : Wt) : Prop := (∃ j, j ≤ 150 ∧ W 3 = nI j) → (∃ j, j ≤ 150 ∧ W' 3 = nI j) ∧ nt (W 3) ≤ nt (W' 3) ∧ ∀ i k, i < nt (W 3) → k < 4 → W' (300 + 4 * i + k) = W (300 + 4 * i + k)
theorem bp_r (W : Wt) : bp W W := fun h => ⟨h, Nat.le_refl _, fun _ _ _ _ => rfl⟩
theorem bp_t {A B C : Wt} (h : bp A B) (k : bp B C) : bp A C := fun z => by
  obtain ⟨h1, h2, h3⟩ := h z
  obtain ⟨k1, k2, k3⟩ := k h1
  exact ⟨k1, by omega, fun i j hi hj => (k3 i j (by omega) hj).trans (h3 i j hi hj)⟩
theorem bp_u {W : Wt} {k : Nat} {x : Int32} (h3 : k ≠ 3) (h : k < 300) : bp W (upd W k x) := fun z => by
  rw [up_ne (Ne.symm h3)]
  exact ⟨z, Nat.le_refl _, fun i j _ _ => up_ne (by omega)⟩
theorem bp_n {tr what m num : Int32} {W : Wt} : bp W (dNote tr what m num W) := fun z => by
  obtain ⟨j, hj, e⟩ := z
  have en : nt (W 3) = j := by rw [e, nt_nI (by omega)]
  unfold dNote
  by_cases c0 : tr = 0
  · rw [if_pos c0]
    exact bp_r W ⟨j, hj, e⟩
  · rw [if_neg c0]
    by_cases c1 : W 3 = 150
    · rw [if_pos c1]
      exact bp_r W ⟨j, hj, e⟩
    · rw [if_neg c1]
      have hj' : j ≠ 150 := fun q => c1 (by rw [e, q]; rfl)
      have e3 : W 3 + 1 = nI (j + 1) := by rw [e, nI_1]
      rw [e3, up_eq, en, nt_nI (by omega)]
      refine ⟨⟨j + 1, by omega, rfl⟩, by omega, fun i k hi hk => ?_⟩
      rw [up_ne (by omega), up_ne (by omega), up_ne (by omega), up_ne (by omega), up_ne (by omega)]
theorem bp_fo {f : Nat → Wt → Wt} (hf : ∀ m W, WO W → m < 12 → (WO (f m W) ∧ lf W (f m W)) ∧ bp W (f m W)) {W : Wt} (hW : WO W) : ∀ n, n ≤ 12 → WO (fo n f W) ∧ bp W (fo n f W)
  | 0, _ => ⟨hW, bp_r W⟩
  | n + 1, h => by
    obtain ⟨a, b⟩ := bp_fo hf hW n (by omega)
    obtain ⟨a', b'⟩ := hf n _ a (by omega)
    exact ⟨a'.1, bp_t b b'⟩
theorem bp_fx {x : Int32} {f : Nat → Wt → Wt} (hf : ∀ m W, WO W → m < 12 → (WO (f m W) ∧ fx x W (f m W)) ∧ bp W (f m W)) {W : Wt} (hW : WO W) : ∀ n, n ≤ 12 → WO (fo n f W) ∧ bp W (fo n f W)
  | 0, _ => ⟨hW, bp_r W⟩
  | n + 1, h => by
    obtain ⟨a, b⟩ := bp_fx hf hW n (by omega)
    obtain ⟨a', b'⟩ := hf n _ a (by omega)
    exact ⟨a'.1, bp_t b b'⟩
theorem bp_callUp {fa tr : Int32} {c : Nat} {W : Wt} (hW : WO W) : bp W (dCallUp fa tr c W) := by
  obtain ⟨hn, hn12⟩ := OkT_n hW.1
  unfold dCallUp
  split
  · unfold dCalls
    rcases bst_ok fa W (nI c) (nmen W) with e | ⟨k, hk, e, -⟩
    · rw [if_pos e]; exact bp_r W
    · rw [if_neg (by rw [e]; exact nI_m1 (by omega)), e, nt_nI (by omega)]
      exact bp_t (bp_t (bp_u (by omega) (by omega)) (bp_u (by omega) (by omega))) bp_n
  · exact bp_r W
theorem bp_wk {m : Nat} {c : Int32} (hm : m < 12) : ∀ (f l : Nat) (W : Wt), bp W (dWk m c f l W)
  | 0, _, W => bp_r W
  | f + 1, l, W => by
    unfold dWk
    split
    · exact bp_t (bp_u (by omega) (by omega)) (bp_wk hm f _ _)
    · exact bp_r W
theorem bp_march {m : Nat} {W : Wt} (hm : m < 12) : bp W (dMarch m W) := by
  unfold dMarch
  split
  · split
    · split
      · exact bp_wk hm _ _ _
      · exact bp_u (by omega) (by omega)
    · exact bp_u (by omega) (by omega)
  · exact bp_r W
theorem bp_marches {W : Wt} (hW : WO W) : bp W (dMarches W) := (bp_fo (fun m W h hm => ⟨dMarch_w h hm, bp_march hm⟩) hW _ (OkT_n hW.1).2).2
theorem bp_halve {x : Int32} {m : Nat} {W : Wt} (hm : m < 12) : bp W (dHalve1 x m W) := by
  unfold dHalve1
  split
  · exact bp_u (by omega) (by omega)
  · exact bp_r W
theorem bp_beat {tr c x : Int32} {m : Nat} {W : Wt} (hm : m < 12) : bp W (dBeat1 tr c x m W) := by
  unfold dBeat1
  split
  · split
    · exact bp_t (bp_t (bp_u (by omega) (by omega)) (bp_u (by omega) (by omega))) bp_n
    · exact bp_u (by omega) (by omega)
  · exact bp_r W
theorem bp_fight {tr : Int32} {x : Nat} {s : Wt × Int32} (hW : WO s.1) : bp s.1 (dFight tr x s).1 := by
  obtain ⟨hn, hn12⟩ := OkT_n hW.1
  unfold dFight
  by_cases h : sHeld s.1 0 (nI x) = true ∧ sHeld s.1 1 (nI x) = true
  · rw [if_pos h]
    split
    · exact (bp_fx (fun m W hV hm => ⟨dHalve1_w hV hm, bp_halve hm⟩) hW _ hn12).2
    · have hc : sHeld s.1 (if 0 ≤ sAt s.1 0 (nI x) - sAt s.1 1 (nI x) then 1 else 0) (nI x) = true := by
        split
        · exact h.2
        · exact h.1
      obtain ⟨a, b⟩ := dCatch_w (tr := tr) hW hc
      have b0 : bp s.1 (dCatch tr (if 0 ≤ sAt s.1 0 (nI x) - sAt s.1 1 (nI x) then 1 else 0) (nI x) s.1) := by
        obtain ⟨k, hk, e, -⟩ := yng_held hW.1 hc
        unfold dCatch
        rw [e, nt_nI (by omega)]
        exact bp_t (bp_t (bp_u (by omega) (by omega)) (bp_u (by omega) (by omega))) bp_n
      exact bp_t b0 (bp_fx (x := nI x) (fun m W hV hm => ⟨dBeat1_w (tr := tr) (c := if 0 ≤ sAt s.1 0 (nI x) - sAt s.1 1 (nI x) then 1 else 0) hV hm, bp_beat hm⟩) a (nmen (dCatch tr (if 0 ≤ sAt s.1 0 (nI x) - sAt s.1 1 (nI x) then 1 else 0) (nI x) s.1)) (OkT_n a.1).2).2
  · rw [if_neg h]; exact bp_r _
theorem bp_fights {tr : Int32} {s : Wt × Int32} (hW : WO s.1) : ∀ n, WO (fo n (dFight tr) s).1 ∧ bp s.1 (fo n (dFight tr) s).1
  | 0 => ⟨hW, bp_r _⟩
  | n + 1 => by
    obtain ⟨a, b⟩ := bp_fights hW n
    rw [fo_s]
    exact ⟨(dFight_w a).1, bp_t b (bp_fight a)⟩
theorem bp_tells {W : Wt} (hW : WO W) : bp W (dTells W) := by
  have h1 : ∀ (m o : Nat) (W : Wt), o < 12 → bp W (dTell1 m o W) := fun m o W ho => by
    unfold dTell1
    split
    · exact bp_u (by omega) (by omega)
    · exact bp_r W
  have h2 : ∀ (m n : Nat) (W : Wt), n ≤ 12 → bp W (fo n (dTell1 m) W) := fun m n => by
    induction n with
    | zero => intro W _; exact bp_r W
    | succ n ih =>
      intro W hn
      rw [fo_s]
      exact bp_t (ih W (by omega)) (h1 m n _ (by omega))
  unfold dTells
  split
  · refine (bp_fo (fun m W hV hm => ⟨dTellM_w hV hm, ?_⟩) hW _ (OkT_n hW.1).2).2
    unfold dTellM
    split
    · exact h2 m _ W (OkT_n hV.1).2
    · exact bp_r W
  · exact bp_r W
theorem bp_fades {tr : Int32} {W : Wt} (hW : WO W) : bp W (dFades tr W) := (bp_fo (fun m W h hm => ⟨dFade1_w h hm, by
  unfold dFade1
  split
  · exact bp_r W
  · split
    · exact bp_t (bp_t (bp_u (by omega) (by omega)) (bp_u (by omega) (by omega))) bp_n
    · exact bp_u (by omega) (by omega)⟩) hW _ (OkT_n hW.1).2).2
theorem bp_ends {tr : Int32} {W : Wt} (hW : WO W) : bp W (dEnds tr W) := by
  have h1 : bp W (dE1 W) := by
    unfold dE1
    split
    · exact bp_u (by omega) (by omega)
    · exact bp_r W
  have w1 := (dE1_w hW).1
  have h2 : bp (dE1 W) (dBack tr (dE1 W)) := (bp_fo (fun m W h hm => ⟨dBack1_w h hm, by
    unfold dBack1
    split
    · exact bp_t (bp_u (by omega) (by omega)) bp_n
    · exact bp_r W⟩) w1 _ (OkT_n w1.1).2).2
  have w2 := (dBack_w (tr := tr) w1).1
  have h3 : bp (dBack tr (dE1 W)) (dHome (dBack tr (dE1 W))) := (bp_fo (fun m W h hm => ⟨⟨WO_home h hm, lf_u (by omega)⟩, bp_u (by omega) (by omega)⟩) w2 _ (OkT_n w2.1).2).2
  unfold dEnds
  split
  · exact bp_t h1 h2
  · exact bp_t (bp_t h1 h2) (bp_t h3 bp_n)
theorem bp_mid {tr : Int32} {W : Wt} (hW : WO W) : bp W (dMid tr W) := bp_t (bp_tells hW) (bp_fades (dTells_w hW).1)
theorem dDay_0 {fa tr : Int32} {s : Wt × Int32} (hW : WO s.1) : (dDay fa tr s).1 0 = s.1 0 + 1 ∧ bp s.1 (dDay fa tr s).1 := by
  unfold dDay
  split
  · obtain ⟨a1, b1⟩ := dWages_w (fa := fa) (tr := tr) hW
    obtain ⟨a2, b2⟩ := dMid_w (tr := tr) a1
    obtain ⟨a3, b3⟩ := dEnds_w (tr := tr) a2
    have bw : bp s.1 (dWages fa tr s).1 := by
      rw [dWages_1]
      have w1 := (dCallUp_w (fa := fa) (tr := tr) (c := 0) hW).1
      have w2 := (dCallUp_w (fa := fa) (tr := tr) (c := 1) w1).1
      have w3 := (dMarches_w w2).1
      refine bp_t (bp_t (bp_callUp hW) (bp_callUp w1)) (bp_t (bp_marches w2) (bp_t (bp_fights (tr := tr) (s := (dMarches (dCallUp fa tr 1 (dCallUp fa tr 0 s.1)), s.2)) w3 16).2 ?_))
      show bp (dFights tr _).1 (dArrive _)
      unfold dArrive
      split
      · exact bp_u (by omega) (by omega)
      · exact bp_r _
    refine ⟨?_, bp_t (bp_t bw (bp_mid a1)) (bp_t (bp_ends a2) (bp_u (by omega) (by omega)))⟩
    show dNext (dEnds tr (dMid tr (dWages fa tr s).1)) 0 = _
    unfold dNext
    rw [up_eq, b3.2, b2.2, b1.2]
  · obtain ⟨a2, b2⟩ := dMid_w (tr := tr) hW
    refine ⟨?_, bp_t (bp_mid hW) (bp_u (by omega) (by omega))⟩
    show dNext (dMid tr s.1) 0 = _
    unfold dNext
    rw [up_eq, b2.2]
theorem dd1_w {W : Wt} (hW : WO W) : WO (dd1 W) ∧ same78 W (dd1 W) ∧ bp W (dd1 W) ∧ dd1 W 0 = W 0 + 1 := by
  obtain ⟨a, b⟩ := dDay_w (fa := 0) (tr := 1) (s := (W, 0)) hW
  obtain ⟨c, d⟩ := dDay_0 (fa := 0) (tr := 1) (s := (W, 0)) hW
  exact ⟨a, b, d, c⟩
