/-! the start; cells of the script; a fresh War that stands for a row -/
def rW0 : Wt := fun k => if k = 1 ∨ k = 79 then 1 else if k = 81 then 3 else if k = 82 ∨ k = 83 then 2 else 0
def rG0 : Mem := fun c k => if c = 146 then (if k = 23 then e_u37 34 13 else if k = 25 then e_u37 34 14 else 0) else if c = 147 then rW0 k else 0
theorem w0_0 {k : Nat} (a : k ≠ 1) (b : k ≠ 79) (c : k ≠ 81) (d : k ≠ 82) (e : k ≠ 83) : rW0 k = 0 := by
  unfold rW0
  rw [if_neg (by omega), if_neg c, if_neg (by omega)]
theorem w0_OkT : OkT rW0 := by
  have n0 : nmen rW0 = 0 := by decide +kernel
  have n85 : nt (rW0 85) = 0 := by decide +kernel
  have n86 : nt (rW0 86) = 0 := by decide +kernel
  have n87 : nt (rW0 87) = 0 := by decide +kernel
  have n88 : nt (rW0 88) = 0 := by decide +kernel
  have z0 : nI 0 = 0 := nI_0
  have zz : ∀ k, k ≠ 1 → k ≠ 79 → k ≠ 81 → k ≠ 82 → k ≠ 83 → rW0 k = nI 0 := fun k b c d e f => by rw [z0]; exact w0_0 b c d e f
  refine ⟨⟨by decide +kernel, by rw [n0]; omega⟩, fun m hm => Or.inl (w0_0 (by omega) (by omega) (by omega) (by omega) (by omega)), fun m hm => ⟨0, by omega, zz _ (by omega) (by omega) (by omega) (by omega) (by omega)⟩, fun m hm => ⟨0, by omega, fun h => by rw [n0] at h; omega, zz _ (by omega) (by omega) (by omega) (by omega) (by omega)⟩, ⟨1, by omega, by decide +kernel⟩, ⟨0, by omega, by decide +kernel⟩, ⟨3, by omega, by decide +kernel⟩, fun c hc => ⟨2, by omega, ?_⟩, fun c hc => Or.inl (w0_0 (by omega) (by omega) (by omega) (by omega) (by omega)), ⟨by decide +kernel, by rw [n85]; omega⟩, ⟨by decide +kernel, by rw [n86]; omega⟩, ⟨by decide +kernel, by rw [n87]; omega⟩, ⟨by decide +kernel, by rw [n88]; omega⟩, fun i hi => by rw [n85] at hi; omega, fun i hi => by rw [n86] at hi; omega, fun i hi => by rw [n88] at hi; omega⟩
  have : ∀ c, c < 2 → rW0 (82 + c) = nI 2 := by decide +kernel
  exact this c hc
theorem w0_OkD : OkD rW0 := by
  have n0 : nmen rW0 = 0 := by decide +kernel
  have z0 : nI 0 = 0 := nI_0
  have zz : ∀ k, k ≠ 1 → k ≠ 79 → k ≠ 81 → k ≠ 82 → k ≠ 83 → rW0 k = nI 0 := fun k b c d e f => by rw [z0]; exact w0_0 b c d e f
  exact ⟨fun m hm => ⟨0, by omega, zz _ (by omega) (by omega) (by omega) (by omega) (by omega)⟩, fun m hm => ⟨0, by omega, zz _ (by omega) (by omega) (by omega) (by omega) (by omega)⟩, fun m hm => ⟨0, by omega, zz _ (by omega) (by omega) (by omega) (by omega) (by omega)⟩, fun m hm => ⟨0, by omega, zz _ (by omega) (by omega) (by omega) (by omega) (by omega)⟩, fun m hm => ⟨0, by omega, zz _ (by omega) (by omega) (by omega) (by omega) (by omega)⟩, Or.inr (by decide +kernel), ⟨0, by omega, by decide +kernel⟩, fun m hm _ => w0_0 (by omega) (by omega) (by omega) (by omega) (by omega)⟩
theorem w0_WO : WO rW0 := by
  have n84 : nt (rW0 84) = 0 := by decide +kernel
  exact ⟨w0_OkT, w0_OkD, ⟨⟨by decide +kernel, by rw [n84]; omega⟩, fun i hi => by rw [n84] at hi; omega⟩⟩
theorem g0_147 : rG0 147 = rW0 := by
  funext k
  rfl
theorem s0_TR : TR 1 e_u37 rW0 := by
  unfold TR
  decide +kernel
theorem s0_BR : ∀ j, j < 6 → ∀ m, m < 12 → e_u37 (23 + 1 + j) m = rW0 (4 + 12 * j + m) := by decide +kernel
theorem s0_SP : SP e_u37 rG0 := by
  have n84 : nt (rW0 84) = 0 := by decide +kernel
  unfold SP
  rw [g0_147]
  refine ⟨w0_WO, ⟨⟨s0_TR, ⟨by decide +kernel, fun i hi => by rw [n84] at hi; omega⟩, ⟨by decide +kernel, by decide +kernel, by decide +kernel, by decide +kernel, fun j m hj hm => s0_BR j hj m hm⟩⟩, ?_, by decide +kernel, by decide +kernel⟩, by decide +kernel, ⟨0, 0, by omega, by omega, by decide +kernel, by decide +kernel, by decide +kernel, fun j hj => by omega⟩, ⟨by decide +kernel, Or.inl (by decide +kernel)⟩, 0, by omega, by decide +kernel, by decide +kernel, fun i hi => by omega, by decide +kernel, by decide +kernel⟩
  have : ∀ i, i < 600 → e_u37 31 i = rW0 (300 + i) := by decide +kernel
  exact this
theorem s0_GS : GS rG0 rW0 [] := ⟨g0_147, ⟨by decide, by decide +kernel, fun j R hj => by cases hj⟩, by decide +kernel⟩
theorem SH_take : SH.take 146 = SH := by
  exact List.take_of_length_le (Nat.le_of_eq SH_len)
theorem s0_Lw : Lw (SH, RHO, e_u37) rG0 := ⟨⟨SH_take, fun a ha => rfl⟩, s0_SP⟩
theorem s0_Rm : Rm (SH, RHO, e_u37) 585000 := by
  have q : SH.length + 585000 ≤ 590000 := by rw [SH_len]; decide
  have q2 : ssum SH + 12 * 585000 ≤ 7080000 := by decide +kernel
  exact ⟨q, q2⟩
/-- a cell of the script, or what stands for it -/
theorem r_cell (L : Nat) (xs : Nat → Int32) (hL : L ≤ 260) {k : Nat} (hk : k < 100000) (i : Int32) (ei : i = nI k) : ∃ y, ∀ (β : Type) (K : Int32 → Dm β) (w : Wd), (dbind (DL_cell L xs i) K).1 w = (K y).1 w := by
  subst ei
  by_cases c : L ≤ k
  · refine ⟨(599 * nI k) + 593, fun β K w => b_ok ?_⟩
    unfold DL_cell
    rw [i_t (by rw [nn_le (by omega) (by omega)]; exact c), u_rt]
  · refine ⟨xs k, fun β K w => b_ok ?_⟩
    have e : rdS L xs (nI k) = some (xs k) := by
      unfold rdS
      rw [if_neg (nI_in (by omega) (by omega)), nI_clamp (by omega)]
    unfold DL_cell
    rw [i_f (by rw [nn_le (by omega) (by omega)]; exact c), b_lf e, u_rt]
/-- a fresh War -/
def nL (q : Nat) (o : Option Nat) : Lay := (fun j => q + (j - 12), fun _ => 0, fun _ => 0, fun _ => 0, o)
theorem WA_new {w : Wd} {a : Nat} {o : Option Nat} {ρ : Nat → Option Nat} {W : Wt} (h : Kn w a (.inr (.inl 12)) ρ iP) (hρ : ∀ j, 13 ≤ j → j ≤ 18 → ρ j = some (a + (j - 12))) (ho : ρ 19 = o) (h13 : Kn w (a + 1) (.inl 2) (fun _ => none) w22) (h14 : Kn w (a + 2) (.inl 12) (fun _ => none) (fun _ => 0)) (h15 : Kn w (a + 3) (.inl 8) (fun _ => none) w18) (h16 : Kn w (a + 4) (.inr (.inr (2, 12))) (fun _ => none) (fun _ => 0)) (h17 : Kn w (a + 5) (.inr (.inr (2, 150))) (fun _ => none) (fun _ => 0)) (h18 : Kn w (a + 6) (.inr (.inr (2, 0))) (fun _ => none) (fun _ => 0)) (hs : l9 rW0 W) (hd : WAd w (nL a o) W) : WA w a (nL a o) W := by
  have z : ∀ k, k < 900 → k ≠ 84 → k ≠ 1 → k ≠ 79 → k ≠ 81 → k ≠ 82 → k ≠ 83 → W k = 0 := fun k h1 h2 a b c d e => by rw [hs k h1 h2, w0_0 a b c d e]
  have n78 : nmen W = 0 := by
    unfold nmen
    rw [z 78 (by omega) (by omega) (by omega) (by omega) (by omega) (by omega) (by omega)]
    rfl
  have n3 : nt (W 3) = 0 := by rw [z 3 (by omega) (by omega) (by omega) (by omega) (by omega) (by omega) (by omega)]; rfl
  have n85 : nt (W 85) = 0 := by rw [z 85 (by omega) (by omega) (by omega) (by omega) (by omega) (by omega) (by omega)]; rfl
  have n86 : nt (W 86) = 0 := by rw [z 86 (by omega) (by omega) (by omega) (by omega) (by omega) (by omega) (by omega)]; rfl
  have n87 : nt (W 87) = 0 := by rw [z 87 (by omega) (by omega) (by omega) (by omega) (by omega) (by omega) (by omega)]; rfl
  refine ⟨?_, ⟨h.1, fun j j1 j2 => by rw [h.2.1]; exact hρ j j1 j2, by rw [h.2.1]; exact ho⟩, ?_, ?_, ⟨fun m hm => by rw [n78] at hm; omega, fun m k hm => by rw [n78] at hm; omega⟩, fun i hi => by rw [n3] at hi; omega, fun i hi => by rw [n87] at hi; omega, ?_⟩
  · unfold WAi
    have eh : sHills W = 0 := by
      rw [sHills_l9 hs]
      decide +kernel
    rw [h.2.2, eh, hs 2 (by omega) (by omega), hs 0 (by omega) (by omega), hs 1 (by omega) (by omega), hs 79 (by omega) (by omega), hs 80 (by omega) (by omega), hs 81 (by omega) (by omega), hs 78 (by omega) (by omega), hs 3 (by omega) (by omega), hs 85 (by omega) (by omega), hs 87 (by omega) (by omega)]
    decide
  · show w.1[a + 1]? = _ ∧ w.1[a + 2]? = _ ∧ w.1[a + 3]? = _ ∧ w.1[a + 4]? = _ ∧ w.1[a + 5]? = _ ∧ w.1[a + 6]? = some (.inr (.inr (2, nt (W 87))))
    rw [n87]
    exact ⟨h13.1, h14.1, h15.1, h16.1, h17.1, h18.1⟩
  · show (∀ c, c < 2 → w.2.2 (a + 1) c = W (82 + c)) ∧ (∀ m, m < 12 → w.2.2 (a + 2) m = sTold W (nI m)) ∧ ∀ f, f < 8 → w.2.2 (a + 3) f = sWt1 W (nI f)
    rw [h13.2.2, h14.2.2, h15.2.2]
    refine ⟨fun c hc => ?_, fun m hm => ?_, fun f hf => ?_⟩
    · rw [hs (82 + c) (by omega) (by omega)]
      have key : ∀ c, c < 2 → w22 c = rW0 (82 + c) := by decide
      exact key c hc
    · unfold sTold
      rw [n85]
      rfl
    · unfold sWt1
      rw [n86]
      have key : ∀ f, f < 8 → w18 f = 1 := by decide
      exact key f hf
  · exact hd
theorem nL_b {a : Nat} {o : Option Nat} {W : Wt} (ha : 146 ≤ a) (ho : ∀ q, o = some q → 146 ≤ q) (hs : l9 rW0 W) : WAb a (nL a o) W := by
  have z : ∀ k, k < 900 → k ≠ 84 → k ≠ 1 → k ≠ 79 → k ≠ 81 → k ≠ 82 → k ≠ 83 → nt (W k) = 0 := fun k h1 h2 a b c d e => by rw [hs k h1 h2, w0_0 a b c d e]; rfl
  intro c hc
  rcases hc with rfl | ⟨j, j1, j2, rfl⟩ | ⟨m, hm, rfl⟩ | ⟨i, hi, rfl⟩ | ⟨i, hi, rfl⟩ | hq
  · exact ha
  · show 146 ≤ a + (j - 12)
    omega
  · have e := z 78 (by omega) (by omega) (by omega) (by omega) (by omega) (by omega) (by omega)
    unfold nmen at hm
    omega
  · have e := z 3 (by omega) (by omega) (by omega) (by omega) (by omega) (by omega) (by omega)
    omega
  · have e := z 87 (by omega) (by omega) (by omega) (by omega) (by omega) (by omega) (by omega)
    omega
  · exact ho c hq
