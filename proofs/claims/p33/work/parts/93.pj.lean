/-! fights -/
theorem sAt_n {W : Wt} (hW : WO W) (c x : Int32) : ∃ j, j ≤ 1200 ∧ sAt W c x = nI j := by
  have h12 := (OkT_n hW.1).2
  have key : ∀ n, n ≤ 12 → ∃ j, j ≤ 100 * n ∧ fo n (fun m s => s + if W (90 + m) = c ∧ W (40 + m) = 1 ∧ W (52 + m) = x then W (4 + m) else 0) 0 = nI j := by
    intro n
    induction n with
    | zero => intro _; exact ⟨0, by omega, rfl⟩
    | succ n ih =>
      intro hn
      obtain ⟨j, hj, ej⟩ := ih (by omega)
      obtain ⟨b, hb, eb⟩ := OkD_br hW.2.1 n (by omega)
      rw [fo_s, ej]
      split
      · rw [eb, nI_add]
        exact ⟨j + b, by omega, rfl⟩
      · rw [Int32.add_zero]
        exact ⟨j, by omega, rfl⟩
  obtain ⟨j, hj, ej⟩ := key (nmen W) h12
  exact ⟨j, by omega, ej⟩
theorem nq_g {w : Wd} {a : Nat} {L : Lay} {W : Wt} (h : Wv w a L W) {s : Shp} {ρ : Nat → Option Nat} (P : Wt) : Wv (nq w s ρ P) a L W := (Go_nq h s ρ P).1
theorem ia_rq {w : Wd} {n : Nat} {ρ : Nat → Option Nat} {P : Wt} (i : Nat) (ii : Int32) (ei : ii = nI i) (hi : i < n) (hn : n < 2147483648) : iald w.1.length ii (nq w (.inl n) ρ P) = some (P i) := by
  rw [ia_k (nq_s _ _ _ _) i ii ei hi hn]
  show some (mset w.2.2 w.1.length P w.1.length i) = _
  rw [ms_eq]
def smP (W : Wt) (x : Int32) (n : Nat) (c : Nat) : Int32 := fo n (fun m s => s + if W (90 + m) = nI c ∧ W (40 + m) = 1 ∧ W (52 + m) = x then W (4 + m) else 0) 0
theorem r_sums {w : Wd} {a : Nat} {L : Lay} {W : Wt} (h : Wv w a L W) (x : Int32) (k393 : Nat → Int32 → Int32 → Int32 → Dm Unit) : ∀ (k i F : Nat) (P : Wt), i + k = nmen W → k < F → (∀ c, c < 2 → P c = smP W x i c) → ∃ P' : Wt, (∀ c, c < 2 → P' c = smP W x (nmen W) c) ∧ (DX12_passes_L432 k393 F a 1 1 x w.1.length (nI i)).1 (nq w (.inl 2) (fun _ => none) P) = (if P' 1 ≤ P' 0 then (if P' 0 ≤ P' 1 then DX12_passes_b530 k393 a 1 1 x (-1) else DX12_passes_b530 k393 a 1 1 x 1) else DX12_passes_b530 k393 a 1 1 x 0).1 (nq w (.inl 2) (fun _ => none) P') := by
  have hT := h.2.2.1.1
  have h12 := (OkT_n hT).2
  intro k
  induction k with
  | zero =>
    intro i F P hi hF hP
    obtain ⟨F, rfl⟩ : ∃ F', F = F' + 1 := ⟨F - 1, by omega⟩
    have e : i = nmen W := by omega
    subst e
    refine ⟨P, hP, ?_⟩
    show (DX12_passes_b432 _ _ _ _ _ _ _ _).1 _ = _
    unfold DX12_passes_b432
    rw [b_rd (g_6 (nq_g h P).1), i_t (by rw [le_n hT (by omega)]; omega), b_rd (ia_rq 0 0 (by decide) (by decide) (by decide)), b_rd (ia_rq 1 1 (by decide) (by decide) (by decide))]
    by_cases c1 : P 1 ≤ P 0
    · rw [i_t c1, if_pos c1, b_rd (ia_rq 1 1 (by decide) (by decide) (by decide)), b_rd (ia_rq 0 0 (by decide) (by decide) (by decide))]
    · rw [i_f c1, if_neg c1]
  | succ k ih =>
    intro i F P hi hF hP
    obtain ⟨F, rfl⟩ : ∃ F', F = F' + 1 := ⟨F - 1, by omega⟩
    have hm : i < nmen W := by omega
    have A := (nq_g h (s := .inl 2) (ρ := fun _ => none) P).1
    obtain ⟨d, hd, ed⟩ : ∃ d, d < 2 ∧ W (90 + i) = nI d := by
      rcases OkT_co hT i (by omega) with q | q
      · exact ⟨0, by omega, q⟩
      · exact ⟨1, by omega, q⟩
    have sm : ∀ c, smP W x (i + 1) c = smP W x i c + if W (90 + i) = nI c ∧ W (40 + i) = 1 ∧ W (52 + i) = x then W (4 + i) else 0 := fun c => rfl
    have skip : ¬ (W (40 + i) = 1 ∧ W (52 + i) = x) → ∀ c, c < 2 → P c = smP W x (i + 1) c := fun q c hc => by
      rw [sm, if_neg (fun z => q z.2), Int32.add_zero, hP c hc]
    show ∃ P' : Wt, _ ∧ (DX12_passes_b432 _ _ _ _ _ _ _ _).1 _ = _
    unfold DX12_passes_b432 DX12_passes_b493
    rw [b_rd (g_6 A), i_f (by rw [le_n hT (by omega)]; omega), b_rd (g_R A 16 (by decide) (by decide)), b_rd (g_man A hT hm), b_rd (g_m6 A hm)]
    by_cases c1 : W (40 + i) = 1
    · rw [i_t c1, b_rd (g_R A 16 (by decide) (by decide)), b_rd (g_man A hT hm), b_rd (g_m7 A hm c1)]
      by_cases c2 : W (52 + i) = x
      · obtain ⟨P', q1, q2⟩ := ih (i + 1) F (upd P d (P d + W (4 + i))) (by omega) (by omega) (fun c hc => by
          rw [sm]
          by_cases z : c = d
          · subst z
            rw [up_eq, hP c hc, if_pos ⟨ed, c1, c2⟩]
          · rw [up_ne z, hP c hc, if_neg (fun y => z (by
              have := ed.symm.trans y.1
              rw [nn_eq (by omega) (by omega)] at this
              exact this.symm)), Int32.add_zero])
        rw [nI_succ] at q2
        refine ⟨P', q1, ?_⟩
        rw [i_t c2, b_rd (g_R A 16 (by decide) (by decide)), b_rd (g_man A hT hm), b_rd (g_m0 A hm), ed, b_rd (ia_rq d (nI d) rfl hd (by decide)), b_rd (g_R A 16 (by decide) (by decide)), b_rd (g_man A hT hm), b_rd (g_m3 A hm), ia_nq rfl d _ _ rfl hd (by decide)]
        exact q2
      · obtain ⟨P', q1, q2⟩ := ih (i + 1) F P (by omega) (by omega) (skip (fun z => c2 z.2))
        rw [nI_succ] at q2
        refine ⟨P', q1, ?_⟩
        rw [i_f c2]
        exact q2
    · obtain ⟨P', q1, q2⟩ := ih (i + 1) F P (by omega) (by omega) (skip (fun z => c1 z.1))
      rw [nI_succ] at q2
      refine ⟨P', q1, ?_⟩
      rw [i_f c1]
      exact q2
/-! the youngest -/
def yCand (W : Wt) (c x : Int32) (j : Nat) : Prop := W (90 + j) = c ∧ W (40 + j) = 1 ∧ W (52 + j) = x
def yKey (W : Wt) (j : Nat) : Nat := 200 - nt (W (102 + j))
theorem yKey_lt {W : Wt} (hT : OkT W) {i k : Nat} (hi : i < 12) (hk : k < 12) : (yKey W k < yKey W i) = (W (102 + i) < W (102 + k)) ∧ (yKey W k ≤ yKey W i) = ¬ (W (102 + k) < W (102 + i)) := by
  obtain ⟨p, hp, ep⟩ := OkT_ag hT i hi
  obtain ⟨q, hq, eq⟩ := OkT_ag hT k hk
  unfold yKey
  rw [ep, eq, nt_nI (by omega), nt_nI (by omega), nn_lt (by omega) (by omega), nn_lt (by omega) (by omega)]
  exact ⟨propext (by omega), propext (by omega)⟩
theorem yng_Bs {W : Wt} (hT : OkT W) (c x : Int32) : ∀ i, i ≤ 12 → Bs (yCand W c x) (yKey W) 0 i (yng W c x i) := by
  intro i
  induction i with
  | zero => intro _; exact Or.inl ⟨rfl, fun j _ h => by omega⟩
  | succ i ih =>
    intro hi
    have q := ih (by omega)
    have z := Bs_up (by omega) q
    have hb := (Bs_n1 q (by omega)).2
    unfold yng
    by_cases h : (W (90 + i) = c ∧ W (40 + i) = 1 ∧ W (52 + i) = x) ∧ (yng W c x i = -1 ∨ W (102 + i) < W (102 + nt (yng W c x i)))
    · rw [if_pos h]
      refine z.1 ⟨h.1, ?_⟩
      rcases hb with e | ⟨k, hk, -, e, -⟩
      · exact Or.inl e
      · rcases h.2 with y | y
        · exact Or.inl y
        · refine Or.inr ?_
          rw [e, nt_nI (by omega)] at y ⊢
          rw [(yKey_lt hT (by omega) (by omega)).1]
          exact y
    · rw [if_neg h]
      refine z.2 (fun y => h ⟨y.1, ?_⟩)
      rcases hb with e | ⟨k, hk, -, e, -⟩
      · exact Or.inl e
      · rcases y.2 with y2 | y2
        · exact Or.inl y2
        · refine Or.inr ?_
          rw [e, nt_nI (by omega)] at y2 ⊢
          rw [(yKey_lt hT (by omega) (by omega)).1] at y2
          exact y2
theorem r_yngL {w : Wd} {a : Nat} {L : Lay} {W : Wt} (h : Wv w a L W) {c x : Int32} (hc : ¬ c < 0) (k393 : Nat → Int32 → Int32 → Int32 → Dm Unit) : ∀ (i F : Nat) (r : Int32), i ≤ nmen W → i < F → Bs (yCand W c x) (yKey W) i (nmen W) r → (DX12_passes_L543 k393 F a 1 1 x c r (nI i - 1)).1 w = (DX12_passes_b615 k393 a 1 1 x c (yng W c x (nmen W))).1 w := by
  obtain ⟨hA, ho, hW, hb⟩ := id h
  have hT := hW.1
  have h12 := (OkT_n hT).2
  intro i
  induction i with
  | zero =>
    intro F r hi hF hB
    obtain ⟨F, rfl⟩ : ∃ F', F = F' + 1 := ⟨F - 1, by omega⟩
    show (DX12_passes_b543 _ _ _ _ _ _ _ _ _).1 w = _
    unfold DX12_passes_b543
    rw [i_t (by decide), Bs_q hB (yng_Bs hT c x (nmen W) h12)]
  | succ i ih =>
    intro F r hi hF hB
    obtain ⟨F, rfl⟩ : ∃ F', F = F' + 1 := ⟨F - 1, by omega⟩
    show (DX12_passes_b543 _ _ _ _ _ _ _ _ _).1 w = _
    unfold DX12_passes_b543
    have e : nI (i + 1) - 1 = nI i := by rw [nI_succ, Int32.add_sub_cancel]
    have hm : i < nmen W := by omega
    have z := Bs_dn hm (by omega) hB
    have hb2 := Bs_n1 hB (by omega)
    have go1 : Bs (yCand W c x) (yKey W) i (nmen W) r → (DX12_passes_b609 (DX12_passes_L543 k393 F) a 1 1 x c r (nI i)).1 w = (DX12_passes_b615 k393 a 1 1 x c (yng W c x (nmen W))).1 w := fun q => by
      unfold DX12_passes_b609
      rw [show nI i + (-1) = nI i - 1 by rw [Int32.sub_eq_add_neg]]
      exact ih F r (by omega) (by omega) q
    have go2 : Bs (yCand W c x) (yKey W) i (nmen W) (nI i) → (DX12_passes_b605 (DX12_passes_L543 k393 F) a 1 1 x c (nI i)).1 w = (DX12_passes_b615 k393 a 1 1 x c (yng W c x (nmen W))).1 w := fun q => by
      unfold DX12_passes_b605 DX12_passes_b609
      rw [show nI i + (-1) = nI i - 1 by rw [Int32.sub_eq_add_neg]]
      exact ih F (nI i) (by omega) (by omega) q
    rw [e, i_f (nI_pos (by omega)), i_f hc, b_rd (g_C hA), b_ok (r_is hA hT hm c 1)]
    by_cases c1 : W (90 + i) = c ∧ W (40 + i) = 1
    · rw [if_pos c1, i_f z1, b_rd (g_R hA 16 (by decide) (by decide)), b_rd (g_man hA hT hm), b_rd (g_m7 hA hm c1.2)]
      by_cases c2 : W (52 + i) = x
      · have cd : yCand W c x i := ⟨c1.1, c1.2, c2⟩
        rw [i_t c2]
        rcases hb2.2 with er | ⟨k, hk, -, er, -⟩
        · rw [i_t (by rw [er]; decide)]
          exact go2 (z.1 ⟨cd, Or.inl er⟩)
        · have rn : r ≠ -1 := by rw [er]; exact nI_m1 (by omega)
          have rk : nt r = k := by rw [er, nt_nI (by omega)]
          rw [rk] at z
          rw [(yKey_lt hT (by omega) (by omega)).2] at z
          rw [i_f (by rw [er]; exact nI_pos (by omega)), b_rd (g_R hA 16 (by decide) (by decide)), b_rd (g_man hA hT hm), b_rd (g_m1 hA hm), b_rd (g_R hA 16 (by decide) (by decide)), er, b_rd (g_man hA hT hk), b_rd (g_m1 hA hk)]
          rw [er] at z go1
          by_cases c5 : W (102 + k) < W (102 + i)
          · rw [i_t c5]
            exact go1 (z.2 (fun y => y.2.elim (fun x => rn (er.trans x)) (fun x => x c5)))
          · rw [i_f c5]
            exact go2 (z.1 ⟨cd, Or.inr c5⟩)
      · rw [i_f c2]
        exact go1 (z.2 (fun y => c2 y.1.2.2))
    · rw [if_neg c1, i_t rfl]
      exact go1 (z.2 (fun y => c1 ⟨y.1.1, y.1.2.1⟩))
