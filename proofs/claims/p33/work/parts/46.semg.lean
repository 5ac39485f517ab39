/-! what a day changes: the row, and what stands for it -/
def same78 (W W' : Wt) : Prop := ∀ k, 78 ≤ k → (k < 300 ∨ 900 ≤ k) → W' k = W k
theorem s78_r (W : Wt) : same78 W W := fun _ _ _ => rfl
theorem s78_t {W W' W'' : Wt} (h : same78 W W') (h' : same78 W' W'') : same78 W W'' := fun k a b => (h' k a b).trans (h k a b)
theorem s78_u {W : Wt} {k : Nat} {x : Int32} (h : k < 78 ∨ (300 ≤ k ∧ k < 900)) : same78 W (upd W k x) := fun j a b => up_ne (by omega)
theorem s78_n {W W' : Wt} (h : same78 W W') : nmen W' = nmen W := by unfold nmen; rw [h 78 (by omega) (by omega)]
theorem OkT_W {W W' : Wt} (s : same78 W W') (h : OkT W) : OkT W' := by
  have hn := s78_n s
  have e78 := s 78 (by omega) (by omega)
  have e85 := s 85 (by omega) (by omega)
  have e86 := s 86 (by omega) (by omega)
  have e87 := s 87 (by omega) (by omega)
  have e88 := s 88 (by omega) (by omega)
  refine ⟨by rw [e78, hn]; exact OkT_n h, fun m hm => by rw [s _ (by omega) (by omega)]; exact OkT_co h m hm, fun m hm => by rw [s _ (by omega) (by omega)]; exact OkT_ag h m hm, fun m hm => by rw [s _ (by omega) (by omega), hn]; exact OkT_le h m hm, by rw [s _ (by omega) (by omega)]; exact OkT_keep h, by rw [s _ (by omega) (by omega)]; exact OkT_rain h, by rw [s _ (by omega) (by omega)]; exact OkT_tea h, fun c hc => by rw [s _ (by omega) (by omega)]; exact OkT_wa h c hc, fun c hc => by rw [s _ (by omega) (by omega)]; exact OkT_hi h c hc, by rw [e85]; exact OkT_tn h, by rw [e86]; exact OkT_wn h, by rw [e87]; exact OkT_on h, by rw [e88]; exact OkT_sn h, fun i hi => ?_, fun i hi => ?_, fun i hi => ?_⟩
  · rw [e85] at hi
    have := (OkT_tn h).2
    rw [s _ (by omega) (by omega), s _ (by omega) (by omega), hn]
    exact OkT_te h i hi
  · rw [e86] at hi
    have := (OkT_wn h).2
    rw [s _ (by omega) (by omega), s _ (by omega) (by omega)]
    exact OkT_we h i hi
  · rw [e88] at hi
    have := (OkT_sn h).2
    rw [s _ (by omega) (by omega)]
    exact OkT_sg h i hi
theorem fo_n {α : Type} {f g : Nat → α → α} {a : α} {n n' : Nat} (e : n' = n) (h : ∀ i s, i < n → f i s = g i s) : fo n' f a = fo n g a := by
  rw [e]; exact fo_congr h
theorem sTold_W {W W' : Wt} (s : same78 W W') (h : OkT W) (m : Int32) : sTold W' m = sTold W m := by
  have := (OkT_tn h).2
  refine fo_n (by rw [s 85 (by omega) (by omega)]) (fun i z hi => ?_)
  rw [s _ (by omega) (by omega), s _ (by omega) (by omega)]
theorem sWt1_W {W W' : Wt} (s : same78 W W') (h : OkT W) (m : Int32) : sWt1 W' m = sWt1 W m := by
  have := (OkT_wn h).2
  refine fo_n (by rw [s 86 (by omega) (by omega)]) (fun i z hi => ?_)
  rw [s _ (by omega) (by omega), s _ (by omega) (by omega)]
theorem sWt_W {W W' : Wt} (s : same78 W W') (h : OkT W) (z : Int32) : sWt W' z = sWt W z := by
  refine fo_n rfl (fun i z hi => ?_)
  rw [sWt1_W s h]
theorem sHills_W {W W' : Wt} (s : same78 W W') : sHills W' = sHills W := by
  refine fo_n rfl (fun i z hi => ?_)
  rw [s _ (by omega) (by omega)]
theorem TR_W {t : Nat} {u : Mem} {W W' : Wt} (s : same78 W W') (h : OkT W) (hT : TR t u W) : TR t u W' := by
  have e87 := s 87 (by omega) (by omega)
  have e88 := s 88 (by omega) (by omega)
  have o := (OkT_on h).2
  have l := (OkT_sn h).2
  refine ⟨by rw [s _ (by omega) (by omega)]; exact TR_men hT, by rw [s _ (by omega) (by omega)]; exact TR_keep hT, by rw [s _ (by omega) (by omega)]; exact TR_rain hT, by rw [s _ (by omega) (by omega)]; exact TR_tea hT, by rw [sHills_W s]; exact TR_hi hT, by rw [s _ (by omega) (by omega)]; exact TR_tl hT, by rw [s _ (by omega) (by omega)]; exact TR_wl hT, fun m hm => by rw [s _ (by omega) (by omega)]; exact TR_co hT m hm, fun m hm => by rw [s _ (by omega) (by omega)]; exact TR_ag hT m hm, fun m hm => by rw [s _ (by omega) (by omega)]; exact TR_le hT m hm, fun m hm => by rw [sTold_W s h]; exact TR_te hT m hm, fun c hc => by rw [s _ (by omega) (by omega)]; exact TR_wa hT c hc, fun f hf => by rw [sWt1_W s h]; exact TR_we hT f hf, by rw [e87]; exact TR_ol hT, fun i hi => ?_, fun i hi => ?_, fun i hi => ?_, by rw [e88]; exact TR_sl hT, fun i hi => ?_, fun i hi => ?_, fun i hi => ?_⟩
  · rw [e87] at hi; rw [s _ (by omega) (by omega)]; exact TR_od hT i hi
  · rw [e87] at hi; rw [s _ (by omega) (by omega)]; exact TR_oc hT i hi
  · rw [e87] at hi; rw [s _ (by omega) (by omega)]; exact TR_or hT i hi
  · rw [e88] at hi; rw [s _ (by omega) (by omega)]; exact TR_sd hT i hi
  · rw [e88] at hi; rw [s _ (by omega) (by omega)]; exact TR_sc hT i hi
  · rw [e88] at hi; rw [s _ (by omega) (by omega)]; exact TR_sg hT i hi
theorem opsW_W {W W' : Wt} (s : same78 W W') : ∀ (k p : Nat), opsW W' p k = opsW W p k
  | 0, _ => rfl
  | k + 1, p => by
    show (_, _) :: _ = (_, _) :: _
    rw [s _ (by omega) (by omega), s _ (by omega) (by omega), opsW_W s k (p + 1)]
theorem lpk_W {W W' : Wt} (s : same78 W W') (i : Nat) : lp W' i = lp W i ∧ lk W' i = lk W i ∧ ll W' i = ll W i := by
  unfold lp lk ll
  rw [s _ (by omega) (by omega), s _ (by omega) (by omega), s _ (by omega) (by omega)]
  exact ⟨rfl, rfl, rfl⟩
theorem okW_W {W W' : Wt} (s : same78 W W') (p k : Nat) : okW W' p k = okW W p k := by
  unfold okW
  apply propext
  constructor <;> intro h j hj
  · have := h j hj
    rw [s _ (by omega) (by omega), s _ (by omega) (by omega)] at this
    exact this
  · rw [s _ (by omega) (by omega), s _ (by omega) (by omega)]
    exact h j hj
theorem LW_W {W W' : Wt} (s : same78 W W') (h : LW W) : LW W' := by
  have e84 := s 84 (by omega) (by omega)
  refine ⟨by rw [e84]; exact h.1, fun i hi => ?_⟩
  rw [e84] at hi
  have h1 := h.2 i hi
  have hi16 := h.1.2
  obtain ⟨a, b, c⟩ := lpk_W s i
  unfold LW1 at h1 ⊢
  rw [a, b, c, s _ (by omega) (by omega), s _ (by omega) (by omega), s _ (by omega) (by omega), s _ (by omega) (by omega), okW_W s, opsW_W s, opsW_W s]
  exact h1
theorem LC_W {t : Nat} {u : Mem} {W W' : Wt} (s : same78 W W') (h : LC t u W) : LC t u W' := by
  have e84 := s 84 (by omega) (by omega)
  refine ⟨by rw [e84]; exact h.1, fun i hi => ?_⟩
  rw [e84] at hi
  have h1 := h.2 i hi
  obtain ⟨a, b, c⟩ := lpk_W s i
  unfold LC1 at h1 ⊢
  rw [a, b, c, s _ (by omega) (by omega), opsW_W s, opsW_W s]
  exact h1
theorem OkD_u {W : Wt} {k : Nat} {x : Int32} (h : OkD W) (hk : k ≠ 78) (h1 : ∀ m, m < 12 → k = 4 + m → ∃ j, j ≤ 99 ∧ x = nI j) (h2 : ∀ m, m < 12 → k = 16 + m → ∃ j, j < 256 ∧ x = nI j) (h3 : ∀ m, m < 12 → k = 28 + m → ∃ j, j ≤ 999 ∧ x = nI j) (h4 : ∀ m, m < 12 → k = 40 + m → (∃ j, j < 3 ∧ x = nI j) ∧ (nmen W ≤ m → x = 0)) (h5 : ∀ m, m < 12 → k = 52 + m → ∃ j, j < 16 ∧ x = nI j) (h6 : k = 1 → x = 0 ∨ x = 1) (h7 : k = 3 → ∃ j, j ≤ 150 ∧ x = nI j) : OkD (upd W k x) := by
  have hn : nmen (upd W k x) = nmen W := by unfold nmen; rw [up_ne (Ne.symm hk)]
  refine ⟨fun m hm => ?_, fun m hm => ?_, fun m hm => ?_, fun m hm => ?_, fun m hm => ?_, ?_, ?_, fun m hm hm' => ?_⟩
  · by_cases e : 4 + m = k
    · rw [← e, up_eq]; exact h1 m hm e.symm
    · rw [up_ne e]; exact OkD_br h m hm
  · by_cases e : 16 + m = k
    · rw [← e, up_eq]; exact h2 m hm e.symm
    · rw [up_ne e]; exact OkD_kn h m hm
  · by_cases e : 28 + m = k
    · rw [← e, up_eq]; exact h3 m hm e.symm
    · rw [up_ne e]; exact OkD_cn h m hm
  · by_cases e : 40 + m = k
    · rw [← e, up_eq]; exact (h4 m hm e.symm).1
    · rw [up_ne e]; exact OkD_wh h m hm
  · by_cases e : 52 + m = k
    · rw [← e, up_eq]; exact h5 m hm e.symm
    · rw [up_ne e]; exact OkD_ce h m hm
  · by_cases e : 1 = k
    · rw [← e, up_eq]; exact h6 e.symm
    · rw [up_ne e]; exact OkD_war h
  · by_cases e : 3 = k
    · rw [← e, up_eq]; exact h7 e.symm
    · rw [up_ne e]; exact OkD_ln h
  · rw [hn] at hm'
    by_cases e : 40 + m = k
    · rw [← e, up_eq]; exact (h4 m hm e.symm).2 hm'
    · rw [up_ne e]; exact OkD_hm h m hm hm'
theorem OkD_ubr {W : Wt} {m : Nat} {x : Int32} (h : OkD W) (hm : m < 12) (hx : ∃ j, j ≤ 99 ∧ x = nI j) : OkD (upd W (4 + m) x) :=
  OkD_u h (by omega) (fun _ _ _ => hx) (fun _ _ _ => by omega) (fun _ _ _ => by omega) (fun _ _ _ => by omega) (fun _ _ _ => by omega) (fun _ => by omega) (fun _ => by omega)
theorem OkD_ukn {W : Wt} {m : Nat} {x : Int32} (h : OkD W) (hm : m < 12) (hx : ∃ j, j < 256 ∧ x = nI j) : OkD (upd W (16 + m) x) :=
  OkD_u h (by omega) (fun _ _ _ => by omega) (fun _ _ _ => hx) (fun _ _ _ => by omega) (fun _ _ _ => by omega) (fun _ _ _ => by omega) (fun _ => by omega) (fun _ => by omega)
theorem OkD_ucn {W : Wt} {m : Nat} {x : Int32} (h : OkD W) (hm : m < 12) (hx : ∃ j, j ≤ 999 ∧ x = nI j) : OkD (upd W (28 + m) x) :=
  OkD_u h (by omega) (fun _ _ _ => by omega) (fun _ _ _ => by omega) (fun _ _ _ => hx) (fun _ _ _ => by omega) (fun _ _ _ => by omega) (fun _ => by omega) (fun _ => by omega)
theorem OkD_uwh {W : Wt} {m : Nat} {x : Int32} (h : OkD W) (hm : m < 12) (hx : ∃ j, j < 3 ∧ x = nI j) (h0 : m < nmen W ∨ x = 0) : OkD (upd W (40 + m) x) :=
  OkD_u h (by omega) (fun _ _ _ => by omega) (fun _ _ _ => by omega) (fun _ _ _ => by omega) (fun _ _ e => ⟨hx, fun q => by
    rcases h0 with h0 | h0
    · omega
    · exact h0⟩) (fun _ _ _ => by omega) (fun _ => by omega) (fun _ => by omega)
theorem OkD_uce {W : Wt} {m : Nat} {x : Int32} (h : OkD W) (hm : m < 12) (hx : ∃ j, j < 16 ∧ x = nI j) : OkD (upd W (52 + m) x) :=
  OkD_u h (by omega) (fun _ _ _ => by omega) (fun _ _ _ => by omega) (fun _ _ _ => by omega) (fun _ _ _ => by omega) (fun _ _ _ => hx) (fun _ => by omega) (fun _ => by omega)
theorem OkD_usi {W : Wt} {m : Nat} {x : Int32} (h : OkD W) (hm : m < 12) : OkD (upd W (64 + m) x) :=
  OkD_u h (by omega) (fun _ _ _ => by omega) (fun _ _ _ => by omega) (fun _ _ _ => by omega) (fun _ _ _ => by omega) (fun _ _ _ => by omega) (fun _ => by omega) (fun _ => by omega)
theorem OkD_uwar {W : Wt} (h : OkD W) : OkD (upd W 1 0) :=
  OkD_u h (by omega) (fun _ _ _ => by omega) (fun _ _ _ => by omega) (fun _ _ _ => by omega) (fun _ _ _ => by omega) (fun _ _ _ => by omega) (fun _ => Or.inl rfl) (fun _ => by omega)
theorem OkD_ufr {W : Wt} {k : Nat} {x : Int32} (h : OkD W) (hk : k = 0 ∨ k = 2 ∨ (79 ≤ k)) : OkD (upd W k x) :=
  OkD_u h (by omega) (fun _ _ _ => by omega) (fun _ _ _ => by omega) (fun _ _ _ => by omega) (fun _ _ _ => by omega) (fun _ _ _ => by omega) (fun _ => by omega) (fun _ => by omega)
theorem WO_u {W W' : Wt} (h : WO W) (s : same78 W W') (hD : OkD W') : WO W' := ⟨OkT_W s h.1, hD, LW_W s h.2.2⟩
/-- a number of a man is written, in the class and in the row -/
theorem CR_u {b : Nat} {u : Mem} {W : Wt} (hb : b = 23 ∨ b = 97) (h : CR b u W) (hT : OkT W) {j m : Nat} (hj : j < 6) (hm : m < 12) (x : Int32) : CR b (mupd u (b + 1 + j) m x) (upd W (4 + 12 * j + m) x) := by
  have s : same78 W (upd W (4 + 12 * j + m) x) := s78_u (by omega)
  refine ⟨TR_W s hT (TR_cg h.1 (fun i hi => m_ne (by omega))), LC_W s (LC_cg h.2.1 (fun i hi => m_ne (by omega))), ?_⟩
  have hB := h.2.2
  refine ⟨by rw [m_ne (by omega), up_ne (by omega)]; exact BR_war hB, by rw [m_ne (by omega), up_ne (by omega)]; exact BR_day hB, by rw [m_ne (by omega), up_ne (by omega)]; exact BR_dr hB, by rw [m_ne (by omega), up_ne (by omega)]; exact BR_ln hB, fun j' m' hj' hm' => ?_⟩
  by_cases e : j' = j
  · subst e
    rw [m_eq]
    by_cases e2 : m' = m
    · subst e2; rw [up_eq, up_eq]
    · rw [up_ne e2, up_ne (by omega)]; exact BR_ar hB j' m' hj' hm'
  · rw [m_ne (by omega), up_ne (by omega)]; exact BR_ar hB j' m' hj' hm'
/-- a number of its own -/
theorem CR_f {b : Nat} {u : Mem} {W : Wt} (hb : b = 23 ∨ b = 97) (h : CR b u W) (hT : OkT W) {k q : Nat} (hk : (k = 6 ∧ q = 1) ∨ (k = 7 ∧ q = 0) ∨ (k = 8 ∧ q = 2) ∨ (k = 9 ∧ q = 3)) (x : Int32) : CR b (mupd u b k x) (upd W q x) := by
  have s : same78 W (upd W q x) := s78_u (by omega)
  refine ⟨TR_W s hT (TR_cg h.1 (fun i hi => m_ne (by omega))), LC_W s (LC_cg h.2.1 (fun i hi => m_ne (by omega))), ?_⟩
  have hB := h.2.2
  refine ⟨?_, ?_, ?_, ?_, fun j' m' hj' hm' => by rw [m_ne (by omega), up_ne (by omega)]; exact BR_ar hB j' m' hj' hm'⟩
  · rw [m_eq]
    by_cases e : k = 6
    · have e2 : q = 1 := by omega
      rw [e, e2, up_eq, up_eq]
    · rw [up_ne (by omega), up_ne (by omega)]; exact BR_war hB
  · rw [m_eq]
    by_cases e : k = 7
    · have e2 : q = 0 := by omega
      rw [e, e2, up_eq, up_eq]
    · rw [up_ne (by omega), up_ne (by omega)]; exact BR_day hB
  · rw [m_eq]
    by_cases e : k = 8
    · have e2 : q = 2 := by omega
      rw [e, e2, up_eq, up_eq]
    · rw [up_ne (by omega), up_ne (by omega)]; exact BR_dr hB
  · rw [m_eq]
    by_cases e : k = 9
    · have e2 : q = 3 := by omega
      rw [e, e2, up_eq, up_eq]
    · rw [up_ne (by omega), up_ne (by omega)]; exact BR_ln hB
/-- what is told of the class's cells from 300 to 899 of the row: nothing -/
theorem CR_hi {b : Nat} {u : Mem} {W : Wt} (h : CR b u W) (hT : OkT W) {k : Nat} (hk : 300 ≤ k ∧ k < 900) (x : Int32) : CR b u (upd W k x) := by
  have s : same78 W (upd W k x) := s78_u (by omega)
  refine ⟨TR_W s hT h.1, LC_W s h.2.1, ?_⟩
  have hB := h.2.2
  exact ⟨by rw [up_ne (by omega)]; exact BR_war hB, by rw [up_ne (by omega)]; exact BR_day hB, by rw [up_ne (by omega)]; exact BR_dr hB, by rw [up_ne (by omega)]; exact BR_ln hB, fun j' m' hj' hm' => by rw [up_ne (by omega)]; exact BR_ar hB j' m' hj' hm'⟩
/-- THE BOOK -/
def BK (c : Nat) (u : Mem) (W : Wt) : Prop := ∀ i, i < 600 → u c i = W (300 + i)
/-- how the class's days stand: awake, in thought -/
def XR_32 (fa md : Int32) (B : Wt) (u : Mem) (W : Wt) : Prop := CR 23 u W ∧ BK 31 u W ∧ u 32 3 = 1 ∧ u 32 5 = fa
def XR_104 (fa md : Int32) (B : Wt) (u : Mem) (W : Wt) : Prop := CR 97 u W ∧ u 104 3 = 0 ∧ u 104 5 = fa ∧ u 104 6 = md ∧ u 31 = B
theorem XR_u32 {fa md : Int32} {B : Wt} {u : Mem} {W : Wt} (h : XR_32 fa md B u W) (hT : OkT W) {j m : Nat} (hj : j < 6) (hm : m < 12) (x : Int32) : XR_32 fa md B (mupd u (23 + 1 + j) m x) (upd W (4 + 12 * j + m) x) :=
  ⟨CR_u (Or.inl rfl) h.1 hT hj hm x, fun i hi => by rw [m_ne (by omega), up_ne (by omega)]; exact h.2.1 i hi, by rw [m_ne (by omega)]; exact h.2.2.1, by rw [m_ne (by omega)]; exact h.2.2.2⟩
theorem XR_u104 {fa md : Int32} {B : Wt} {u : Mem} {W : Wt} (h : XR_104 fa md B u W) (hT : OkT W) {j m : Nat} (hj : j < 6) (hm : m < 12) (x : Int32) : XR_104 fa md B (mupd u (97 + 1 + j) m x) (upd W (4 + 12 * j + m) x) :=
  ⟨CR_u (Or.inr rfl) h.1 hT hj hm x, by rw [m_ne (by omega)]; exact h.2.1, by rw [m_ne (by omega)]; exact h.2.2.1, by rw [m_ne (by omega)]; exact h.2.2.2.1, by rw [m_ne (by omega)]; exact h.2.2.2.2⟩
theorem XR_f32 {fa md : Int32} {B : Wt} {u : Mem} {W : Wt} (h : XR_32 fa md B u W) (hT : OkT W) {k q : Nat} (hk : (k = 6 ∧ q = 1) ∨ (k = 7 ∧ q = 0) ∨ (k = 8 ∧ q = 2)) (x : Int32) : XR_32 fa md B (mupd u 23 k x) (upd W q x) :=
  ⟨CR_f (Or.inl rfl) h.1 hT (by omega) x, fun i hi => by rw [m_ne (by omega), up_ne (by omega)]; exact h.2.1 i hi, by rw [m_ne (by omega)]; exact h.2.2.1, by rw [m_ne (by omega)]; exact h.2.2.2⟩
theorem XR_f104 {fa md : Int32} {B : Wt} {u : Mem} {W : Wt} (h : XR_104 fa md B u W) (hT : OkT W) {k q : Nat} (hk : (k = 6 ∧ q = 1) ∨ (k = 7 ∧ q = 0) ∨ (k = 8 ∧ q = 2)) (x : Int32) : XR_104 fa md B (mupd u 97 k x) (upd W q x) :=
  ⟨CR_f (Or.inr rfl) h.1 hT (by omega) x, by rw [m_ne (by omega)]; exact h.2.1, by rw [m_ne (by omega)]; exact h.2.2.1, by rw [m_ne (by omega)]; exact h.2.2.2.1, by rw [m_ne (by omega)]; exact h.2.2.2.2⟩
theorem XR_s32 {fa md : Int32} {B : Wt} {u u' : Mem} {W : Wt} (h : XR_32 fa md B u W) (s : FrL [14, 33] u u') : XR_32 fa md B u' W :=
  ⟨CR_scr (Or.inl rfl) (fun c hc => s c (by simp; omega)) h.1, fun i hi => by rw [s 31 (by decide)]; exact h.2.1 i hi, by rw [s 32 (by decide)]; exact h.2.2.1, by rw [s 32 (by decide)]; exact h.2.2.2⟩
theorem XR_s104 {fa md : Int32} {B : Wt} {u u' : Mem} {W : Wt} (h : XR_104 fa md B u W) (s : FrL [14, 105] u u') : XR_104 fa md B u' W :=
  ⟨CR_scr (Or.inr rfl) (fun c hc => s c (by simp; omega)) h.1, by rw [s 104 (by decide)]; exact h.2.1, by rw [s 104 (by decide)]; exact h.2.2.1, by rw [s 104 (by decide)]; exact h.2.2.2.1, by rw [s 31 (by decide)]; exact h.2.2.2.2⟩
theorem up2 {f g : Wt} {k k' j j' : Nat} {x : Int32} (h : j = k ↔ j' = k') (hh : j ≠ k → f j = g j') : upd f k x j = upd g k' x j' := by
  by_cases c : j = k
  · rw [c, h.mp c, up_eq, up_eq]
  · rw [up_ne c, up_ne (fun e => c (h.mpr e)), hh c]
/-- a line of THE BOOK -/
def dNote (tr what m num : Int32) (W : Wt) : Wt := if tr = 0 then W else if W 3 = 150 then W else upd (upd (upd (upd (upd W (300 + 4 * nt (W 3)) (W 0)) (300 + 4 * nt (W 3) + 1) what) (300 + 4 * nt (W 3) + 2) m) (300 + 4 * nt (W 3) + 3) num) 3 (W 3 + 1)
theorem dNote_s {tr what m num : Int32} {W : Wt} (hD : OkD W) : same78 W (dNote tr what m num W) := by
  obtain ⟨j, hj, e⟩ := OkD_ln hD
  unfold dNote
  split
  · exact s78_r W
  · split
    · exact s78_r W
    · rename_i h
      rw [e, show (150 : Int32) = nI 150 by decide, nn_eq (by omega) (by omega)] at h
      rw [e, nt_nI (by omega)]
      exact s78_t (s78_t (s78_t (s78_t (s78_u (by omega)) (s78_u (by omega))) (s78_u (by omega))) (s78_u (by omega))) (s78_u (by omega))
theorem dNote_D {tr what m num : Int32} {W : Wt} (hD : OkD W) : OkD (dNote tr what m num W) := by
  obtain ⟨j, hj, e⟩ := OkD_ln hD
  unfold dNote
  split
  · exact hD
  · split
    · exact hD
    · rename_i h
      rw [e, show (150 : Int32) = nI 150 by decide, nn_eq (by omega) (by omega)] at h
      refine OkD_u (OkD_ufr (OkD_ufr (OkD_ufr (OkD_ufr hD (by omega)) (by omega)) (by omega)) (by omega)) (by omega) (fun _ _ _ => by omega) (fun _ _ _ => by omega) (fun _ _ _ => by omega) (fun _ _ _ => by omega) (fun _ _ _ => by omega) (fun _ => by omega) (fun _ => ⟨j + 1, by omega, by rw [e, nI_1]⟩)
theorem dNote_lo {tr what m num : Int32} {W : Wt} (hD : OkD W) {k : Nat} (hk : k ≠ 3 ∧ k < 300) : dNote tr what m num W k = W k := by
  unfold dNote
  split
  · rfl
  · split
    · rfl
    · rw [up_ne hk.1, up_ne (by omega), up_ne (by omega), up_ne (by omega), up_ne (by omega)]
theorem WO_note {tr what m num : Int32} {W : Wt} (h : WO W) : WO (dNote tr what m num W) := WO_u h (dNote_s h.2.1) (dNote_D h.2.1)
theorem c_note_32 {fa md : Int32} {B : Wt} {u : Mem} {W : Wt} (hX : XR_32 fa md B u W) (hW : WO W) (what m num : Int32) : ∃ u', FX3_note_32 what m num u = some u' ∧ XR_32 fa md B u' (dNote 1 what m num W) := by
  obtain ⟨j, hj, e⟩ := OkD_ln hW.2.1
  have e9 : u 23 9 = W 3 := gln_23 hX.1
  have e7 : u 23 7 = W 0 := gday_23 hX.1
  unfold FX3_note_32 dNote
  rw [hX.2.2.1, if_neg z1, if_neg z1, e9, e7]
  by_cases c : j = 150
  · rw [e, c, if_pos (by decide), if_pos (by decide)]
    exact ⟨u, rfl, hX⟩
  · have e15 : ¬ W 3 = 150 := by rw [e, show (150 : Int32) = nI 150 by decide, nn_eq (by omega) (by omega)]; exact c
    rw [if_neg (by rw [e, li_le (by decide) (by omega)]; show ¬ 150 ≤ j; omega), if_neg e15]
    unfold FX1_write_30
    have i0 : nI j * 4 = nI (4 * j) := by rw [show (4 : Int32) = nI 4 by decide, nI_mul, Nat.mul_comm]
    rw [e, if_neg (nI_pos (by omega)), if_neg (by rw [li_le (by decide) (by omega)]; show ¬ 150 ≤ j; omega), i0, show nI (4 * j) + 1 = nI (4 * j + 1) from nI_add _ 1, show nI (4 * j) + 2 = nI (4 * j + 2) from nI_add _ 2, show nI (4 * j) + 3 = nI (4 * j + 3) from nI_add _ 3, w_ok (by omega) (by omega), b_some, w_ok (by omega) (by omega), b_some, w_ok (by omega) (by omega), b_some, w_ok (by omega) (by omega), b_some, b_some, b_some, mu_eq u, mu_ms, mu_ms, mu_ms, ms_ne (by decide), e9, nt_nI (by omega), e]
    refine ⟨_, rfl, ?_⟩
    have s1 : ∀ P : Wt, XR_32 fa md B u W → CR 23 (mset u 31 P) W := fun P h => ⟨TR_cg h.1.1 (fun i hi => ms_ne (by omega)), LC_cg h.1.2.1 (fun i hi => ms_ne (by omega)), BR_cg h.1.2.2 (fun i hi => ms_ne (by omega))⟩
    have hT := hW.1
    have t1 := OkT_W (s78_u (W := W) (k := 300 + 4 * j) (x := W 0) (by omega)) hT
    have t2 := OkT_W (s78_u (k := 300 + 4 * j + 1) (x := what) (by omega)) t1
    have t3 := OkT_W (s78_u (k := 300 + 4 * j + 2) (x := m) (by omega)) t2
    have t4 := OkT_W (s78_u (k := 300 + 4 * j + 3) (x := num) (by omega)) t3
    refine ⟨CR_f (Or.inl rfl) (CR_hi (CR_hi (CR_hi (CR_hi (s1 _ hX) hT (by omega) _) t1 (by omega) _) t2 (by omega) _) t3 (by omega) _) t4 (by omega) _, fun i hi => ?_, by rw [m_ne (by decide), ms_ne (by decide)]; exact hX.2.2.1, by rw [m_ne (by decide), ms_ne (by decide)]; exact hX.2.2.2⟩
    rw [m_ne (by decide), ms_eq, up_ne (show 300 + i ≠ 3 by omega)]
    exact up2 (by omega) (fun c3 => up2 (by omega) (fun c2 => up2 (by omega) (fun c1 => up2 (by omega) (fun c0 => hX.2.1 i hi))))
theorem c_note_104 {fa md : Int32} {B : Wt} {u : Mem} {W : Wt} (hX : XR_104 fa md B u W) (hW : WO W) (what m num : Int32) : ∃ u', FX3_note_104 what m num u = some u' ∧ XR_104 fa md B u' (dNote 0 what m num W) := by
  unfold FX3_note_104 dNote
  rw [hX.2.1, if_pos rfl, if_pos rfl]
  exact ⟨u, rfl, hX⟩
/-- how the model stands -/
def MR (M : Wt) (u : Mem) (W : Wt) : Prop := u 147 = W ∧ u 146 = M
theorem MR_s {M : Wt} {u u' : Mem} {W : Wt} (h : MR M u W) (s : FrL [155, 156] u u') : MR M u' W := ⟨by rw [s 147 (by decide)]; exact h.1, by rw [s 146 (by decide)]; exact h.2⟩
theorem MR_u {M : Wt} {u : Mem} {W : Wt} (h : MR M u W) (k : Nat) (x : Int32) : MR M (mupd u 147 k x) (upd W k x) := ⟨by rw [m_eq, h.1], by rw [m_ne (by decide)]; exact h.2⟩
theorem m_note {M : Wt} {u : Mem} {W : Wt} (hM : MR M u W) (hW : WO W) (what m num : Int32) : ∃ u', FX12_notes_146 what m num u = some u' ∧ MR M u' (dNote (M 28) what m num W) := by
  obtain ⟨j, hj, e⟩ := OkD_ln hW.2.1
  unfold FX12_notes_146 dNote
  rw [hM.2, hM.1]
  by_cases c0 : M 28 = 0
  · rw [if_pos c0, if_pos c0]; exact ⟨u, rfl, hM⟩
  · rw [if_neg c0, if_neg c0]
    by_cases c : W 3 = 150
    · rw [if_pos c, if_pos c]; exact ⟨u, rfl, hM⟩
    · rw [if_neg c, if_neg c]
      have c' : j ≠ 150 := by rw [e, show (150 : Int32) = nI 150 by decide, nn_eq (by omega) (by omega)] at c; exact c
      have i0 : (300 : Int32) + (4 * nI j) = nI (300 + 4 * j) := by rw [show (4 : Int32) = nI 4 by decide, nI_mul]; exact nI_add 300 (4 * j)
      rw [e, i0, show nI (300 + 4 * j) + 1 = nI (300 + 4 * j + 1) from nI_add _ 1, show nI (300 + 4 * j) + 2 = nI (300 + 4 * j + 2) from nI_add _ 2, show nI (300 + 4 * j) + 3 = nI (300 + 4 * j + 3) from nI_add _ 3, wb (by omega) (by omega), wb (by omega) (by omega), wb (by omega) (by omega), wb (by omega) (by omega), b_some, nt_nI (by omega)]
      refine ⟨_, rfl, ?_⟩
      have h4 := MR_u (MR_u (MR_u (MR_u hM (300 + 4 * j) (W 0)) (300 + 4 * j + 1) what) (300 + 4 * j + 2) m) (300 + 4 * j + 3) num
      have h5 := MR_u h4 3 (nI j + 1)
      rw [h4.1, up_ne (by omega), up_ne (by omega), up_ne (by omega), up_ne (by omega), e]
      exact h5
/-- a loop that changes what stands for a state -/
theorem lp_w {S : Type} (L : Nat → Int32 → Mem → Option Mem) (n : Nat) (R : Mem → S → Prop) (f : Nat → S → S) (k : Mem → Option Mem) (hs : ∀ i u s, i < n → R u s → ∃ u', R u' (f i s) ∧ ∀ F, L (F + 1) (nI i) u = L F (nI (i + 1)) u') (he : ∀ u s F, R u s → L (F + 1) (nI n) u = k u) {F : Nat} {u : Mem} {s : S} (hF : n < F) (hR : R u s) : ∃ u', R u' (fo n f s) ∧ L F 0 u = k u' := by
  have h : ∀ (m F i : Nat) (u : Mem), i + m = n → m < F → R u (fo i f s) → ∃ u', R u' (fo n f s) ∧ L F (nI i) u = k u' := by
    intro m
    induction m with
    | zero =>
      intro F i u hi hF hR
      obtain ⟨F', rfl⟩ : ∃ F', F = F' + 1 := ⟨F - 1, by omega⟩
      have hi' : i = n := by omega
      subst hi'
      exact ⟨u, hR, he u _ F' hR⟩
    | succ m ih =>
      intro F i u hi hF hR
      obtain ⟨F', rfl⟩ : ∃ F', F = F' + 1 := ⟨F - 1, by omega⟩
      obtain ⟨u', hR', e⟩ := hs i u _ (by omega) hR
      rw [e F']
      exact ih F' (i + 1) u' (by omega) (by omega) hR'
  rw [← nI_0]
  exact h n F 0 u (by omega) hF hR

