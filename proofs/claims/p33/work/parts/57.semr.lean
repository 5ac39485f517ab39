/-! what is told: numbers -/
def sL (W W' : Wt) : Prop := W' 84 = W 84 ∧ ∀ k, 900 ≤ k → W' k = W k
theorem opsW_L {W W' : Wt} (s : sL W W') : ∀ (k p : Nat), opsW W' p k = opsW W p k
  | 0, _ => rfl
  | k + 1, p => by
    show (_, _) :: _ = (_, _) :: _
    rw [s.2 _ (by omega), s.2 _ (by omega), opsW_L s k (p + 1)]
theorem lpk_L {W W' : Wt} (s : sL W W') (i : Nat) : lp W' i = lp W i ∧ lk W' i = lk W i ∧ ll W' i = ll W i := by
  unfold lp lk ll
  rw [s.2 _ (by omega), s.2 _ (by omega), s.2 _ (by omega)]
  exact ⟨rfl, rfl, rfl⟩
theorem okW_L {W W' : Wt} (s : sL W W') (p k : Nat) : okW W' p k = okW W p k := by
  unfold okW
  apply propext
  constructor <;> intro h j hj
  · have := h j hj
    rw [s.2 _ (by omega), s.2 _ (by omega)] at this
    exact this
  · rw [s.2 _ (by omega), s.2 _ (by omega)]
    exact h j hj
theorem LW_L {W W' : Wt} (s : sL W W') (h : LW W) : LW W' := by
  refine ⟨by rw [s.1]; exact h.1, fun i hi => ?_⟩
  rw [s.1] at hi
  have h1 := h.2 i hi
  obtain ⟨a, b, c⟩ := lpk_L s i
  unfold LW1 at h1 ⊢
  rw [a, b, c, s.2 _ (by omega), s.2 _ (by omega), s.2 _ (by omega), s.2 _ (by omega), okW_L s, opsW_L s, opsW_L s]
  exact h1
theorem LC_L {t : Nat} {u : Mem} {W W' : Wt} (s : sL W W') (h : LC t u W) : LC t u W' := by
  refine ⟨by rw [s.1]; exact h.1, fun i hi => ?_⟩
  rw [s.1] at hi
  have h1 := h.2 i hi
  obtain ⟨a, b, c⟩ := lpk_L s i
  unfold LC1 at h1 ⊢
  rw [a, b, c, s.2 _ (by omega), opsW_L s, opsW_L s]
  exact h1
def e5 (W W' : Wt) : Prop := ∀ k, k < 79 ∨ (84 ≤ k ∧ k < 126) ∨ 142 ≤ k → W' k = W k
theorem OkT_5 {W W' : Wt} (e : e5 W W') (h : OkT W) (k1 : ∃ j, j ≤ 99 ∧ W' 79 = nI j) (k2 : ∃ j, j ≤ 9 ∧ W' 80 = nI j) (k3 : ∃ j, j ≤ 99 ∧ W' 81 = nI j) (k4 : ∀ c, c < 2 → ∃ j, j ≤ 9 ∧ W' (82 + c) = nI j) (k5 : ∀ c, c < 16 → W' (126 + c) = 0 ∨ W' (126 + c) = 1) : OkT W' := by
  have hn : nmen W' = nmen W := by unfold nmen; rw [e 78 (by omega)]
  have e85 := e 85 (by omega)
  have e86 := e 86 (by omega)
  have e87 := e 87 (by omega)
  have e88 := e 88 (by omega)
  refine ⟨by rw [e 78 (by omega), hn]; exact OkT_n h, fun m hm => by rw [e _ (by omega)]; exact OkT_co h m hm, fun m hm => by rw [e _ (by omega)]; exact OkT_ag h m hm, fun m hm => by rw [e _ (by omega), hn]; exact OkT_le h m hm, k1, k2, k3, k4, k5, by rw [e85]; exact OkT_tn h, by rw [e86]; exact OkT_wn h, by rw [e87]; exact OkT_on h, by rw [e88]; exact OkT_sn h, fun i hi => ?_, fun i hi => ?_, fun i hi => ?_⟩
  · rw [e85] at hi
    rw [e _ (by omega), e _ (by omega), hn]
    exact OkT_te h i hi
  · rw [e86] at hi
    rw [e _ (by omega), e _ (by omega)]
    exact OkT_we h i hi
  · rw [e88] at hi
    rw [e _ (by omega)]
    exact OkT_sg h i hi
theorem WO_5 {W W' : Wt} (e : e5 W W') (h : WO W) (hT : OkT W') : WO W' := ⟨hT, OkD_cg (fun k hk => e k (by omega)) h.2.1, LW_L ⟨e 84 (by omega), fun k hk => e k (by omega)⟩ h.2.2⟩
theorem XD_5 {v v' : Mem} {W W' : Wt} (e : e5 W W') (h : XD v W) (ec : ∀ c, c ≠ 1 → c ≠ 6 → v' c = v c) (e1 : ∀ k, k ≠ 7 → k ≠ 8 → k ≠ 9 → k ≠ 10 → v' 1 k = v 1 k) (k1 : v' 1 7 = W' 79) (k2 : v' 1 8 = W' 80) (k3 : v' 1 9 = W' 81) (k4 : ∀ c, c < 2 → v' 6 c = W' (82 + c)) (k5 : v' 1 10 = sHills W') : XD v' W' := by
  have hT := h.1.1
  refine ⟨⟨⟨?_, k1, k2, k3, k5, ?_, ?_, fun m hm => ?_, fun m hm => ?_, fun m hm => ?_, fun m hm => ?_, k4, fun f hf => ?_, ?_, fun i hi => ?_, fun i hi => ?_, fun i hi => ?_, ?_, fun i hi => ?_, fun i hi => ?_, fun i hi => ?_⟩, ?_, ?_⟩, ?_, ?_, ?_⟩
  · rw [e1 0 (by omega) (by omega) (by omega) (by omega), e _ (by omega)]; exact TR_men hT
  · rw [e1 11 (by omega) (by omega) (by omega) (by omega), e _ (by omega)]; exact TR_tl hT
  · rw [e1 12 (by omega) (by omega) (by omega) (by omega), e _ (by omega)]; exact TR_wl hT
  · rw [ec _ (by omega) (by omega), e _ (by omega)]; exact TR_co hT m hm
  · rw [ec _ (by omega) (by omega), e _ (by omega)]; exact TR_ag hT m hm
  · rw [ec _ (by omega) (by omega), e _ (by omega)]; exact TR_le hT m hm
  · rw [ec _ (by omega) (by omega)]
    refine (TR_te hT m hm).trans (Eq.symm (fo_n (by rw [e 85 (by omega)]) (fun i z hi => ?_)))
    rw [e _ (by omega), e _ (by omega)]
  · rw [ec _ (by omega) (by omega)]
    refine (TR_we hT f hf).trans (Eq.symm (fo_n (by rw [e 86 (by omega)]) (fun i z hi => ?_)))
    rw [e _ (by omega), e _ (by omega)]
  · rw [ec _ (by omega) (by omega), e _ (by omega)]; exact TR_ol hT
  · rw [e 87 (by omega)] at hi; rw [ec _ (by omega) (by omega), e _ (by omega)]; exact TR_od hT i hi
  · rw [e 87 (by omega)] at hi; rw [ec _ (by omega) (by omega), e _ (by omega)]; exact TR_oc hT i hi
  · rw [e 87 (by omega)] at hi; rw [ec _ (by omega) (by omega), e _ (by omega)]; exact TR_or hT i hi
  · rw [ec _ (by omega) (by omega), e _ (by omega)]; exact TR_sl hT
  · rw [e 88 (by omega)] at hi; rw [ec _ (by omega) (by omega), e _ (by omega)]; exact TR_sd hT i hi
  · rw [e 88 (by omega)] at hi; rw [ec _ (by omega) (by omega), e _ (by omega)]; exact TR_sc hT i hi
  · rw [e 88 (by omega)] at hi; rw [ec _ (by omega) (by omega), e _ (by omega)]; exact TR_sg hT i hi
  · exact LC_L ⟨e 84 (by omega), fun k hk => e k (by omega)⟩ (LC_cg h.1.2.1 (fun j hj => ec _ (by omega) (by omega)))
  · exact BR_W (fun k hk => e k (by omega)) (BR_cg h.1.2.2 (fun j hj => ec _ (by omega) (by omega)))
  · intro i hi; rw [ec _ (by omega) (by omega), e _ (by omega)]; exact h.2.1 i hi
  · rw [ec _ (by omega) (by omega)]; exact h.2.2.1
  · rw [ec _ (by omega) (by omega)]; exact h.2.2.2
/-- a told number in both -/
theorem SQ_5 {v v' w : Mem} {k : Nat} {x : Int32} (h : SP v w) (e : e5 (w 147) (upd (w 147) k x)) (hT : OkT (upd (w 147) k x)) (ec : ∀ c, c ≠ 1 → c ≠ 6 → v' c = v c) (hX : XD v' (upd (w 147) k x)) : SQ v' (mupd w 147 k x) := by
  obtain ⟨a, b, c, d, f, g⟩ := SP_Q h
  unfold SQ
  rw [m_eq w, m_ne (show 146 ≠ 147 by decide), m_ne (show 148 ≠ 147 by decide), m_ne (show 154 ≠ 147 by decide)]
  exact ⟨WO_5 e a hT, hX, by rw [ec 104 (by omega) (by omega)]; exact c, by rw [ec 52 (by omega) (by omega)]; exact d, IMG_cg (fun c hc => ec c (by omega) (by omega)) f, RD_cg (ec 34 (by omega) (by omega)) (ec 35 (by omega) (by omega)) g⟩
theorem set_1 (v : Mem) : FX11_set_0_b110 1 v = some (1, mupd v 52 2 0) := by
  unfold FX11_set_0_b110 FX11_set_0_b122 bchk
  rw [if_neg z1, c_forget, b_some, if_pos (Or.inr rfl), b_some]
theorem set_0 (v : Mem) : FX11_set_0_b110 0 v = some (0, v) := by
  unfold FX11_set_0_b110 FX11_set_0_b122 bchk
  rw [if_pos rfl, if_pos (Or.inl rfl), b_some]
theorem bchk_i (P : Prop) [Decidable P] {β : Type} (f : Int32 → Option β) : (bchk (if P then 1 else 0)).bind f = f (if P then 1 else 0) := by
  unfold bchk
  by_cases h : P
  · rw [if_pos h, if_pos (Or.inr rfl), b_some]
  · rw [if_neg h, if_pos (Or.inl rfl), b_some]
theorem i32_99 {x : Int32} : (0 ≤ x ∧ x ≤ 99) = (∃ j, j ≤ 99 ∧ x = nI j) := in_n (n := 99) (by decide)
theorem i32_9 {x : Int32} : (0 ≤ x ∧ x ≤ 9) = (∃ j, j ≤ 9 ∧ x = nI j) := in_n (n := 9) (by decide)
theorem i32_1 {x : Int32} : (0 ≤ x ∧ x ≤ 1) = (∃ j, j ≤ 1 ∧ x = nI j) := in_n (n := 1) (by decide)
theorem i32_15 {x : Int32} : (0 ≤ x ∧ x ≤ 15) = (∃ j, j ≤ 15 ∧ x = nI j) := in_n (n := 15) (by decide)
theorem i32_999 {x : Int32} : (0 ≤ x ∧ x ≤ 999) = (∃ j, j ≤ 999 ∧ x = nI j) := in_n (n := 999) (by decide)
theorem not_in {x b : Int32} (h : ¬ (0 ≤ x ∧ x ≤ b)) : x < 0 ∨ (¬ x < 0 ∧ ¬ x ≤ b) := by
  by_cases c : x < 0
  · exact Or.inl c
  · exact Or.inr ⟨c, fun h2 => h ⟨by rw [← Int32.not_lt]; exact c, h2⟩⟩
theorem A_set0 (q x : Int32) : A2 (FX11_set_0 0 q x) (FX12_set_146 0 q x) := by
  intro v w h
  have hm : FX12_canSet_146 0 q x w = some (if 0 ≤ x ∧ x ≤ 99 then 1 else 0) := by
    unfold FX12_canSet_146
    first | rw [if_pos (show (0 : Int32) = 0 by decide)] | rw [if_neg (show ¬ (0 : Int32) = 0 by decide), if_pos (show (0 : Int32) = 1 by decide)] | rw [if_neg (show ¬ (0 : Int32) = 0 by decide), if_neg (show ¬ (0 : Int32) = 1 by decide), if_pos (show (0 : Int32) = 2 by decide)]
    rw [m_in, b_some, bchk_i]
  have hp : FX9_put_1 0 q x v = if 0 ≤ x ∧ x ≤ 99 then some (1, mupd v 1 7 x) else some (0, v) := by
    unfold FX9_put_1
    rw [show FX9_mostOf 0 = some 99 from rfl, b_some]
    by_cases c : 0 ≤ x ∧ x ≤ 99
    · rw [if_neg (by rw [Int32.not_lt]; exact c.1), if_pos c.2, if_pos c]
      first | rw [if_pos (show (0 : Int32) = 0 by decide), b_some] | rw [if_neg (show ¬ (0 : Int32) = 0 by decide), if_pos (show (0 : Int32) = 1 by decide), b_some] | rw [if_neg (show ¬ (0 : Int32) = 0 by decide), if_neg (show ¬ (0 : Int32) = 1 by decide), if_pos (show (0 : Int32) = 2 by decide), b_some]
    · rw [if_neg c]
      rcases not_in c with c1 | ⟨c1, c2⟩
      · rw [if_pos c1]
      · rw [if_neg c1, if_neg c2]
  unfold FX11_set_0 FX12_set_146
  rw [if_neg (by decide), if_neg (by decide), hm, hp, b_some]
  by_cases c : 0 ≤ x ∧ x ≤ 99
  · rw [if_pos c, if_pos c, if_neg z1]
    have hq : FX12_placeOf 0 q = some (nI 79) := rfl
    rw [b2_some, set_1, hq, b_some, wb (by omega) (by omega), m_forget, b_some]
    refine ⟨1, _, _, rfl, rfl, SQ_f ?_⟩
    rw [i32_99] at c
    obtain ⟨a, b, -⟩ := id h
    have e : e5 (w 147) (upd (w 147) 79 x) := fun k hk => up_ne (by omega)
    have o := a.1
    refine SQ_5 h e (OkT_5 e o ?_ ?_ ?_ (fun c hc => by rw [up_ne (by omega)]; exact OkT_wa o c hc) (fun c hc => by rw [up_ne (by omega)]; exact OkT_hi o c hc)) (fun c h1 h2 => m_ne h1) (XD_5 e b (fun c h1 h2 => m_ne h1) (fun k h1 h2 h3 h4 => by rw [m_eq, up_ne (by omega)]) ?_ ?_ ?_ (fun c hc => by rw [m_ne (by decide), up_ne (by omega)]; exact gwa b.1 hc) ?_)
    · first | exact c | (rw [up_ne (by omega)]; exact OkT_keep o)
    · first | exact c | (rw [up_ne (by omega)]; exact OkT_rain o)
    · first | (rw [up_ne (by omega)]; exact OkT_tea o) | exact c
    · rw [m_eq]; first | (rw [up_eq, up_eq]; done) | (rw [up_ne (by omega), up_ne (by omega)]; exact gkeep b.1)
    · rw [m_eq]; first | (rw [up_eq, up_eq]; done) | (rw [up_ne (by omega), up_ne (by omega)]; exact TR_rain b.1.1)
    · rw [m_eq]; first | (rw [up_eq, up_eq]; done) | (rw [up_ne (by omega), up_ne (by omega)]; exact gtea b.1)
    · rw [m_eq, up_ne (by omega)]
      refine (ghi b.1).trans (Eq.symm (fo_n rfl (fun i z hi => ?_)))
      rw [up_ne (by omega)]
  · rw [if_neg c, if_neg c, if_pos rfl]
    exact ⟨0, v, w, by rw [b2_some, set_0], rfl, h⟩
theorem A_set1 (q x : Int32) : A2 (FX11_set_0 1 q x) (FX12_set_146 1 q x) := by
  intro v w h
  have hm : FX12_canSet_146 1 q x w = some (if 0 ≤ x ∧ x ≤ 9 then 1 else 0) := by
    unfold FX12_canSet_146
    first | rw [if_pos (show (1 : Int32) = 0 by decide)] | rw [if_neg (show ¬ (1 : Int32) = 0 by decide), if_pos (show (1 : Int32) = 1 by decide)] | rw [if_neg (show ¬ (1 : Int32) = 0 by decide), if_neg (show ¬ (1 : Int32) = 1 by decide), if_pos (show (1 : Int32) = 2 by decide)]
    rw [m_in, b_some, bchk_i]
  have hp : FX9_put_1 1 q x v = if 0 ≤ x ∧ x ≤ 9 then some (1, mupd v 1 8 x) else some (0, v) := by
    unfold FX9_put_1
    rw [show FX9_mostOf 1 = some 9 from rfl, b_some]
    by_cases c : 0 ≤ x ∧ x ≤ 9
    · rw [if_neg (by rw [Int32.not_lt]; exact c.1), if_pos c.2, if_pos c]
      first | rw [if_pos (show (1 : Int32) = 0 by decide), b_some] | rw [if_neg (show ¬ (1 : Int32) = 0 by decide), if_pos (show (1 : Int32) = 1 by decide), b_some] | rw [if_neg (show ¬ (1 : Int32) = 0 by decide), if_neg (show ¬ (1 : Int32) = 1 by decide), if_pos (show (1 : Int32) = 2 by decide), b_some]
    · rw [if_neg c]
      rcases not_in c with c1 | ⟨c1, c2⟩
      · rw [if_pos c1]
      · rw [if_neg c1, if_neg c2]
  unfold FX11_set_0 FX12_set_146
  rw [if_neg (by decide), if_neg (by decide), hm, hp, b_some]
  by_cases c : 0 ≤ x ∧ x ≤ 9
  · rw [if_pos c, if_pos c, if_neg z1]
    have hq : FX12_placeOf 1 q = some (nI 80) := rfl
    rw [b2_some, set_1, hq, b_some, wb (by omega) (by omega), m_forget, b_some]
    refine ⟨1, _, _, rfl, rfl, SQ_f ?_⟩
    rw [i32_9] at c
    obtain ⟨a, b, -⟩ := id h
    have e : e5 (w 147) (upd (w 147) 80 x) := fun k hk => up_ne (by omega)
    have o := a.1
    refine SQ_5 h e (OkT_5 e o ?_ ?_ ?_ (fun c hc => by rw [up_ne (by omega)]; exact OkT_wa o c hc) (fun c hc => by rw [up_ne (by omega)]; exact OkT_hi o c hc)) (fun c h1 h2 => m_ne h1) (XD_5 e b (fun c h1 h2 => m_ne h1) (fun k h1 h2 h3 h4 => by rw [m_eq, up_ne (by omega)]) ?_ ?_ ?_ (fun c hc => by rw [m_ne (by decide), up_ne (by omega)]; exact gwa b.1 hc) ?_)
    · first | exact c | (rw [up_ne (by omega)]; exact OkT_keep o)
    · first | exact c | (rw [up_ne (by omega)]; exact OkT_rain o)
    · first | (rw [up_ne (by omega)]; exact OkT_tea o) | exact c
    · rw [m_eq]; first | (rw [up_eq, up_eq]; done) | (rw [up_ne (by omega), up_ne (by omega)]; exact gkeep b.1)
    · rw [m_eq]; first | (rw [up_eq, up_eq]; done) | (rw [up_ne (by omega), up_ne (by omega)]; exact TR_rain b.1.1)
    · rw [m_eq]; first | (rw [up_eq, up_eq]; done) | (rw [up_ne (by omega), up_ne (by omega)]; exact gtea b.1)
    · rw [m_eq, up_ne (by omega)]
      refine (ghi b.1).trans (Eq.symm (fo_n rfl (fun i z hi => ?_)))
      rw [up_ne (by omega)]
  · rw [if_neg c, if_neg c, if_pos rfl]
    exact ⟨0, v, w, by rw [b2_some, set_0], rfl, h⟩
theorem A_set2 (q x : Int32) : A2 (FX11_set_0 2 q x) (FX12_set_146 2 q x) := by
  intro v w h
  have hm : FX12_canSet_146 2 q x w = some (if 0 ≤ x ∧ x ≤ 99 then 1 else 0) := by
    unfold FX12_canSet_146
    first | rw [if_pos (show (2 : Int32) = 0 by decide)] | rw [if_neg (show ¬ (2 : Int32) = 0 by decide), if_pos (show (2 : Int32) = 1 by decide)] | rw [if_neg (show ¬ (2 : Int32) = 0 by decide), if_neg (show ¬ (2 : Int32) = 1 by decide), if_pos (show (2 : Int32) = 2 by decide)]
    rw [m_in, b_some, bchk_i]
  have hp : FX9_put_1 2 q x v = if 0 ≤ x ∧ x ≤ 99 then some (1, mupd v 1 9 x) else some (0, v) := by
    unfold FX9_put_1
    rw [show FX9_mostOf 2 = some 99 from rfl, b_some]
    by_cases c : 0 ≤ x ∧ x ≤ 99
    · rw [if_neg (by rw [Int32.not_lt]; exact c.1), if_pos c.2, if_pos c]
      first | rw [if_pos (show (2 : Int32) = 0 by decide), b_some] | rw [if_neg (show ¬ (2 : Int32) = 0 by decide), if_pos (show (2 : Int32) = 1 by decide), b_some] | rw [if_neg (show ¬ (2 : Int32) = 0 by decide), if_neg (show ¬ (2 : Int32) = 1 by decide), if_pos (show (2 : Int32) = 2 by decide), b_some]
    · rw [if_neg c]
      rcases not_in c with c1 | ⟨c1, c2⟩
      · rw [if_pos c1]
      · rw [if_neg c1, if_neg c2]
  unfold FX11_set_0 FX12_set_146
  rw [if_neg (by decide), if_neg (by decide), hm, hp, b_some]
  by_cases c : 0 ≤ x ∧ x ≤ 99
  · rw [if_pos c, if_pos c, if_neg z1]
    have hq : FX12_placeOf 2 q = some (nI 81) := rfl
    rw [b2_some, set_1, hq, b_some, wb (by omega) (by omega), m_forget, b_some]
    refine ⟨1, _, _, rfl, rfl, SQ_f ?_⟩
    rw [i32_99] at c
    obtain ⟨a, b, -⟩ := id h
    have e : e5 (w 147) (upd (w 147) 81 x) := fun k hk => up_ne (by omega)
    have o := a.1
    refine SQ_5 h e (OkT_5 e o ?_ ?_ ?_ (fun c hc => by rw [up_ne (by omega)]; exact OkT_wa o c hc) (fun c hc => by rw [up_ne (by omega)]; exact OkT_hi o c hc)) (fun c h1 h2 => m_ne h1) (XD_5 e b (fun c h1 h2 => m_ne h1) (fun k h1 h2 h3 h4 => by rw [m_eq, up_ne (by omega)]) ?_ ?_ ?_ (fun c hc => by rw [m_ne (by decide), up_ne (by omega)]; exact gwa b.1 hc) ?_)
    · first | exact c | (rw [up_ne (by omega)]; exact OkT_keep o)
    · first | exact c | (rw [up_ne (by omega)]; exact OkT_rain o)
    · first | (rw [up_ne (by omega)]; exact OkT_tea o) | exact c
    · rw [m_eq]; first | (rw [up_eq, up_eq]; done) | (rw [up_ne (by omega), up_ne (by omega)]; exact gkeep b.1)
    · rw [m_eq]; first | (rw [up_eq, up_eq]; done) | (rw [up_ne (by omega), up_ne (by omega)]; exact TR_rain b.1.1)
    · rw [m_eq]; first | (rw [up_eq, up_eq]; done) | (rw [up_ne (by omega), up_ne (by omega)]; exact gtea b.1)
    · rw [m_eq, up_ne (by omega)]
      refine (ghi b.1).trans (Eq.symm (fo_n rfl (fun i z hi => ?_)))
      rw [up_ne (by omega)]
  · rw [if_neg c, if_neg c, if_pos rfl]
    exact ⟨0, v, w, by rw [b2_some, set_0], rfl, h⟩
theorem A_set3 (q x : Int32) : A2 (FX11_set_0 3 q x) (FX12_set_146 3 q x) := by
  intro v w h
  have hm : FX12_canSet_146 3 q x w = some (if (q = 0 ∨ q = 1) ∧ (0 ≤ x ∧ x ≤ 9) then 1 else 0) := by
    unfold FX12_canSet_146
    rw [if_neg (show ¬ (3 : Int32) = 0 by decide), if_neg (show ¬ (3 : Int32) = 1 by decide), if_neg (show ¬ (3 : Int32) = 2 by decide), if_pos rfl, m_co, m_in, b_some, b_some]
    by_cases c1 : q = 0 ∨ q = 1
    · rw [if_pos c1, if_neg z1]
      by_cases c2 : 0 ≤ x ∧ x ≤ 9
      · rw [if_pos c2, if_neg z1, if_pos ⟨c1, c2⟩]
      · rw [if_neg c2, if_pos rfl, if_neg (fun h => c2 h.2)]
    · rw [if_neg c1, if_pos rfl, if_neg (fun h => c1 h.1)]
  have hp : FX9_put_1 3 q x v = if (q = 0 ∨ q = 1) ∧ (0 ≤ x ∧ x ≤ 9) then some (1, mupd v 6 (nt q) x) else some (0, v) := by
    unfold FX9_put_1 FX9_putWant_1
    rw [show FX9_mostOf 3 = some 9 from rfl, b_some, if_neg (show ¬ (3 : Int32) = 0 by decide), if_neg (show ¬ (3 : Int32) = 1 by decide), if_neg (show ¬ (3 : Int32) = 2 by decide), if_pos rfl, c_co, b_some]
    by_cases c : 0 ≤ x ∧ x ≤ 9
    · rw [if_neg (by rw [Int32.not_lt]; exact c.1), if_pos c.2]
      by_cases c1 : q = 0 ∨ q = 1
      · obtain ⟨i, hi, rfl⟩ := co_n c1
        rw [if_pos c1, if_neg z1, wb hi (by omega), b2_some, if_pos ⟨c1, c⟩, nt_nI (by omega)]
        rfl
      · rw [if_neg c1, if_pos rfl, b2_some, if_neg (fun h => c1 h.1)]
        rfl
    · rw [if_neg (show ¬ ((q = 0 ∨ q = 1) ∧ (0 ≤ x ∧ x ≤ 9)) from fun h => c h.2)]
      rcases not_in c with c1 | ⟨c1, c2⟩
      · rw [if_pos c1]
      · rw [if_neg c1, if_neg c2]
  unfold FX11_set_0 FX12_set_146
  rw [if_neg (by decide), if_neg (by decide), hm, hp, b_some]
  by_cases c : (q = 0 ∨ q = 1) ∧ (0 ≤ x ∧ x ≤ 9)
  · rw [if_pos c, if_pos c, if_neg z1]
    obtain ⟨i, hi, rfl⟩ := co_n c.1
    have hq : FX12_placeOf 3 (nI i) = some (82 + nI i) := rfl
    rw [b2_some, set_1, hq, b_some, wl (by show 82 + i < _; omega) (by omega), m_forget, b_some, nt_nI (by omega)]
    refine ⟨1, _, _, rfl, rfl, SQ_f ?_⟩
    have c2 := c.2
    rw [i32_9] at c2
    obtain ⟨a, b, -⟩ := id h
    have e : e5 (w 147) (upd (w 147) (82 + i) x) := fun k hk => up_ne (by omega)
    have o := a.1
    refine SQ_5 h e (OkT_5 e o (by rw [up_ne (by omega)]; exact OkT_keep o) (by rw [up_ne (by omega)]; exact OkT_rain o) (by rw [up_ne (by omega)]; exact OkT_tea o) (fun c hc => ?_) (fun c hc => by rw [up_ne (by omega)]; exact OkT_hi o c hc)) (fun c h1 h2 => m_ne h2) (XD_5 e b (fun c h1 h2 => m_ne h2) (fun k h1 h2 h3 h4 => by rw [m_ne (by decide)]) (by rw [m_ne (by decide), up_ne (by omega)]; exact gkeep b.1) (by rw [m_ne (by decide), up_ne (by omega)]; exact TR_rain b.1.1) (by rw [m_ne (by decide), up_ne (by omega)]; exact gtea b.1) (fun c hc => ?_) ?_)
    · by_cases z : c = i
      · subst z; rw [up_eq]; exact c2
      · rw [up_ne (by omega)]; exact OkT_wa o c hc
    · rw [m_eq]
      by_cases z : c = i
      · subst z; rw [up_eq, up_eq]
      · rw [up_ne z, up_ne (by omega)]; exact gwa b.1 hc
    · rw [m_ne (by decide)]
      refine (ghi b.1).trans (Eq.symm (fo_n rfl (fun j z hj => ?_)))
      rw [up_ne (by omega)]
  · rw [if_neg c, if_neg c, if_pos rfl]
    exact ⟨0, v, w, by rw [b2_some, set_0], rfl, h⟩
def hillz (z : Int32) (i : Nat) (x : Int32) : Int32 := if x = 1 then z ||| ((1 : Int32) <<< (nI i &&& 31)) else z &&& (((1 : Int32) <<< (nI i &&& 31)) ^^^ (-1))
theorem A_set4 (q x : Int32) : A2 (FX11_set_0 4 q x) (FX12_set_146 4 q x) := by
  intro v w h
  have hm : FX12_canSet_146 4 q x w = some (if (0 ≤ q ∧ q ≤ 15) ∧ (0 ≤ x ∧ x ≤ 1) then 1 else 0) := by
    unfold FX12_canSet_146
    rw [if_neg (show ¬ (4 : Int32) = 0 by decide), if_neg (show ¬ (4 : Int32) = 1 by decide), if_neg (show ¬ (4 : Int32) = 2 by decide), if_neg (show ¬ (4 : Int32) = 3 by decide), if_pos rfl, m_in, m_in, b_some, b_some]
    by_cases c1 : 0 ≤ q ∧ q ≤ 15
    · rw [if_pos c1, if_neg z1]
      by_cases c2 : 0 ≤ x ∧ x ≤ 1
      · rw [if_pos c2, if_neg z1, if_pos ⟨c1, c2⟩]
      · rw [if_neg c2, if_pos rfl, if_neg (fun h => c2 h.2)]
    · rw [if_neg c1, if_pos rfl, if_neg (fun h => c1 h.1)]
  have hp : FX9_put_1 4 q x v = if (0 ≤ q ∧ q ≤ 15) ∧ (0 ≤ x ∧ x ≤ 1) then some (1, mupd v 1 10 (hillz (v 1 10) (nt q) x)) else some (0, v) := by
    unfold FX9_put_1 FX9_putHill_1 FX9_putHill_1_b39
    rw [show FX9_mostOf 4 = some 1 from rfl, b_some, if_neg (show ¬ (4 : Int32) = 0 by decide), if_neg (show ¬ (4 : Int32) = 1 by decide), if_neg (show ¬ (4 : Int32) = 2 by decide), if_neg (show ¬ (4 : Int32) = 3 by decide), if_pos rfl]
    by_cases c : 0 ≤ x ∧ x ≤ 1
    · rw [if_neg (by rw [Int32.not_lt]; exact c.1), if_pos c.2]
      by_cases c1 : 0 ≤ q ∧ q ≤ 15
      · rw [if_pos (show (0 ≤ q ∧ q ≤ 15) ∧ (0 ≤ x ∧ x ≤ 1) from ⟨c1, c⟩)]
        have c1' := c1
        rw [i32_15] at c1
        obtain ⟨i, hi, rfl⟩ := c1
        rw [if_neg (nI_pos (by omega)), if_pos (by rw [lt_li (by decide) (by omega)]; show i < 16; omega), nt_nI (by omega)]
        unfold hillz
        by_cases c5 : x = 1
        · rw [if_pos c5, if_pos c5, b_some, b2_some]; rfl
        · rw [if_neg c5, if_neg c5, b_some, b2_some]; rfl
      · rw [if_neg (show ¬ ((0 ≤ q ∧ q ≤ 15) ∧ (0 ≤ x ∧ x ≤ 1)) from fun h => c1 h.1)]
        by_cases c5 : q < 0
        · rw [if_pos c5, b2_some]; rfl
        · rw [if_neg c5, if_neg, b2_some]
          · rfl
          · intro c6
            apply c1
            obtain ⟨j, hj, rfl⟩ := nI_of c5
            rw [lt_li (by decide) (by omega)] at c6
            have c6 : j < 16 := c6
            rw [i32_15]; exact ⟨j, by omega, rfl⟩
    · rw [if_neg (show ¬ ((0 ≤ q ∧ q ≤ 15) ∧ (0 ≤ x ∧ x ≤ 1)) from fun h => c h.2)]
      rcases not_in c with c1 | ⟨c1, c2⟩
      · rw [if_pos c1]
      · rw [if_neg c1, if_neg c2]
  unfold FX11_set_0 FX12_set_146
  rw [if_neg (by decide), if_neg (by decide), hm, hp, b_some]
  by_cases c : (0 ≤ q ∧ q ≤ 15) ∧ (0 ≤ x ∧ x ≤ 1)
  · rw [if_pos c, if_pos c, if_neg z1]
    obtain ⟨c1, c2⟩ := id c
    rw [i32_15] at c1
    rw [i32_1] at c2
    obtain ⟨i, hi, rfl⟩ := c1
    have hq : FX12_placeOf 4 (nI i) = some (126 + nI i) := rfl
    rw [b2_some, set_1, hq, b_some, wl (by show 126 + i < _; omega) (by omega), m_forget, b_some, nt_nI (by omega)]
    refine ⟨1, _, _, rfl, rfl, SQ_f ?_⟩
    obtain ⟨a, b, -⟩ := id h
    have e : e5 (w 147) (upd (w 147) (126 + i) x) := fun k hk => up_ne (by omega)
    have o := a.1
    have hx : x = 0 ∨ x = 1 := by
      obtain ⟨j, hj, rfl⟩ := c2
      rcases (by omega : j = 0 ∨ j = 1) with rfl | rfl
      · exact Or.inl rfl
      · exact Or.inr rfl
    have o2 : OkT (upd (w 147) (126 + i) x) := by
      refine OkT_5 e o (by rw [up_ne (by omega)]; exact OkT_keep o) (by rw [up_ne (by omega)]; exact OkT_rain o) (by rw [up_ne (by omega)]; exact OkT_tea o) (fun c hc => by rw [up_ne (by omega)]; exact OkT_wa o c hc) (fun c hc => ?_)
      by_cases z : c = i
      · subst z; rw [up_eq]; exact hx
      · rw [up_ne (by omega)]; exact OkT_hi o c hc
    refine SQ_5 h e o2 (fun c h1 h2 => m_ne h1) (XD_5 e b (fun c h1 h2 => m_ne h1) (fun k h1 h2 h3 h4 => by rw [m_eq, up_ne (by omega)]) (by rw [m_eq, up_ne (by omega), up_ne (by omega)]; exact gkeep b.1) (by rw [m_eq, up_ne (by omega), up_ne (by omega)]; exact TR_rain b.1.1) (by rw [m_eq, up_ne (by omega), up_ne (by omega)]; exact gtea b.1) (fun c hc => by rw [m_ne (by decide), up_ne (by omega)]; exact gwa b.1 hc) ?_)
    rw [m_eq, up_eq, ghi b.1]
    apply tb_ext
    intro k hk
    have r1 := hills_n o2 16 (by omega) k hk
    have r0 := hills_n o 16 (by omega) k hk
    have r1 : tb (sHills (upd (w 147) (126 + i) x)) k = decide (k < 16 ∧ upd (w 147) (126 + i) x (126 + k) = 1) := r1
    have r0 : tb (sHills (w 147)) k = decide (k < 16 ∧ w 147 (126 + k) = 1) := r0
    rw [r1]
    unfold hillz
    rw [nI_shm (by omega)]
    rcases hx with rfl | rfl
    · rw [if_neg (by decide), tb_and, tb_xor, tb_m1 hk, tb_1s (by omega) hk, r0]
      by_cases z : k = i
      · subst z; rw [up_eq]; simp
      · rw [up_ne (by omega)]; simp [z]
    · rw [if_pos rfl, tb_or, tb_1s (by omega) hk, r0]
      by_cases z : k = i
      · subst z; rw [up_eq]; simp; omega
      · rw [up_ne (by omega)]; simp [z]
  · rw [if_neg c, if_neg c, if_pos rfl]
    exact ⟨0, v, w, by rw [b2_some, set_0], rfl, h⟩

