/-! reads and writes, with what follows -/
theorem rb {u : Mem} {a n k : Nat} {β : Type} {f : Int32 → Option β} (h : k < n) (hn : n < 2147483648) : (rdA u a n (nI k)).bind f = f (u a k) := by rw [r_ok h hn, b_some]
theorem rbs {u : Mem} {a b n k : Nat} {P : Wt} {β : Type} {f : Int32 → Option β} (h : k < n) (hn : n < 2147483648) (e : b ≠ a) : (rdA (mset u a P) b n (nI k)).bind f = f (u b k) := by rw [r_ok h hn, b_some, ms_ne e]
theorem wb {u : Mem} {a n k : Nat} {x : Int32} {β : Type} {f : Mem → Option β} (h : k < n) (hn : n < 2147483648) : (wrA u a n (nI k) x).bind f = f (mupd u a k x) := by rw [w_ok h hn, b_some]
theorem wbs {u : Mem} {a n k : Nat} {x : Int32} {P : Wt} {β : Type} {f : Mem → Option β} (h : k < n) (hn : n < 2147483648) : (wrA (mset u a P) a n (nI k) x).bind f = f (mset u a (upd P k x)) := by rw [w_ok h hn, b_some, mu_ms]
theorem wbl {u : Mem} {a n k : Nat} {x : Int32} {P : Wt} {β : Type} {f : Mem → Option β} (h : (OfNat.ofNat k : Nat) < n) (hn : n < 2147483648) : (wrA (mset u a P) a n (OfNat.ofNat k : Int32) x).bind f = f (mset u a (upd P (OfNat.ofNat k : Nat) x)) := wbs (k := k) h hn
theorem mb {u : Mem} {a k : Nat} {x : Int32} {β : Type} {f : Mem → Option β} : (some (mupd u a k x)).bind f = f (mset u a (upd (u a) k x)) := by rw [b_some, mu_eq]
theorem mbs {u : Mem} {a k : Nat} {x : Int32} {P : Wt} {β : Type} {f : Mem → Option β} : (some (mupd (mset u a P) a k x)).bind f = f (mset u a (upd P k x)) := by rw [b_some, mu_ms]
theorem rl {u : Mem} {a n c k : Nat} {β : Type} {f : Int32 → Option β} (h : (OfNat.ofNat c : Nat) + k < n) (hn : n < 2147483648) : (rdA u a n ((OfNat.ofNat c : Int32) + nI k)).bind f = f (u a ((OfNat.ofNat c : Nat) + k)) := by rw [li_add, r_ok h hn, b_some]
theorem rls {u : Mem} {a b n c k : Nat} {P : Wt} {β : Type} {f : Int32 → Option β} (h : (OfNat.ofNat c : Nat) + k < n) (hn : n < 2147483648) (e : b ≠ a) : (rdA (mset u a P) b n ((OfNat.ofNat c : Int32) + nI k)).bind f = f (u b ((OfNat.ofNat c : Nat) + k)) := by rw [li_add, r_ok h hn, b_some, ms_ne e]
theorem wl {u : Mem} {a n c k : Nat} {x : Int32} {β : Type} {f : Mem → Option β} (h : (OfNat.ofNat c : Nat) + k < n) (hn : n < 2147483648) : (wrA u a n ((OfNat.ofNat c : Int32) + nI k) x).bind f = f (mupd u a ((OfNat.ofNat c : Nat) + k) x) := by rw [li_add, w_ok h hn, b_some]
/-! asked, told: the class and the model alike -/
def dflt (W : Wt) (m w : Nat) : Int32 := if w = 0 then W (102 + m) - 59 else if w = 1 then W (114 + m) else if w = 2 then 0 else 50
def mstN (w : Nat) : Nat := if w = 0 then 120 else if w = 1 then 9 else if w = 2 then 99 else 1000
def fcts (W : Wt) (m s : Nat) : Int32 := if s = 1 then W (90 + m) else if s = 2 then W (102 + m) else if s = 3 then W (114 + m) else if s = 4 then W (4 + m) else if s = 5 then nI (pc (W (16 + m))) else if s = 6 then (if W (40 + m) = 1 then W (52 + m) else 0) else if s = 7 then W 0 else if s = 8 then W 80 else (if W (40 + m) = 1 then W (126 + nt (W (52 + m))) else 0)
def dAsk (W : Wt) (w m : Nat) : Int32 := clp (nI (mstN w)) (lTell (fcts W m) W w (dflt W m w) 0 (nt (W 84)))
theorem dAsk_n (W : Wt) {w : Nat} (hw : w < 4) (m : Nat) : ∃ j, j ≤ mstN w ∧ dAsk W w m = nI j := clp_n _ (by unfold mstN; split <;> (try split) <;> (try split) <;> omega) _
def WO (W : Wt) : Prop := OkT W ∧ OkD W ∧ LW W
def CR (b : Nat) (u : Mem) (W : Wt) : Prop := TR 1 u W ∧ LC 8 u W ∧ BR b u W
theorem TR_cg {t : Nat} {u u' : Mem} {W : Wt} (h : TR t u W) (e : ∀ j, j ≤ 21 → u' (t + j) = u (t + j)) : TR t u' W := by
  have e0 := e 0 (by omega)
  rw [Nat.add_zero] at e0
  unfold TR
  rw [e0, e 1 (by omega), e 2 (by omega), e 3 (by omega), e 4 (by omega), e 5 (by omega), e 6 (by omega), e 14 (by omega), e 15 (by omega), e 16 (by omega), e 17 (by omega), e 18 (by omega), e 19 (by omega), e 20 (by omega), e 21 (by omega)]
  exact h
theorem LC_cg {t : Nat} {u u' : Mem} {W : Wt} (h : LC t u W) (e : ∀ j, j ≤ 5 → u' (t + j) = u (t + j)) : LC t u' W := by
  have e0 := e 0 (by omega)
  rw [Nat.add_zero] at e0
  unfold LC LC1
  rw [e0, e 1 (by omega), e 2 (by omega), e 3 (by omega), e 4 (by omega), e 5 (by omega)]
  exact h
theorem BR_cg {b : Nat} {u u' : Mem} {W : Wt} (h : BR b u W) (e : ∀ j, j ≤ 6 → u' (b + j) = u (b + j)) : BR b u' W := by
  have e0 := e 0 (by omega)
  rw [Nat.add_zero] at e0
  refine ⟨by rw [e0]; exact h.1, by rw [e0]; exact h.2.1, by rw [e0]; exact h.2.2.1, by rw [e0]; exact h.2.2.2.1, fun j m hj hm => ?_⟩
  rw [show b + 1 + j = b + (1 + j) by omega, e (1 + j) (by omega), show b + (1 + j) = b + 1 + j by omega]
  exact h.2.2.2.2 j m hj hm
/-- only scratch cells differ -/
def Scr (u u' : Mem) : Prop := ∀ c, c ≤ 8 ∨ (9 ≤ c ∧ c ≤ 13) ∨ (15 ≤ c ∧ c ≤ 29) ∨ (97 ≤ c ∧ c ≤ 103) → u' c = u c
theorem CR_scr {b : Nat} {u u' : Mem} {W : Wt} (hb : b = 23 ∨ b = 97) (s : Scr u u') (h : CR b u W) : CR b u' W := by
  refine ⟨?_, LC_cg h.2.1 (fun j hj => s _ (by omega)), BR_cg h.2.2 (fun j hj => s _ (by omega))⟩
  have hT := h.1
  unfold TR at hT ⊢
  rw [s 1 (by omega), s (1 + 1) (by omega), s (1 + 2) (by omega), s (1 + 3) (by omega), s (1 + 4) (by omega), s (1 + 5) (by omega), s (1 + 6) (by omega), s (1 + 14) (by omega), s (1 + 15) (by omega), s (1 + 16) (by omega), s (1 + 17) (by omega), s (1 + 18) (by omega), s (1 + 19) (by omega), s (1 + 20) (by omega), s (1 + 21) (by omega)]
  exact hT
theorem m_count (x : Int32) : FX12_count x = some (nI (pc x)) := by
  refine lp_v (fun F i s => FX12_count_L4 F x s i) 16 (fun i => nI (fo i (fun k c => c + if tb x k = true then 1 else 0) 0)) _ (fun i F hi => ?_) (fun F => ?_) FU (by decide)
  · show FX12_count_b4 _ _ _ _ = _
    unfold FX12_count_b4
    rw [if_neg (by rw [li_le (by decide) (by omega)]; show ¬ 16 ≤ i; omega), bit1 x (by omega), nI_1, fo_s]
    by_cases h : tb x i = true
    · rw [if_pos h, if_pos h, nI_1]
    · rw [if_neg h, if_neg h, Int32.add_zero]; rfl
  · show FX12_count_b4 _ _ _ _ = _
    unfold FX12_count_b4
    rw [if_pos (by decide)]
    rfl
theorem bc_dec : ∀ j, j < 256 → FJ6_bitCount_0f7a4 (nI j) = some (nI (pc (nI j))) := by decide +kernel
theorem bc_kn {W : Wt} (h : OkD W) {m : Nat} (hm : m < 12) : FJ6_bitCount_0f7a4 (W (16 + m)) = some (nI (pc (W (16 + m)))) := by
  obtain ⟨j, hj, e⟩ := OkD_kn h m hm
  rw [e]; exact bc_dec j hj
theorem c_has {u : Mem} {W : Wt} (h : u 1 0 = W 78) (hT : OkT W) {m : Nat} (hm : m < nmen W) : FX9_hasMan_1 (nI m) u = some 1 := by
  obtain ⟨hn, hn12⟩ := OkT_n hT
  unfold FX9_hasMan_1
  rw [h, hn, if_neg (nI_pos (by omega)), if_neg (by rw [nn_le (by omega) (by omega)]; omega), if_neg (by rw [li_le (by decide) (by omega)]; show ¬ 12 ≤ m; omega)]
theorem c_hasN {u : Mem} {W : Wt} (h : u 1 0 = W 78) (hT : OkT W) {p : Int32} (hp : ¬ ∃ m, m < nmen W ∧ p = nI m) : FX9_hasMan_1 p u = some 0 := by
  obtain ⟨hn, hn12⟩ := OkT_n hT
  unfold FX9_hasMan_1
  rw [h]
  by_cases c : p < 0
  · rw [if_pos c]
  · rw [if_neg c, if_pos]
    obtain ⟨j, hj, rfl⟩ := nI_of c
    rw [hn, nn_le (by omega) hj]
    by_cases c2 : j < nmen W
    · exact absurd ⟨j, c2, rfl⟩ hp
    · omega
theorem m_isMan {u : Mem} {W : Wt} (hu : u 147 = W) (hT : OkT W) {m : Nat} (hm : m < nmen W) : FX12_isMan_146 (nI m) u = some 1 := by
  obtain ⟨hn, hn12⟩ := OkT_n hT
  unfold FX12_isMan_146 FX12_isIn
  rw [hu, hn, show nI (nmen W) - 1 = nI (nmen W - 1) from nI_sub (b := 1) (by omega), if_neg (nI_pos (by omega)), if_neg (by rw [nn_lt (by omega) (by omega)]; omega)]
  rfl
theorem m_isManN {u : Mem} {W : Wt} (hu : u 147 = W) (hT : OkT W) {p : Int32} (hp : ¬ ∃ m, m < nmen W ∧ p = nI m) : FX12_isMan_146 p u = some 0 := by
  obtain ⟨hn, hn12⟩ := OkT_n hT
  unfold FX12_isMan_146 FX12_isIn
  rw [hu]
  by_cases c : p < 0
  · rw [if_pos c]; rfl
  · rw [if_neg c, if_pos]
    · rfl
    · obtain ⟨j, hj, rfl⟩ := nI_of c
      have c2 : ¬ j < nmen W := fun h => hp ⟨j, h, rfl⟩
      rw [hn]
      by_cases z : nmen W = 0
      · rw [z, show nI 0 - 1 = -1 by decide, Int32.lt_iff_toInt_lt, nI_toInt hj]
        have h2 : (-1 : Int32).toInt = -1 := by decide
        omega
      · rw [show nI (nmen W) - 1 = nI (nmen W - 1) from nI_sub (b := 1) (by omega), nn_lt (by omega) hj]
        omega
theorem holds_b (s : Int32) {k : Nat} (h : k < 32) : FX11_holds s (nI k) = some (if tb s k = true then 1 else 0) := by
  unfold FX11_holds
  by_cases c : tb s k = true
  · rw [if_pos (by rw [bit_1 s h]; exact c), if_pos c]
  · rw [if_neg (by rw [bit_1 s h]; exact c), if_neg c]
theorem hills_n {W : Wt} (hT : OkT W) : ∀ n, n ≤ 16 → ∀ c, c < 32 → tb (fo n (fun c s => s ||| (W (126 + c) <<< (nI c &&& 31))) 0) c = decide (c < n ∧ W (126 + c) = 1) := by
  intro n
  induction n with
  | zero => intro _ c hc; rw [fo_0, tb_0]; symm; apply decide_eq_false; omega
  | succ n ih =>
    intro hn c hc
    rw [fo_s, tb_or, ih (by omega) c hc, nI_shm (by omega)]
    rcases OkT_hi hT n (by omega) with h | h
    · rw [h, show (0 : Int32) <<< nI n = 0 by rw [← Int32.toBitVec_inj]; simp, tb_0, Bool.or_false]
      apply decide_eq_decide.mpr
      constructor
      · rintro ⟨a, b⟩; exact ⟨by omega, b⟩
      · rintro ⟨a, b⟩
        refine ⟨?_, b⟩
        by_cases e : c = n
        · subst e; rw [h] at b; exact absurd b (by decide)
        · omega
    · rw [h, tb_1s (by omega) hc, ← Bool.decide_or]
      apply decide_eq_decide.mpr
      constructor
      · rintro (⟨a, b⟩ | rfl)
        · exact ⟨by omega, b⟩
        · exact ⟨by omega, h⟩
      · rintro ⟨a, b⟩
        by_cases e : c = n
        · exact Or.inr e
        · exact Or.inl ⟨by omega, b⟩
theorem hills_tb {W : Wt} (hT : OkT W) {c : Nat} (hc : c < 16) : (tb (sHills W) c = true) = (W (126 + c) = 1) := by
  unfold sHills
  rw [hills_n hT 16 (by omega) c (by omega), decide_eq_true_eq]
  exact propext ⟨fun h => h.2, fun h => ⟨hc, h⟩⟩
theorem c_isHill {u : Mem} {W : Wt} (h : u 1 10 = sHills W) (hT : OkT W) {c : Nat} (hc : c < 16) : FX9_isHill_1 (nI c) u = some (W (126 + c)) := by
  unfold FX9_isHill_1
  rw [h, if_neg (nI_pos (by omega)), if_neg (by rw [li_le (by decide) (by omega)]; show ¬ 16 ≤ c; omega), holds_b _ (by omega), b_some]
  rcases OkT_hi hT c hc with e | e
  · rw [if_neg (show ¬ (tb (sHills W) c = true) by rw [hills_tb hT hc, e]; decide), if_pos rfl, e]
  · rw [if_pos (show (tb (sHills W) c = true) by rw [hills_tb hT hc, e]), if_neg (by decide), e]
theorem c_askE_32 {u : Mem} {W : Wt} {f : Nat → Int32} (hf : ∀ s, 1 ≤ s → s ≤ 9 → u 33 (s - 1) = f s) (hL : LC 8 u W) (hW : LW W) {w : Nat} (hw : w < 4) (d most : Int32) : ∃ u', (bnd2 (FX4_tell_8_33 (nI w) d u) fun x u5 => (FX3_held x most).bind fun x6 => some (x6, u5)) = some (clp most (lTell f W w d 0 (nt (W 84))), u') := by
  obtain ⟨P', h⟩ := c_tell_33 hf hL hW hw d (nt (W 84)) 0 FU (u 14) (by omega) (by have := hW.1.2; show _ < 10000; omega)
  rw [ms_self, nI_0] at h
  refine ⟨mset u 14 P', ?_⟩
  show bnd2 (FX4_tell_8_33_L3 FU (nI w) d 0 u) _ = _
  rw [h]
  rfl
set_option maxHeartbeats 2000000 in
theorem c_asked_32 {u : Mem} {W : Wt} (hC : CR 23 u W) (hW : WO W) {m : Nat} (hm : m < nmen W) {w : Nat} (hw : w < 4) : ∃ u', FX3_asked_32 (nI m) (nI w) u = some (dAsk W w m, u') := by
  obtain ⟨hn, hn12⟩ := OkT_n hW.1
  have hm12 : m < 12 := by omega
  have a1 : u 2 m = W (90 + m) := TR_co hC.1 m hm12
  have a2 : u 3 m = W (102 + m) := TR_ag hC.1 m hm12
  have a3 : u 4 m = W (114 + m) := TR_le hC.1 m hm12
  have a4 : u 24 m = W (4 + m) := BR_br hC.2.2 m hm12
  have a5 : u 25 m = W (16 + m) := BR_kn hC.2.2 m hm12
  have a6 : u 27 m = W (40 + m) := BR_wh hC.2.2 m hm12
  have a7 : u 28 m = W (52 + m) := BR_ce hC.2.2 m hm12
  have a8 : u 23 7 = W 0 := BR_day hC.2.2
  have a9 : u 1 8 = W 80 := TR_rain hC.1
  have a10 : u 1 10 = sHills W := TR_hi hC.1
  obtain ⟨jc, hjc, ec⟩ := OkD_ce hW.2.1 m hm12
  have key : ∀ (P : Wt), (∀ s, 1 ≤ s → s ≤ 9 → P (s - 1) = fcts W m s) → ∃ u', (if nI w = 0 then ((rdA (mset u 33 P) 3 12 (nI m)).bind fun x3 => bnd2 (FX4_tell_8_33 0 (x3 - 59) (mset u 33 P)) fun x4 u5 => (FX3_held x4 120).bind fun x6 => some (x6, u5)) else ((if nI w = 1 then ((rdA (mset u 33 P) 4 12 (nI m)).bind fun x8 => bnd2 (FX4_tell_8_33 1 x8 (mset u 33 P)) fun x9 u10 => (FX3_held x9 9).bind fun x11 => some (x11, u10)) else ((if nI w = 2 then (bnd2 (FX4_tell_8_33 2 0 (mset u 33 P)) fun x13 u14 => (FX3_held x13 99).bind fun x15 => some (x15, u14)) else (bnd2 (FX4_tell_8_33 3 50 (mset u 33 P)) fun x16 u17 => (FX3_held x16 1000).bind fun x18 => some (x18, u17)))))) ) = some (dAsk W w m, u') := by
    intro P hP
    have hf : ∀ s, 1 ≤ s → s ≤ 9 → (mset u 33 P) 33 (s - 1) = fcts W m s := fun s h1 h2 => by rw [ms_eq]; exact hP s h1 h2
    have hL : LC 8 (mset u 33 P) W := LC_cg hC.2.1 (fun j hj => ms_ne (by omega))
    rcases (by omega : w = 0 ∨ w = 1 ∨ w = 2 ∨ w = 3) with rfl | rfl | rfl | rfl
    · rw [if_pos (by decide), r_ok hm12 (by omega), b_some, ms_ne (by decide), a2]
      exact c_askE_32 hf hL hW.2.2 (w := 0) (by omega) _ _
    · rw [if_neg (by decide), if_pos (by decide), r_ok hm12 (by omega), b_some, ms_ne (by decide), a3]
      exact c_askE_32 hf hL hW.2.2 (w := 1) (by omega) _ _
    · rw [if_neg (by decide), if_neg (by decide), if_pos (by decide)]
      exact c_askE_32 hf hL hW.2.2 (w := 2) (by omega) _ _
    · rw [if_neg (by decide), if_neg (by decide), if_neg (by decide)]
      exact c_askE_32 hf hL hW.2.2 (w := 3) (by omega) _ _
  unfold FX3_asked_32
  rw [c_has (TR_men hC.1) hW.1 hm, b_some, if_neg (by decide), r_ok hm12 (by omega), b_some, a6]
  unfold FX3_asked_32_b31 FX3_asked_32_b132 FX3_asked_32_b195
  by_cases hfld : W (40 + m) = 1
  · rw [if_pos hfld]
    rw [rb hm12 (by omega), a1, mb, rbs hm12 (by omega) (by decide), a2, mbs, rbs hm12 (by omega) (by decide), a3, mbs, rbs hm12 (by omega) (by decide), a4, mbs, rbs hm12 (by omega) (by decide), a5, bc_kn hW.2.1 hm12, b_some, mbs, if_neg (by decide), rbs hm12 (by omega) (by decide), a7, wbl (by decide) (by decide), ms_ne (by decide), a8, mbs, ms_ne (by decide), a9, mbs, if_neg (by decide), rbs hm12 (by omega) (by decide), a7, ec, c_isHill (by rw [ms_ne (by decide)]; exact a10) hW.1 hjc, b_some]
    have e9 : fcts W m 9 = W (126 + jc) := by unfold fcts; rw [ec, nt_nI (by omega)]; simp [hfld]
    rcases OkT_hi hW.1 jc hjc with z | z
    · rw [z, if_pos rfl, wbl (by decide) (by decide)]
      refine key _ (fun s h1 h2 => ?_)
      rcases (by omega : s = 1 ∨ s = 2 ∨ s = 3 ∨ s = 4 ∨ s = 5 ∨ s = 6 ∨ s = 7 ∨ s = 8 ∨ s = 9) with rfl | rfl | rfl | rfl | rfl | rfl | rfl | rfl | rfl <;> first | (rw [e9, z]; rfl) | (simp [upd, fcts, hfld, ec])
    · rw [z, if_neg (by decide), wbl (by decide) (by decide)]
      refine key _ (fun s h1 h2 => ?_)
      rcases (by omega : s = 1 ∨ s = 2 ∨ s = 3 ∨ s = 4 ∨ s = 5 ∨ s = 6 ∨ s = 7 ∨ s = 8 ∨ s = 9) with rfl | rfl | rfl | rfl | rfl | rfl | rfl | rfl | rfl <;> first | (rw [e9, z]; rfl) | (simp [upd, fcts, hfld, ec])
  · rw [if_neg hfld]
    rw [rb hm12 (by omega), a1, mb, rbs hm12 (by omega) (by decide), a2, mbs, rbs hm12 (by omega) (by decide), a3, mbs, rbs hm12 (by omega) (by decide), a4, mbs, rbs hm12 (by omega) (by decide), a5, bc_kn hW.2.1 hm12, b_some, mbs, if_pos rfl, wbl (by decide) (by decide), ms_ne (by decide), a8, mbs, ms_ne (by decide), a9, mbs, if_pos rfl, wbl (by decide) (by decide)]
    refine key _ (fun s h1 h2 => ?_)
    rcases (by omega : s = 1 ∨ s = 2 ∨ s = 3 ∨ s = 4 ∨ s = 5 ∨ s = 6 ∨ s = 7 ∨ s = 8 ∨ s = 9) with rfl | rfl | rfl | rfl | rfl | rfl | rfl | rfl | rfl <;> simp [upd, fcts, hfld]
theorem c_askE_104 {u : Mem} {W : Wt} {f : Nat → Int32} (hf : ∀ s, 1 ≤ s → s ≤ 9 → u 105 (s - 1) = f s) (hL : LC 8 u W) (hW : LW W) {w : Nat} (hw : w < 4) (d most : Int32) : ∃ u', (bnd2 (FX4_tell_8_105 (nI w) d u) fun x u5 => (FX3_held x most).bind fun x6 => some (x6, u5)) = some (clp most (lTell f W w d 0 (nt (W 84))), u') := by
  obtain ⟨P', h⟩ := c_tell_105 hf hL hW hw d (nt (W 84)) 0 FU (u 14) (by omega) (by have := hW.1.2; show _ < 10000; omega)
  rw [ms_self, nI_0] at h
  refine ⟨mset u 14 P', ?_⟩
  show bnd2 (FX4_tell_8_105_L3 FU (nI w) d 0 u) _ = _
  rw [h]
  rfl
set_option maxHeartbeats 2000000 in
theorem c_asked_104 {u : Mem} {W : Wt} (hC : CR 97 u W) (hW : WO W) {m : Nat} (hm : m < nmen W) {w : Nat} (hw : w < 4) : ∃ u', FX3_asked_104 (nI m) (nI w) u = some (dAsk W w m, u') := by
  obtain ⟨hn, hn12⟩ := OkT_n hW.1
  have hm12 : m < 12 := by omega
  have a1 : u 2 m = W (90 + m) := TR_co hC.1 m hm12
  have a2 : u 3 m = W (102 + m) := TR_ag hC.1 m hm12
  have a3 : u 4 m = W (114 + m) := TR_le hC.1 m hm12
  have a4 : u 98 m = W (4 + m) := BR_br hC.2.2 m hm12
  have a5 : u 99 m = W (16 + m) := BR_kn hC.2.2 m hm12
  have a6 : u 101 m = W (40 + m) := BR_wh hC.2.2 m hm12
  have a7 : u 102 m = W (52 + m) := BR_ce hC.2.2 m hm12
  have a8 : u 97 7 = W 0 := BR_day hC.2.2
  have a9 : u 1 8 = W 80 := TR_rain hC.1
  have a10 : u 1 10 = sHills W := TR_hi hC.1
  obtain ⟨jc, hjc, ec⟩ := OkD_ce hW.2.1 m hm12
  have key : ∀ (P : Wt), (∀ s, 1 ≤ s → s ≤ 9 → P (s - 1) = fcts W m s) → ∃ u', (if nI w = 0 then ((rdA (mset u 105 P) 3 12 (nI m)).bind fun x3 => bnd2 (FX4_tell_8_105 0 (x3 - 59) (mset u 105 P)) fun x4 u5 => (FX3_held x4 120).bind fun x6 => some (x6, u5)) else ((if nI w = 1 then ((rdA (mset u 105 P) 4 12 (nI m)).bind fun x8 => bnd2 (FX4_tell_8_105 1 x8 (mset u 105 P)) fun x9 u10 => (FX3_held x9 9).bind fun x11 => some (x11, u10)) else ((if nI w = 2 then (bnd2 (FX4_tell_8_105 2 0 (mset u 105 P)) fun x13 u14 => (FX3_held x13 99).bind fun x15 => some (x15, u14)) else (bnd2 (FX4_tell_8_105 3 50 (mset u 105 P)) fun x16 u17 => (FX3_held x16 1000).bind fun x18 => some (x18, u17)))))) ) = some (dAsk W w m, u') := by
    intro P hP
    have hf : ∀ s, 1 ≤ s → s ≤ 9 → (mset u 105 P) 105 (s - 1) = fcts W m s := fun s h1 h2 => by rw [ms_eq]; exact hP s h1 h2
    have hL : LC 8 (mset u 105 P) W := LC_cg hC.2.1 (fun j hj => ms_ne (by omega))
    rcases (by omega : w = 0 ∨ w = 1 ∨ w = 2 ∨ w = 3) with rfl | rfl | rfl | rfl
    · rw [if_pos (by decide), r_ok hm12 (by omega), b_some, ms_ne (by decide), a2]
      exact c_askE_104 hf hL hW.2.2 (w := 0) (by omega) _ _
    · rw [if_neg (by decide), if_pos (by decide), r_ok hm12 (by omega), b_some, ms_ne (by decide), a3]
      exact c_askE_104 hf hL hW.2.2 (w := 1) (by omega) _ _
    · rw [if_neg (by decide), if_neg (by decide), if_pos (by decide)]
      exact c_askE_104 hf hL hW.2.2 (w := 2) (by omega) _ _
    · rw [if_neg (by decide), if_neg (by decide), if_neg (by decide)]
      exact c_askE_104 hf hL hW.2.2 (w := 3) (by omega) _ _
  unfold FX3_asked_104
  rw [c_has (TR_men hC.1) hW.1 hm, b_some, if_neg (by decide), r_ok hm12 (by omega), b_some, a6]
  unfold FX3_asked_104_b31 FX3_asked_104_b132 FX3_asked_104_b195
  by_cases hfld : W (40 + m) = 1
  · rw [if_pos hfld]
    rw [rb hm12 (by omega), a1, mb, rbs hm12 (by omega) (by decide), a2, mbs, rbs hm12 (by omega) (by decide), a3, mbs, rbs hm12 (by omega) (by decide), a4, mbs, rbs hm12 (by omega) (by decide), a5, bc_kn hW.2.1 hm12, b_some, mbs, if_neg (by decide), rbs hm12 (by omega) (by decide), a7, wbl (by decide) (by decide), ms_ne (by decide), a8, mbs, ms_ne (by decide), a9, mbs, if_neg (by decide), rbs hm12 (by omega) (by decide), a7, ec, c_isHill (by rw [ms_ne (by decide)]; exact a10) hW.1 hjc, b_some]
    have e9 : fcts W m 9 = W (126 + jc) := by unfold fcts; rw [ec, nt_nI (by omega)]; simp [hfld]
    rcases OkT_hi hW.1 jc hjc with z | z
    · rw [z, if_pos rfl, wbl (by decide) (by decide)]
      refine key _ (fun s h1 h2 => ?_)
      rcases (by omega : s = 1 ∨ s = 2 ∨ s = 3 ∨ s = 4 ∨ s = 5 ∨ s = 6 ∨ s = 7 ∨ s = 8 ∨ s = 9) with rfl | rfl | rfl | rfl | rfl | rfl | rfl | rfl | rfl <;> first | (rw [e9, z]; rfl) | (simp [upd, fcts, hfld, ec])
    · rw [z, if_neg (by decide), wbl (by decide) (by decide)]
      refine key _ (fun s h1 h2 => ?_)
      rcases (by omega : s = 1 ∨ s = 2 ∨ s = 3 ∨ s = 4 ∨ s = 5 ∨ s = 6 ∨ s = 7 ∨ s = 8 ∨ s = 9) with rfl | rfl | rfl | rfl | rfl | rfl | rfl | rfl | rfl <;> first | (rw [e9, z]; rfl) | (simp [upd, fcts, hfld, ec])
  · rw [if_neg hfld]
    rw [rb hm12 (by omega), a1, mb, rbs hm12 (by omega) (by decide), a2, mbs, rbs hm12 (by omega) (by decide), a3, mbs, rbs hm12 (by omega) (by decide), a4, mbs, rbs hm12 (by omega) (by decide), a5, bc_kn hW.2.1 hm12, b_some, mbs, if_pos rfl, wbl (by decide) (by decide), ms_ne (by decide), a8, mbs, ms_ne (by decide), a9, mbs, if_pos rfl, wbl (by decide) (by decide)]
    refine key _ (fun s h1 h2 => ?_)
    rcases (by omega : s = 1 ∨ s = 2 ∨ s = 3 ∨ s = 4 ∨ s = 5 ∨ s = 6 ∨ s = 7 ∨ s = 8 ∨ s = 9) with rfl | rfl | rfl | rfl | rfl | rfl | rfl | rfl | rfl <;> simp [upd, fcts, hfld]
set_option maxHeartbeats 2000000 in
theorem m_says {u : Mem} {W : Wt} (hu : u 147 = W) (hW : WO W) {m : Nat} (hm12 : m < 12) {w : Nat} (hw : w < 4) (d most : Int32) : ∃ u', FX12_says_146 (nI (20 + w)) (nI m) d most u = some (clp most (lTell (fcts W m) W w d 0 (nt (W 84))), u') := by
  obtain ⟨jc, hjc, ec⟩ := OkD_ce hW.2.1 m hm12
  have key : ∀ (P : Wt), (∀ s, 1 ≤ s → s ≤ 9 → P s = fcts W m s) → ∃ u', FX12_says_146_L185 FU (nI (20 + w)) d most 0 (mset u 156 P) = some (clp most (lTell (fcts W m) W w d 0 (nt (W 84))), u') := by
    intro P hP
    obtain ⟨P', h⟩ := m_tell (u := mset u 156 P) (W := W) (f := fcts W m) (by rw [ms_ne (by decide)]; exact hu) (fun s h1 h2 => by rw [ms_eq]; exact hP s h1 h2) hW.2.2 hw d most (nt (W 84)) 0 FU ((mset u 156 P) 155) (by omega) (by have := hW.2.2.1.2; show _ < 10000; omega)
    rw [ms_self, nI_0] at h
    exact ⟨_, h⟩
  unfold FX12_says_146
  rw [li_add, r_ok (by show 40 + m < 1786; omega) (by omega), b_some, hu, show W ((OfNat.ofNat 40 : Nat) + m) = W (40 + m) from rfl]
  unfold FX12_says_146_b18 FX12_says_146_b121 FX12_says_146_b181
  by_cases hfld : W (40 + m) = 1
  · rw [if_pos hfld]
    rw [rl (by show 90 + m < _; omega) (by omega), mb, rls (by show 102 + m < _; omega) (by omega) (by decide), mbs, rls (by show 114 + m < _; omega) (by omega) (by decide), mbs, rls (by show 4 + m < _; omega) (by omega) (by decide), mbs, rls (by show 16 + m < _; omega) (by omega) (by decide), m_count, b_some, mbs, if_neg (by decide), rls (by show 52 + m < _; omega) (by omega) (by decide), wbl (by decide) (by decide), ms_ne (by decide), mbs, ms_ne (by decide), mbs, if_neg (by decide), rls (by show 52 + m < _; omega) (by omega) (by decide), hu, show W ((OfNat.ofNat 52 : Nat) + m) = nI jc from ec, rls (by show 126 + jc < _; omega) (by omega) (by decide), hu, wbl (by decide) (by decide)]
    refine key _ (fun s h1 h2 => ?_)
    rcases (by omega : s = 1 ∨ s = 2 ∨ s = 3 ∨ s = 4 ∨ s = 5 ∨ s = 6 ∨ s = 7 ∨ s = 8 ∨ s = 9) with rfl | rfl | rfl | rfl | rfl | rfl | rfl | rfl | rfl <;> simp [upd, fcts, hfld, ec, nt_nI (show jc < 2147483648 by omega)]
  · rw [if_neg hfld]
    rw [rl (by show 90 + m < _; omega) (by omega), mb, rls (by show 102 + m < _; omega) (by omega) (by decide), mbs, rls (by show 114 + m < _; omega) (by omega) (by decide), mbs, rls (by show 4 + m < _; omega) (by omega) (by decide), mbs, rls (by show 16 + m < _; omega) (by omega) (by decide), m_count, b_some, mbs, if_pos rfl, wbl (by decide) (by decide), ms_ne (by decide), mbs, ms_ne (by decide), mbs, if_pos rfl, hu, wbl (by decide) (by decide)]
    refine key _ (fun s h1 h2 => ?_)
    rcases (by omega : s = 1 ∨ s = 2 ∨ s = 3 ∨ s = 4 ∨ s = 5 ∨ s = 6 ∨ s = 7 ∨ s = 8 ∨ s = 9) with rfl | rfl | rfl | rfl | rfl | rfl | rfl | rfl | rfl <;> simp [upd, fcts, hfld]
def dCall (fa : Int32) (W : Wt) (m : Nat) : Int32 := if fa ≤ W (102 + m) then dAsk W 0 m else 0
theorem m_call {u : Mem} {W : Wt} (hu : u 147 = W) (hW : WO W) {m : Nat} (hm : m < 12) : ∃ u', FX12_callOf_146 (nI m) u = some (dCall (u 146 27) W m, u') := by
  unfold FX12_callOf_146 dCall
  rw [li_add, r_ok (by show 102 + m < 1786; omega) (by omega), b_some, hu, show W ((OfNat.ofNat 102 : Nat) + m) = W (102 + m) from rfl]
  by_cases c : u 146 27 ≤ W (102 + m)
  · rw [if_pos c, if_pos c, b_some]
    obtain ⟨u', h⟩ := m_says hu hW hm (w := 0) (by omega) (W (102 + m) - 59) 120
    exact ⟨u', by rw [show (20 : Int32) = nI (20 + 0) by decide, h]; rfl⟩
  · rw [if_neg c, if_neg c]; exact ⟨u, rfl⟩
theorem m_step {u : Mem} {W : Wt} (hu : u 147 = W) (hW : WO W) {m : Nat} (hm : m < 12) : ∃ u', FX12_stepOf_146 (nI m) u = some (dAsk W 1 m, u') := by
  unfold FX12_stepOf_146
  rw [li_add, r_ok (by show 114 + m < 1786; omega) (by omega), b_some, hu, show W ((OfNat.ofNat 114 : Nat) + m) = W (114 + m) from rfl]
  obtain ⟨u', h⟩ := m_says hu hW hm (w := 1) (by omega) (W (114 + m)) 9
  exact ⟨u', by rw [show (21 : Int32) = nI (20 + 1) by decide, h]; rfl⟩
theorem m_nap {u : Mem} {W : Wt} (hu : u 147 = W) (hW : WO W) {m : Nat} (hm : m < 12) : ∃ u', FX12_napOf_146 (nI m) u = some (dAsk W 2 m, u') := by
  unfold FX12_napOf_146
  obtain ⟨u', h⟩ := m_says hu hW hm (w := 2) (by omega) 0 99
  exact ⟨u', by rw [show (22 : Int32) = nI (20 + 2) by decide, h]; rfl⟩
theorem m_fade {u : Mem} {W : Wt} (hu : u 147 = W) (hW : WO W) {m : Nat} (hm : m < 12) : ∃ u', FX12_fadeOf_146 (nI m) u = some (dAsk W 3 m, u') := by
  unfold FX12_fadeOf_146
  obtain ⟨u', h⟩ := m_says hu hW hm (w := 3) (by omega) 50 1000
  exact ⟨u', by rw [show (23 : Int32) = nI (20 + 3) by decide, h]; rfl⟩

