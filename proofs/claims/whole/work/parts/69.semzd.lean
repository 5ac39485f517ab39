/-! slipper -/
def e9 (W W' : Wt) : Prop := ∀ k, k ≠ 88 → (k < 270 ∨ 300 ≤ k) → W' k = W k
theorem OkT_9 {W W' : Wt} (e : e9 W W') (h : OkT W) (k1 : W' 88 = nI (nt (W' 88)) ∧ nt (W' 88) ≤ 10) (k2 : ∀ i, i < nt (W' 88) → ∃ j, j ≤ 9 ∧ W' (270 + 3 * i + 2) = nI j) : OkT W' := by
  have hn : nmen W' = nmen W := by unfold nmen; rw [e 78 (by omega) (by omega)]
  have e85 := e 85 (by omega) (by omega)
  have e86 := e 86 (by omega) (by omega)
  have e87 := e 87 (by omega) (by omega)
  refine ⟨by rw [e 78 (by omega) (by omega), hn]; exact OkT_n h, fun m hm => by rw [e _ (by omega) (by omega)]; exact OkT_co h m hm, fun m hm => by rw [e _ (by omega) (by omega)]; exact OkT_ag h m hm, fun m hm => by rw [e _ (by omega) (by omega), hn]; exact OkT_le h m hm, by rw [e _ (by omega) (by omega)]; exact OkT_keep h, by rw [e _ (by omega) (by omega)]; exact OkT_rain h, by rw [e _ (by omega) (by omega)]; exact OkT_tea h, fun c hc => by rw [e _ (by omega) (by omega)]; exact OkT_wa h c hc, fun c hc => by rw [e _ (by omega) (by omega)]; exact OkT_hi h c hc, by rw [e85]; exact OkT_tn h, by rw [e86]; exact OkT_wn h, by rw [e87]; exact OkT_on h, k1, fun i hi => ?_, fun i hi => ?_, k2⟩
  · rw [e85] at hi
    have := (OkT_tn h).2
    rw [e _ (by omega) (by omega), e _ (by omega) (by omega), hn]
    exact OkT_te h i hi
  · rw [e86] at hi
    have := (OkT_wn h).2
    rw [e _ (by omega) (by omega), e _ (by omega) (by omega)]
    exact OkT_we h i hi
theorem sTold_9 {W W' : Wt} (e : e9 W W') (h : OkT W) (m : Int32) : sTold W' m = sTold W m := by
  have := (OkT_tn h).2
  unfold sTold
  rw [e 85 (by omega) (by omega)]
  exact fo_congr fun i s hi => by rw [e _ (by omega) (by omega), e _ (by omega) (by omega)]
theorem sWt1_9 {W W' : Wt} (e : e9 W W') (h : OkT W) (m : Int32) : sWt1 W' m = sWt1 W m := by
  have := (OkT_wn h).2
  unfold sWt1
  rw [e 86 (by omega) (by omega)]
  exact fo_congr fun i s hi => by rw [e _ (by omega) (by omega), e _ (by omega) (by omega)]
theorem sHills_9 {W W' : Wt} (e : e9 W W') : sHills W' = sHills W := by
  unfold sHills
  exact fo_congr fun i s hi => by rw [e _ (by omega) (by omega)]
theorem XD_9 {v v' : Mem} {W W' : Wt} (e : e9 W W') (hO : OkT W) (h : XD v W) (ec : ∀ c, c < 19 ∨ 22 < c → v' c = v c) (k1 : v' 19 3 = W' 88) (k2 : ∀ i, i < nt (W' 88) → v' 20 i = W' (270 + 3 * i)) (k3 : ∀ i, i < nt (W' 88) → v' 21 i = W' (270 + 3 * i + 1)) (k4 : ∀ i, i < nt (W' 88) → v' 22 i = W' (270 + 3 * i + 2)) : XD v' W' := by
  have hT := h.1.1
  have e87 := e 87 (by omega) (by omega)
  have ho := (OkT_on hO).2
  refine ⟨⟨⟨?_, ?_, ?_, ?_, ?_, ?_, ?_, fun m hm => ?_, fun m hm => ?_, fun m hm => ?_, fun m hm => ?_, fun c hc => ?_, fun f hf => ?_, ?_, fun i hi => ?_, fun i hi => ?_, fun i hi => ?_, k1, k2, k3, k4⟩, ?_, ?_⟩, ?_, ?_, ?_⟩
  · rw [ec 1 (by omega), e _ (by omega) (by omega)]; exact TR_men hT
  · rw [ec 1 (by omega), e _ (by omega) (by omega)]; exact TR_keep hT
  · rw [ec 1 (by omega), e _ (by omega) (by omega)]; exact TR_rain hT
  · rw [ec 1 (by omega), e _ (by omega) (by omega)]; exact TR_tea hT
  · rw [ec 1 (by omega), sHills_9 e]; exact TR_hi hT
  · rw [ec 1 (by omega), e _ (by omega) (by omega)]; exact TR_tl hT
  · rw [ec 1 (by omega), e _ (by omega) (by omega)]; exact TR_wl hT
  · rw [ec _ (by omega), e _ (by omega) (by omega)]; exact TR_co hT m hm
  · rw [ec _ (by omega), e _ (by omega) (by omega)]; exact TR_ag hT m hm
  · rw [ec _ (by omega), e _ (by omega) (by omega)]; exact TR_le hT m hm
  · rw [ec _ (by omega), sTold_9 e hO]; exact TR_te hT m hm
  · rw [ec _ (by omega), e _ (by omega) (by omega)]; exact TR_wa hT c hc
  · rw [ec _ (by omega), sWt1_9 e hO]; exact TR_we hT f hf
  · rw [ec _ (by omega), e87]; exact TR_ol hT
  · rw [e87] at hi; rw [ec _ (by omega), e _ (by omega) (by omega)]; exact TR_od hT i hi
  · rw [e87] at hi; rw [ec _ (by omega), e _ (by omega) (by omega)]; exact TR_oc hT i hi
  · rw [e87] at hi; rw [ec _ (by omega), e _ (by omega) (by omega)]; exact TR_or hT i hi
  · exact LC_L ⟨e 84 (by omega) (by omega), fun k hk => e k (by omega) (by omega)⟩ (LC_cg h.1.2.1 (fun j hj => ec _ (by omega)))
  · exact BR_W (fun k hk => e k (by omega) (by omega)) (BR_cg h.1.2.2 (fun j hj => ec _ (by omega)))
  · intro i hi; rw [ec _ (by omega), e _ (by omega) (by omega)]; exact h.2.1 i hi
  · rw [ec _ (by omega)]; exact h.2.2.1
  · rw [ec _ (by omega)]; exact h.2.2.2
theorem SP_9 {v v' w w' : Mem} (h : SP v w) (e : e9 (w 147) (w' 147)) (ew : ∀ c, c ≠ 147 → w' c = w c) (ec : ∀ c, c < 19 ∨ 22 < c → v' c = v c) (n1 : w' 147 88 = nI (nt (w' 147 88)) ∧ nt (w' 147 88) ≤ 10) (n2 : ∀ i, i < nt (w' 147 88) → ∃ j, j ≤ 9 ∧ w' 147 (270 + 3 * i + 2) = nI j) (k1 : v' 19 3 = w' 147 88) (k2 : ∀ i, i < nt (w' 147 88) → v' 20 i = w' 147 (270 + 3 * i)) (k3 : ∀ i, i < nt (w' 147 88) → v' 21 i = w' 147 (270 + 3 * i + 1)) (k4 : ∀ i, i < nt (w' 147 88) → v' 22 i = w' 147 (270 + 3 * i + 2)) : SP v' w' := by
  obtain ⟨a, b, c, d, f, g⟩ := h
  unfold SP
  rw [ew 146 (by decide), ew 148 (by decide), ew 149 (by decide), ew 154 (by decide)]
  exact ⟨⟨OkT_9 e a.1 n1 n2, OkD_cg (fun k hk => e k (by omega) (by omega)) a.2.1, LW_L ⟨e 84 (by omega) (by omega), fun k hk => e k (by omega) (by omega)⟩ a.2.2⟩, XD_9 e a.1 b ec k1 k2 k3 k4, by rw [ec 104 (by omega)]; exact c, UN_W (e 78 (by omega) (by omega)) (UN_cg (fun c hc => ec c (by omega)) d), IMG_cg (fun c hc => ec c (by omega)) f, RD_cg (ec _ (by omega)) (ec _ (by omega)) g⟩
theorem lt16_le15 (q : Int32) : (q < 16) = (q ≤ 15) := by
  rcases nI_ex 16 q with ⟨k, hk, rfl⟩ | h | h
  · rw [lt_li (by decide) (by omega), le_li (by decide) (by omega)]
    exact propext ⟨fun h => Nat.le_of_lt_succ h, fun h => Nat.lt_succ_of_le h⟩
  · exact propext ⟨fun _ => Int32.le_of_lt (lt0_n (m := 15) h (by decide)), fun _ => lt0_n (m := 16) h (by decide)⟩
  · have h : (16 : Int32) ≤ q := h (by decide)
    exact propext ⟨fun g => absurd h (by rw [Int32.not_le]; exact g), fun g => absurd (Int32.le_trans h g) (by decide)⟩
theorem A_slipper (p q r : Int32) : A2 (FX11_slipper_0 p q r) (FX12_slipper_146 p q r) := by
  intro v w h
  obtain ⟨a, b, -⟩ := id h
  obtain ⟨n1, n2⟩ := OkT_sn a.1
  have g1 : v 19 3 = w 147 88 := TR_sl b.1.1
  unfold FX11_slipper_0 FX12_slipper_146 FX8_find_19 FX8_find_19_b47
  by_cases c : p = -1
  · rw [if_pos c, if_pos c]
    refine ⟨0, mupd v 19 3 0, mupd w 147 88 0, rfl, rfl, SP_9 h (fun k hk _ => by rw [m_eq, up_ne hk]) (fun c hc => m_ne hc) (fun c hc => m_ne (by omega)) ?_ ?_ ?_ ?_ ?_ ?_⟩ <;> rw [m_eq, up_eq]
    · exact ⟨rfl, by decide⟩
    · intro i hi; exact absurd hi (by show ¬ i < 0; omega)
    · rw [m_eq, up_eq]
    · intro i hi; exact absurd hi (by show ¬ i < 0; omega)
    · intro i hi; exact absurd hi (by show ¬ i < 0; omega)
    · intro i hi; exact absurd hi (by show ¬ i < 0; omega)
  · rw [if_neg c, if_neg c, m_in, b_some, m_in, b_some, m_in, b_some, if_pos rfl]
    by_cases d1 : 0 ≤ p ∧ p ≤ 30
    · rw [if_neg (show ¬ p < 0 by rw [Int32.not_lt]; exact d1.1), if_neg (show ¬ 30 < p by rw [Int32.not_lt]; exact d1.2), if_pos d1, if_neg z1]
      by_cases d2 : 0 ≤ q ∧ q ≤ 15
      · rw [if_neg (show ¬ q < 0 by rw [Int32.not_lt]; exact d2.1), if_neg (show ¬ 16 ≤ q by rw [Int32.not_le, lt16_le15 q]; exact d2.2), if_pos d2, if_neg z1]
        by_cases d3 : 0 ≤ r ∧ r ≤ 9
        · rw [if_neg (show ¬ r < 0 by rw [Int32.not_lt]; exact d3.1), if_neg (show ¬ 9 < r by rw [Int32.not_lt]; exact d3.2), if_pos d3, if_neg z1, if_neg z1]
          rw [i32_9] at d3
          obtain ⟨j, hj, rfl⟩ := d3
          generalize hN : nt (w 147 88) = N at n1 n2
          rw [g1, n1]
          rw [if_neg (show ¬ nI N < 0 from nI_pos (by omega))]
          by_cases d4 : N = 10
          · rw [d4, if_neg (by decide), if_pos (by decide)]
            exact ⟨-1, v, w, rfl, rfl, h⟩
          · have d5 : N < 10 := by omega
            rw [if_pos (by rw [lt_li (by decide) (by omega)]; exact d5), if_neg (by rw [eq_li (by decide) (by omega)]; exact d4)]
            have ei : 270 + 3 * nI N = nI (270 + 3 * N) := by rw [li_mul, li_add]
            rw [ei, show nI (270 + 3 * N) + 1 = nI (270 + 3 * N + 1) from nI_add _ 1, show nI (270 + 3 * N) + 2 = nI (270 + 3 * N + 2) from nI_add _ 2]
            have o1 : (mupd v 20 N p) 19 3 = nI N := by rw [m_ne (by decide), g1, n1]
            have o2 : (mupd (mupd v 20 N p) 21 N q) 19 3 = nI N := by rw [m_ne (by decide), o1]
            have o3 : (mupd (mupd (mupd v 20 N p) 21 N q) 22 N (nI j)) 19 3 = nI N := by rw [m_ne (by decide), o2]
            have hM : (mupd (mupd (mupd w 147 (270 + 3 * N) p) 147 (270 + 3 * N + 1) q) 147 (270 + 3 * N + 2) (nI j)) 147 = upd (upd (upd (w 147) (270 + 3 * N) p) (270 + 3 * N + 1) q) (270 + 3 * N + 2) (nI j) := by rw [m_eq, m_eq, m_eq]
            rw [w_ok d5 (by omega), b_some, o1, w_ok d5 (by omega), b_some, o2, w_ok d5 (by omega), b_some, o3, b_some, w_ok (by omega) (by omega), b_some, w_ok (by omega) (by omega), b_some, w_ok (by omega) (by omega), b_some, hM, up_ne (by omega), up_ne (by omega), up_ne (by omega), n1, b_some, nI_1]
            have nn : nt (nI (N + 1)) = N + 1 := nt_nI (by omega)
            have hv : ∃ v2 : Mem, v2 = mupd (mupd (mupd (mupd v 20 N p) 21 N q) 22 N (nI j)) 19 3 (nI (N + 1)) := ⟨_, rfl⟩
            obtain ⟨v2, hv⟩ := hv
            have hw : ∃ w2 : Mem, w2 = mupd (mupd (mupd (mupd w 147 (270 + 3 * N) p) 147 (270 + 3 * N + 1) q) 147 (270 + 3 * N + 2) (nI j)) 147 88 (nI (N + 1)) := ⟨_, rfl⟩
            obtain ⟨w2, hw⟩ := hw
            have h147 : w2 147 = upd (upd (upd (upd (w 147) (270 + 3 * N) p) (270 + 3 * N + 1) q) (270 + 3 * N + 2) (nI j)) 88 (nI (N + 1)) := by rw [hw, m_eq, hM]
            have h88 : w2 147 88 = nI (N + 1) := by rw [h147, up_eq]
            have hww : ∀ c, c ≠ 147 → w2 c = w c := fun c hc => by rw [hw, m_ne hc, m_ne hc, m_ne hc, m_ne hc]
            have hvv : ∀ c, c < 19 ∨ 22 < c → v2 c = v c := fun c hc => by rw [hv, m_ne (by omega), m_ne (by omega), m_ne (by omega), m_ne (by omega)]
            have v19 : v2 19 3 = nI (N + 1) := by rw [hv, m_eq, up_eq]
            have v20 : v2 20 = upd (v 20) N p := by rw [hv, m_ne (by decide), m_ne (by decide), m_ne (by decide), m_eq]
            have v21 : v2 21 = upd (v 21) N q := by rw [hv, m_ne (by decide), m_ne (by decide), m_eq, m_ne (by decide)]
            have v22 : v2 22 = upd (v 22) N (nI j) := by rw [hv, m_ne (by decide), m_eq, m_ne (by decide), m_ne (by decide)]
            rw [← hv, ← hw, v19, h88]
            have hlo : ∀ k, k ≠ 88 → (k < 270 + 3 * N ∨ 270 + 3 * N + 2 < k) → w2 147 k = w 147 k := fun k hk h2 => by rw [h147, up_ne hk, up_ne (by omega), up_ne (by omega), up_ne (by omega)]
            have hx0 : w2 147 (270 + 3 * N) = p := by rw [h147, up_ne (by omega), up_ne (by omega), up_ne (by omega), up_eq]
            have hx1 : w2 147 (270 + 3 * N + 1) = q := by rw [h147, up_ne (by omega), up_ne (by omega), up_eq]
            have hx2 : w2 147 (270 + 3 * N + 2) = nI j := by rw [h147, up_ne (by omega), up_eq]
            clear hv hw hM o1 o2 o3
            refine ⟨nI (N + 1), v2, w2, by rw [b2_some], rfl, SP_9 h (fun k hk h2 => hlo k hk (by omega)) hww hvv ?_ ?_ ?_ ?_ ?_ ?_⟩ <;> rw [h88] <;> try rw [nn]
            · exact ⟨rfl, by omega⟩
            · intro i hi
              by_cases z : i = N
              · rw [z, hx2]; exact ⟨j, hj, rfl⟩
              · rw [hlo _ (by omega) (by omega)]; exact OkT_sg a.1 i (by omega)
            · exact v19
            · intro i hi
              by_cases z : i = N
              · rw [z, hx0, v20, up_eq]
              · rw [hlo _ (by omega) (by omega), v20, up_ne z]; exact TR_sd b.1.1 i (by omega)
            · intro i hi
              by_cases z : i = N
              · rw [z, hx1, v21, up_eq]
              · rw [hlo _ (by omega) (by omega), v21, up_ne z]; exact TR_sc b.1.1 i (by omega)
            · intro i hi
              by_cases z : i = N
              · rw [z, hx2, v22, up_eq]
              · rw [hlo _ (by omega) (by omega), v22, up_ne z]; exact TR_sg b.1.1 i (by omega)
        · rw [if_neg d3, if_pos rfl]
          refine ⟨-1, v, w, ?_, rfl, h⟩
          by_cases x : r < 0
          · rw [if_pos x]; rfl
          · rw [if_neg x, if_pos (by rw [← Int32.not_le]; exact fun y => d3 ⟨by rw [← Int32.not_lt]; exact x, y⟩)]; rfl
      · rw [if_neg d2, if_pos rfl]
        refine ⟨-1, v, w, ?_, rfl, h⟩
        by_cases x : q < 0
        · rw [if_pos x]; rfl
        · rw [if_neg x, if_pos (by rw [← Int32.not_lt, lt16_le15 q]; exact fun y => d2 ⟨by rw [← Int32.not_lt]; exact x, y⟩)]; rfl
    · rw [if_neg d1, if_pos rfl]
      refine ⟨-1, v, w, ?_, rfl, h⟩
      by_cases x : p < 0
      · rw [if_pos x]; rfl
      · rw [if_neg x, if_pos (by rw [← Int32.not_le]; exact fun y => d1 ⟨by rw [← Int32.not_lt]; exact x, y⟩)]; rfl
