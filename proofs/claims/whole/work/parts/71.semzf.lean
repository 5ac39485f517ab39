/-! image: the model's copies -/
theorem m_img_ne {w : Mem} {p : Int32} (hp : p ≠ 0) : ∃ w', FX12_image_146_L15 FU p 0 w = FX12_image_146_b67 w' ∧ (∀ k, w' 148 k = if k < 1786 then w 147 k else w 148 k) ∧ ∀ c, c ≠ 148 → w' c = w c := by
  have hh := lp_r (fun F i u => FX12_image_146_L15 F p i u) 1786 (fun i u => (∀ k, u 148 k = if k < i then w 147 k else w 148 k) ∧ ∀ c, c ≠ 148 → u c = w c) (fun o => ∃ w', o = FX12_image_146_b67 w' ∧ (∀ k, w' 148 k = if k < 1786 then w 147 k else w 148 k) ∧ ∀ c, c ≠ 148 → w' c = w c) (fun i u hi h => Or.inl ⟨mupd u 148 i (w 147 i), ⟨fun k => by
    rw [m_eq]
    by_cases c : k = i
    · rw [c, up_eq, if_pos (by omega)]
    · rw [up_ne c, h.1 k]
      by_cases d : k < i
      · rw [if_pos d, if_pos (by omega)]
      · rw [if_neg d, if_neg (by omega)], fun c hc => by rw [m_ne hc]; exact h.2 c hc⟩, fun F => by
    show FX12_image_146_b15 _ _ _ _ = _
    unfold FX12_image_146_b15 FX12_image_146_b53
    rw [if_neg (by rw [li_le (by decide) (by omega)]; show ¬ 1786 ≤ i; omega), if_neg hp, rb (by omega) (by omega), wb (by omega) (by omega), h.2 147 (by decide), nI_1]⟩) (fun u h F => by
    refine ⟨u, ?_, h⟩
    show FX12_image_146_b15 _ _ _ _ = _
    unfold FX12_image_146_b15
    rw [if_pos (by decide), if_neg hp]) FU 0 w (by omega) (by decide) ⟨fun k => by rw [if_neg (by omega)], fun c _ => rfl⟩
  rw [nI_0] at hh; exact hh
theorem m_img_eq {w : Mem} {p : Int32} (hp : p = 0) : ∃ w', FX12_image_146_L15 FU p 0 w = ((FX12_forgetsActs_146 w').bind fun u4 => FX12_image_146_b67 u4) ∧ (∀ k, w' 147 k = if k < 1786 then w 148 k else w 147 k) ∧ ∀ c, c ≠ 147 → w' c = w c := by
  have hh := lp_r (fun F i u => FX12_image_146_L15 F p i u) 1786 (fun i u => (∀ k, u 147 k = if k < i then w 148 k else w 147 k) ∧ ∀ c, c ≠ 147 → u c = w c) (fun o => ∃ w', o = ((FX12_forgetsActs_146 w').bind fun u4 => FX12_image_146_b67 u4) ∧ (∀ k, w' 147 k = if k < 1786 then w 148 k else w 147 k) ∧ ∀ c, c ≠ 147 → w' c = w c) (fun i u hi h => Or.inl ⟨mupd u 147 i (w 148 i), ⟨fun k => by
    rw [m_eq]
    by_cases c : k = i
    · rw [c, up_eq, if_pos (by omega)]
    · rw [up_ne c, h.1 k]
      by_cases d : k < i
      · rw [if_pos d, if_pos (by omega)]
      · rw [if_neg d, if_neg (by omega)], fun c hc => by rw [m_ne hc]; exact h.2 c hc⟩, fun F => by
    show FX12_image_146_b15 _ _ _ _ = _
    unfold FX12_image_146_b15 FX12_image_146_b53
    rw [if_neg (by rw [li_le (by decide) (by omega)]; show ¬ 1786 ≤ i; omega), if_pos hp, rb (by omega) (by omega), wb (by omega) (by omega), h.2 148 (by decide), nI_1]⟩) (fun u h F => by
    refine ⟨u, ?_, h⟩
    show FX12_image_146_b15 _ _ _ _ = _
    unfold FX12_image_146_b15
    rw [if_pos (by decide), if_pos hp]) FU 0 w (by omega) (by decide) ⟨fun k => by rw [if_neg (by omega)], fun c _ => rfl⟩
  rw [nI_0] at hh; exact hh
def lo (W W' : Wt) : Prop := ∀ k, k < 1786 → W' k = W k
theorem opsW_lo {W W' : Wt} (s : lo W W') : ∀ (k p : Nat), p + k ≤ 400 → opsW W' p k = opsW W p k
  | 0, _, _ => rfl
  | k + 1, p, h => by
    show (_, _) :: _ = (_, _) :: _
    rw [s _ (by omega), s _ (by omega), opsW_lo s k (p + 1) (by omega)]
theorem lpk_lo {W W' : Wt} (s : lo W W') {i : Nat} (hi : i < 16) : lp W' i = lp W i ∧ lk W' i = lk W i ∧ ll W' i = ll W i := by
  unfold lp lk ll
  rw [s _ (by omega), s _ (by omega), s _ (by omega)]
  exact ⟨rfl, rfl, rfl⟩
theorem okW_lo {W W' : Wt} (s : lo W W') {p k : Nat} (h : p + k ≤ 400) (hh : okW W p k) : okW W' p k := fun j hj => by
  rw [s _ (by omega), s _ (by omega)]
  exact hh j hj
theorem LW_lo {W W' : Wt} (s : lo W W') (h : LW W) : LW W' := by
  refine ⟨by rw [s 84 (by omega)]; exact h.1, fun i hi => ?_⟩
  rw [s 84 (by omega)] at hi
  have hi16 : i < 16 := Nat.lt_of_lt_of_le hi h.1.2
  have h1 := h.2 i hi
  obtain ⟨a, b, c⟩ := lpk_lo s hi16
  unfold LW1 at h1 ⊢
  obtain ⟨q1, q2, q3, q4, q5, q6, q7, q8⟩ := h1
  rw [a, b, c, s _ (by omega), s _ (by omega), s _ (by omega), s _ (by omega), opsW_lo s _ _ (by omega), opsW_lo s _ _ (by omega)]
  exact ⟨q1, q2, q3, q4, q5, okW_lo s (by omega) q6, q7, q8⟩
theorem LC_lo {t : Nat} {u : Mem} {W W' : Wt} (s : lo W W') (hW : LW W) (h : LC t u W) : LC t u W' := by
  refine ⟨by rw [s 84 (by omega)]; exact h.1, fun i hi => ?_⟩
  rw [s 84 (by omega)] at hi
  have hi16 : i < 16 := Nat.lt_of_lt_of_le hi hW.1.2
  have h1 := h.2 i hi
  have q5 := (hW.2 i hi).2.2.2.2.1
  obtain ⟨a, b, c⟩ := lpk_lo s hi16
  unfold LC1 at h1 ⊢
  rw [a, b, c, s _ (by omega), opsW_lo s _ _ (by omega), opsW_lo s _ _ (by omega)]
  exact h1
theorem OkT_lo {W W' : Wt} (s : lo W W') (h : OkT W) : OkT W' := by
  have hn : nmen W' = nmen W := by unfold nmen; rw [s 78 (by omega)]
  have e78 := s 78 (by omega)
  have e85 := s 85 (by omega)
  have e86 := s 86 (by omega)
  have e87 := s 87 (by omega)
  have e88 := s 88 (by omega)
  refine ⟨by rw [e78, hn]; exact OkT_n h, fun m hm => by rw [s _ (by omega)]; exact OkT_co h m hm, fun m hm => by rw [s _ (by omega)]; exact OkT_ag h m hm, fun m hm => by rw [s _ (by omega), hn]; exact OkT_le h m hm, by rw [s _ (by omega)]; exact OkT_keep h, by rw [s _ (by omega)]; exact OkT_rain h, by rw [s _ (by omega)]; exact OkT_tea h, fun c hc => by rw [s _ (by omega)]; exact OkT_wa h c hc, fun c hc => by rw [s _ (by omega)]; exact OkT_hi h c hc, by rw [e85]; exact OkT_tn h, by rw [e86]; exact OkT_wn h, by rw [e87]; exact OkT_on h, by rw [e88]; exact OkT_sn h, fun i hi => ?_, fun i hi => ?_, fun i hi => ?_⟩
  · rw [e85] at hi
    have := (OkT_tn h).2
    rw [s _ (by omega), s _ (by omega), hn]
    exact OkT_te h i hi
  · rw [e86] at hi
    have := (OkT_wn h).2
    rw [s _ (by omega), s _ (by omega)]
    exact OkT_we h i hi
  · rw [e88] at hi
    have := (OkT_sn h).2
    rw [s _ (by omega)]
    exact OkT_sg h i hi
theorem sTold_lo {W W' : Wt} (s : lo W W') (h : OkT W) (m : Int32) : sTold W' m = sTold W m := by
  have := (OkT_tn h).2
  refine fo_n (by rw [s 85 (by omega)]) (fun i z hi => ?_)
  rw [s _ (by omega), s _ (by omega)]
theorem sWt1_lo {W W' : Wt} (s : lo W W') (h : OkT W) (m : Int32) : sWt1 W' m = sWt1 W m := by
  have := (OkT_wn h).2
  refine fo_n (by rw [s 86 (by omega)]) (fun i z hi => ?_)
  rw [s _ (by omega), s _ (by omega)]
theorem sHills_lo {W W' : Wt} (s : lo W W') : sHills W' = sHills W := by
  refine fo_n rfl (fun i z hi => ?_)
  rw [s _ (by omega)]
theorem TR_lo {t : Nat} {u : Mem} {W W' : Wt} (s : lo W W') (h : OkT W) (hT : TR t u W) : TR t u W' := by
  have e87 := s 87 (by omega)
  have e88 := s 88 (by omega)
  have o := (OkT_on h).2
  have l := (OkT_sn h).2
  refine ⟨by rw [s _ (by omega)]; exact TR_men hT, by rw [s _ (by omega)]; exact TR_keep hT, by rw [s _ (by omega)]; exact TR_rain hT, by rw [s _ (by omega)]; exact TR_tea hT, by rw [sHills_lo s]; exact TR_hi hT, by rw [s _ (by omega)]; exact TR_tl hT, by rw [s _ (by omega)]; exact TR_wl hT, fun m hm => by rw [s _ (by omega)]; exact TR_co hT m hm, fun m hm => by rw [s _ (by omega)]; exact TR_ag hT m hm, fun m hm => by rw [s _ (by omega)]; exact TR_le hT m hm, fun m hm => by rw [sTold_lo s h]; exact TR_te hT m hm, fun c hc => by rw [s _ (by omega)]; exact TR_wa hT c hc, fun f hf => by rw [sWt1_lo s h]; exact TR_we hT f hf, by rw [e87]; exact TR_ol hT, fun i hi => ?_, fun i hi => ?_, fun i hi => ?_, by rw [e88]; exact TR_sl hT, fun i hi => ?_, fun i hi => ?_, fun i hi => ?_⟩
  · rw [e87] at hi; rw [s _ (by omega)]; exact TR_od hT i hi
  · rw [e87] at hi; rw [s _ (by omega)]; exact TR_oc hT i hi
  · rw [e87] at hi; rw [s _ (by omega)]; exact TR_or hT i hi
  · rw [e88] at hi; rw [s _ (by omega)]; exact TR_sd hT i hi
  · rw [e88] at hi; rw [s _ (by omega)]; exact TR_sc hT i hi
  · rw [e88] at hi; rw [s _ (by omega)]; exact TR_sg hT i hi
theorem WO_lo {W W' : Wt} (s : lo W W') (h : WO W) : WO W' := ⟨OkT_lo s h.1, OkD_cg (fun k hk => s k (by omega)) h.2.1, LW_lo s h.2.2⟩
