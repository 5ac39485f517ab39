/-! image: the model's copies -/
theorem m_img_ne {w : Mem} {p : Int32} (hp : p ≠ 0) : ∃ w', FX12_image_146_L15 FU p 0 w = FX12_image_146_b67 w' ∧ (∀ k, w' 148 k = if k < 1786 then w 147 k else w 148 k) ∧ ∀ c, c ≠ 148 → w' c = w c := by
  have hh := lp_r (fun F i u => FX12_image_146_L15 F p i u) 1786 (fun i u => (∀ k, u 148 k = if k < i then w 147 k else w 148 k) ∧ ∀ c, c ≠ 148 → u c = w c) (fun o => ∃ w', o = FX12_image_146_b67 w' ∧ (∀ k, w' 148 k = if k < 1786 then w 147 k else w 148 k) ∧ ∀ c, c ≠ 148 → w' c = w c) (fun i u hi h => Or.inl ⟨mupd u 148 i (w 147 i), ⟨fun k => by
    rw [m_eq]
    by_cases c : k = i
    · rw [c, up_eq, if_pos (by omega)]
    · rw [up_ne c, h.1 k]
      by_cases d : k < i
      · rw [if_pos d, if_pos (by omega)]
      · rw [if_neg d, if_neg (by omega)], fun c hc => by rw [m_ne hc]; exact h.2 c hc⟩, fun F => by
    show FX12_image_146_b15 _ _ _ _ = _
    unfold FX12_image_146_b15 FX12_image_146_b53
    rw [if_neg (by rw [li_le (by decide) (by omega)]; show ¬ 1786 ≤ i; omega), if_neg hp, rb (by omega) (by omega), wb (by omega) (by omega), h.2 147 (by decide), nI_1]⟩) (fun u h F => by
    refine ⟨u, ?_, h⟩
    show FX12_image_146_b15 _ _ _ _ = _
    unfold FX12_image_146_b15
    rw [if_pos (by decide), if_neg hp]) FU 0 w (by omega) (by decide) ⟨fun k => by rw [if_neg (by omega)], fun c _ => rfl⟩
  rw [nI_0] at hh; exact hh
theorem m_img_eq {w : Mem} {p : Int32} (hp : p = 0) : ∃ w', FX12_image_146_L15 FU p 0 w = ((FX12_forgetsActs_146 w').bind fun u4 => FX12_image_146_b67 u4) ∧ (∀ k, w' 147 k = if k < 1786 then w 148 k else w 147 k) ∧ ∀ c, c ≠ 147 → w' c = w c := by
  have hh := lp_r (fun F i u => FX12_image_146_L15 F p i u) 1786 (fun i u => (∀ k, u 147 k = if k < i then w 148 k else w 147 k) ∧ ∀ c, c ≠ 147 → u c = w c) (fun o => ∃ w', o = ((FX12_forgetsActs_146 w').bind fun u4 => FX12_image_146_b67 u4) ∧ (∀ k, w' 147 k = if k < 1786 then w 148 k else w 147 k) ∧ ∀ c, c ≠ 147 → w' c = w c) (fun i u hi h => Or.inl ⟨mupd u 147 i (w 148 i), ⟨fun k => by
    rw [m_eq]
    by_cases c : k = i
    · rw [c, up_eq, if_pos (by omega)]
    · rw [up_ne c, h.1 k]
      by_cases d : k < i
      · rw [if_pos d, if_pos (by omega)]
      · rw [if_neg d, if_neg (by omega)], fun c hc => by rw [m_ne hc]; exact h.2 c hc⟩, fun F => by
    show FX12_image_146_b15 _ _ _ _ = _
    unfold FX12_image_146_b15 FX12_image_146_b53
    rw [if_neg (by rw [li_le (by decide) (by omega)]; show ¬ 1786 ≤ i; omega), if_pos hp, rb (by omega) (by omega), wb (by omega) (by omega), h.2 148 (by decide), nI_1]⟩) (fun u h F => by
    refine ⟨u, ?_, h⟩
    show FX12_image_146_b15 _ _ _ _ = _
    unfold FX12_image_146_b15
    rw [if_pos (by decide), if_pos hp]) FU 0 w (by omega) (by decide) ⟨fun k => by rw [if_neg (by omega)], fun c _ => rfl⟩
  rw [nI_0] at hh; exact hh
def lo (W W' : Wt) : Prop := ∀ k, k < 1786 → W' k = W k
theorem opsW_lo {W W' : Wt} (s : lo W W') : ∀ (k p : Nat), p + k ≤ 400 → opsW W' p k = opsW W p k
  | 0, _, _ => rfl
  | k + 1, p, h => by
    show (_, _) :: _ = (_, _) :: _
    rw [s _ (by omega), s _ (by omega), opsW_lo s k (p + 1) (by omega)]
theorem lpk_lo {W W' : Wt} (s : lo W W') {i : Nat} (hi : i < 16) : lp W' i = lp W i ∧ lk W' i = lk W i ∧ ll W' i = ll W i := by
  unfold lp lk ll
  rw [s _ (by omega), s _ (by omega), s _ (by omega)]
  exact ⟨rfl, rfl, rfl⟩
theorem okW_lo {W W' : Wt} (s : lo W W') {p k : Nat} (h : p + k ≤ 400) (hh : okW W p k) : okW W' p k := fun j hj => by
  rw [s _ (by omega), s _ (by omega)]
  exact hh j hj
theorem LW_lo {W W' : Wt} (s : lo W W') (h : LW W) : LW W' := by
  refine ⟨by rw [s 84 (by omega)]; exact h.1, fun i hi => ?_⟩
  rw [s 84 (by omega)] at hi
  have hi16 : i < 16 := Nat.lt_of_lt_of_le hi h.1.2
  have h1 := h.2 i hi
  obtain ⟨a, b, c⟩ := lpk_lo s hi16
  unfold LW1 at h1 ⊢
  obtain ⟨q1, q2, q3, q4, q5, q6, q7, q8⟩ := h1
  rw [a, b, c, s _ (by omega), s _ (by omega), s _ (by omega), s _ (by omega), opsW_lo s _ _ (by omega), opsW_lo s _ _ (by omega)]
  exact ⟨q1, q2, q3, q4, q5, okW_lo s (by omega) q6, q7, q8⟩
theorem LC_lo {t : Nat} {u : Mem} {W W' : Wt} (s : lo W W') (hW : LW W) (h : LC t u W) : LC t u W' := by
  refine ⟨by rw [s 84 (by omega)]; exact h.1, fun i hi => ?_⟩
  rw [s 84 (by omega)] at hi
  have hi16 : i < 16 := Nat.lt_of_lt_of_le hi hW.1.2
  have h1 := h.2 i hi
  have q5 := (hW.2 i hi).2.2.2.2.1
  obtain ⟨a, b, c⟩ := lpk_lo s hi16
  unfold LC1 at h1 ⊢
  rw [a, b, c, s _ (by omega), opsW_lo s _ _ (by omega), opsW_lo s _ _ (by omega)]
  exact h1
