/-! image: the model's copies -/
theorem m_img_ne {w : Mem} {p : Int32} (hp : p ≠ 0) : ∃ w', FX12_image_146_L15 FU p 0 w = FX12_image_146_b67 w' ∧ (∀ k, w' 148 k = if k < 1786 then w 147 k else w 148 k) ∧ ∀ c, c ≠ 148 → w' c = w c := by
  have hh := lp_r (fun F i u => FX12_image_146_L15 F p i u) 1786 (fun i u => (∀ k, u 148 k = if k < i then w 147 k else w 148 k) ∧ ∀ c, c ≠ 148 → u c = w c) (fun o => ∃ w', o = FX12_image_146_b67 w' ∧ (∀ k, w' 148 k = if k < 1786 then w 147 k else w 148 k) ∧ ∀ c, c ≠ 148 → w' c = w c) (fun i u hi h => Or.inl ⟨mupd u 148 i (w 147 i), ⟨fun k => by
    rw [m_eq]
    by_cases c : k = i
    · rw [c, up_eq, if_pos (by omega)]
    · rw [up_ne c, h.1 k]
      by_cases d : k < i
      · rw [if_pos d, if_pos (by omega)]
      · rw [if_neg d, if_neg (by omega)], fun c hc => by rw [m_ne hc]; exact h.2 c hc⟩, fun F => by
    show FX12_image_146_b15 _ _ _ _ = _
    unfold FX12_image_146_b15 FX12_image_146_b53
    rw [if_neg (by rw [li_le (by decide) (by omega)]; show ¬ 1786 ≤ i; omega), if_neg hp, rb (by omega) (by omega), wb (by omega) (by omega), h.2 147 (by decide), nI_1]⟩) (fun u h F => by
    refine ⟨u, ?_, h⟩
    show FX12_image_146_b15 _ _ _ _ = _
    unfold FX12_image_146_b15
    rw [if_pos (by decide), if_neg hp]) FU 0 w (by omega) (by decide) ⟨fun k => by rw [if_neg (by omega)], fun c _ => rfl⟩
  rw [nI_0] at hh; exact hh
theorem m_img_eq {w : Mem} {p : Int32} (hp : p = 0) : ∃ w', FX12_image_146_L15 FU p 0 w = ((FX12_forgetsActs_146 w').bind fun u4 => FX12_image_146_b67 u4) ∧ (∀ k, w' 147 k = if k < 1786 then w 148 k else w 147 k) ∧ ∀ c, c ≠ 147 → w' c = w c := by
  have hh := lp_r (fun F i u => FX12_image_146_L15 F p i u) 1786 (fun i u => (∀ k, u 147 k = if k < i then w 148 k else w 147 k) ∧ ∀ c, c ≠ 147 → u c = w c) (fun o => ∃ w', o = ((FX12_forgetsActs_146 w').bind fun u4 => FX12_image_146_b67 u4) ∧ (∀ k, w' 147 k = if k < 1786 then w 148 k else w 147 k) ∧ ∀ c, c ≠ 147 → w' c = w c) (fun i u hi h => Or.inl ⟨mupd u 147 i (w 148 i), ⟨fun k => by
    rw [m_eq]
    by_cases c : k = i
    · rw [c, up_eq, if_pos (by omega)]
    · rw [up_ne c, h.1 k]
      by_cases d : k < i
      · rw [if_pos d, if_pos (by omega)]
      · rw [if_neg d, if_neg (by omega)], fun c hc => by rw [m_ne hc]; exact h.2 c hc⟩, fun F => by
    show FX12_image_146_b15 _ _ _ _ = _
    unfold FX12_image_146_b15 FX12_image_146_b53
    rw [if_neg (by rw [li_le (by decide) (by omega)]; show ¬ 1786 ≤ i; omega), if_pos hp, rb (by omega) (by omega), wb (by omega) (by omega), h.2 148 (by decide), nI_1]⟩) (fun u h F => by
    refine ⟨u, ?_, h⟩
    show FX12_image_146_b15 _ _ _ _ = _
    unfold FX12_image_146_b15
    rw [if_pos (by decide), if_pos hp]) FU 0 w (by omega) (by decide) ⟨fun k => by rw [if_neg (by omega)], fun c _ => rfl⟩
  rw [nI_0] at hh; exact hh
