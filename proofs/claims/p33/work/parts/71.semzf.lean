def lo (W W' : Wt) : Prop := ∀ k, k < 1786 → W' k = W k
