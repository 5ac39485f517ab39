/-! slipper -/
def e9 (W W' : Wt) : Prop := ∀ k, k ≠ 88 → (k < 270 ∨ 300 ≤ k) → W' k = W k
