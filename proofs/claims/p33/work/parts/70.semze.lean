theorem nI_0le {k : Nat} (h : k < 2147483648) : (0 : Int32) ≤ nI k := by rw [show (0 : Int32) = nI 0 from nI_0.symm, nn_le (by omega) h]; omega
