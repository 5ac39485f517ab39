theorem sem_all (L : Nat) (xs : Nat → Int32) (hL : L ≤ 3072) : FLW_L18 L xs FU 0 e_u43 = some 1 := sorry
