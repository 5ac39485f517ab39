theorem nI_or {U j : Nat} (hj : j < 31) : nI U ||| ((1 : Int32) <<< (nI j &&& 31)) = nI (U ||| 2 ^ j) := by
  refine tb_ext fun k hk => ?_
  rw [nI_shm (by omega), tb_or, tb_nI _ hk, tb_1s (by omega) hk, tb_nI _ hk, Nat.testBit_or]
  by_cases e : k = j
  · rw [e, Nat.testBit_two_pow_self, decide_eq_true rfl]
  · rw [Nat.testBit_two_pow_of_ne (fun h => e h.symm), decide_eq_false e]
