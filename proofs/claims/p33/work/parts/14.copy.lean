/-! a row copied onto another -/
def cpM (u : Mem) (a0 a1 n : Nat) : Mem := mset u a1 (fun j => if j < n then u a0 j else u a1 j)
theorem cpM_at (u : Mem) (a0 a1 n j : Nat) : cpM u a0 a1 n a1 j = if j < n then u a0 j else u a1 j := by simp [cpM, mset]
theorem cpM_ne (u : Mem) {a0 a1 n b : Nat} (h : b ≠ a1) : cpM u a0 a1 n b = u b := by simp [cpM, mset, h]
theorem nI_min {x y : Nat} (hx : x < 2147483648) (hy : y < 2147483648) : (if nI y < nI x then nI y else nI x) = nI (min x y) := by
  by_cases h : y < x
  · rw [if_pos (nI_lt h (by omega)), Nat.min_eq_right (Nat.le_of_lt h)]
  · rw [if_neg (nI_nlt (Nat.not_lt.mp h) (by omega)), Nat.min_eq_left (Nat.not_lt.mp h)]
theorem C_copy {G : Gt} {a0 a1 m0 m1 n : Nat} {u u' : Mem} (hs0 : (SHg G)[a0]? = some (.inl m0)) (hs1 : (SHg G)[a1]? = some (.inl m1)) (h0 : m0 < 100000) (h1 : m1 < 100000) (hn : n = min m0 m1) (g : some (cpM u a0 a1 n) = some u') : CT G yX11_copy cX11_copy 2 none 2 [.ref a0, .ref a1] (SHg G) (RHg G) u (none, (SHg G), (RHg G), u') :=
  ct_of (by decide) rfl (Nat.le_refl 2) (Nat.le_refl _) (Nat.le_refl _) (fun X hX hR => by
  refine w_aload_n 0 0 hX rfl rfl dX11_copy_0 ?_
  refine w_iconst 0 1 hX ic_0 dX11_copy_1 ?_
  refine w_aload_n 1 2 hX rfl rfl dX11_copy_2 ?_
  refine w_iconst 0 3 hX ic_0 dX11_copy_3 ?_
  refine w_aload_n 0 4 hX rfl rfl dX11_copy_4 ?_
  refine w_alen (nI m0) 5 hX hs0 rfl dX11_copy_5 ?_
  refine w_aload_n 1 6 hX rfl rfl dX11_copy_6 ?_
  refine w_alen (nI m1) 7 hX hs1 rfl dX11_copy_7 ?_
  refine w_min 8 hX ml_X11_147 jm_min_s jm_i jm_min_c (by decide) (Nat.le_of_ble_eq_true rfl) (Nat.le_refl _) (Nat.le_refl _) dX11_copy_8 ?_
  have e1 := nI_min (x := m0) (y := m1) (by omega) (by omega)
  have e2 : (nI n).toNatClampNeg = n := nI_clamp (by omega)
  rw [e1, ← hn]
  refine w_copy (st := []) 11 hX hs0 hs1 ml_X11_310 ac_n ac_s ac_i (by decide) (by decide) (nI_pos (by omega)) (by rw [e2]; show 0 + n ≤ m0; omega) (by rw [e2]; show 0 + n ≤ m1; omega) (by decide) (Nat.le_of_ble_eq_true rfl) dX11_copy_11 ?_
  have e3 : mset u a1 (va_cpy (u a0) (u a1) (0 : Int32).toNatClampNeg (0 : Int32).toNatClampNeg (nI n).toNatClampNeg) = u' := by
    rw [e2, ← Option.some.inj g]
    unfold cpM
    congr 1
    funext j
    show (if 0 ≤ j ∧ j < 0 + n then u a0 (0 + (j - 0)) else u a1 j) = _
    by_cases h : j < n
    · rw [if_pos ⟨Nat.zero_le _, by omega⟩, if_pos h]
      congr 1
      omega
    · rw [if_neg (fun q => h (by omega)), if_neg h]
  rw [e3]
  exact w_vret 14 hX hR dX11_copy_14 rfl)
