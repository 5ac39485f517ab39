def kC (R : Nat → Nat → Nat) (src : Nat → Bool) (man : Nat) (S : Nat → Bool) : Prop := (∀ t, t < 12 → src t = true → S t = true) ∧ S man = false ∧ ∀ i j, i < 12 → j < 12 → S i = true → S j = false → R i j = 0
theorem nI_dec {a : Nat} (h : 0 < a) : nI a - 1 = nI (a - 1) := sub_li (k := 1) (by show 1 ≤ a; omega)
