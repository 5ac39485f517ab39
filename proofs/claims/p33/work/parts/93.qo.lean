/-! the law's text, as it is put together -/
def kz0 : List (Nat × Nat) := [(256, 1), (265, 0), (45, 0)]
def kz1 : List (Nat × Nat) := [(43, 0), (266, 1), (260, 1), (265, 0), (62, 0)]
def kz2 : List (Nat × Nat) := [(262, 1), (263, 1), (40, 0), (268, 0), (62, 0), (1, 1), (261, 1), (264, 0), (61, 0), (1, 1), (262, 1), (271, 0), (62, 0), (1, 0), (41, 0), (59, 0), (256, 1), (265, 0), (47, 0), (1, 0), (45, 0)]
def kz3 : List (Nat × Nat) := [(59, 0), (257, 1), (266, 0), (47, 0), (1, 1), (260, 1), (272, 0), (61, 0), (1, 1), (261, 1), (271, 0), (62, 0)]
def kz4 : List (Nat × Nat) := [(59, 0), (257, 1), (266, 0), (43, 0)]
def kz5 : List (Nat × Nat) := [(45, 0), (1, 0), (59, 0), (258, 1)]
def kz6 : List (Nat × Nat) := [(260, 1), (267, 0), (60, 0)]
def kz7 : List (Nat × Nat) := [(262, 1), (270, 0), (45, 0), (270, 0), (47, 0), (1, 0), (42, 0), (1, 0), (61, 0), (1, 0), (59, 0), (259, 1)]
def kz8 : List (Nat × Nat) := [(43, 0), (269, 0), (42, 0), (1, 0), (59, 0)]
theorem kz_e : KZ = (kz0 ++ ((1, 0) :: (kz1 ++ ((1, 1) :: (kz2 ++ ((1, 0) :: (kz3 ++ ((1, 0) :: (kz4 ++ ((1, 0) :: (kz5 ++ ((1, 1) :: (kz6 ++ ((1, 1) :: (kz7 ++ ((1, 0) :: kz8)))))))))))))))) := rfl
theorem tkX_seg (V : Nat → Nat) : ∀ (l r : List (Nat × Nat)) (i : Nat), tkX V (l ++ r) i = tkX V l i ++ tkX V r (i + l.length)
  | [], _, _ => rfl
  | a :: l, r, i => by
    show tkb a.1 (V i) ++ (blk a.2 ++ tkX V (l ++ r) (i + 1)) = (tkb a.1 (V i) ++ (blk a.2 ++ tkX V l (i + 1))) ++ tkX V r (i + (l.length + 1))
    rw [tkX_seg V l r (i + 1), List.append_assoc, List.append_assoc, show i + 1 + l.length = i + (l.length + 1) by omega]
theorem tkX_sn (V : Nat → Nat) (l r : List (Nat × Nat)) (z i : Nat) : tkX V (l ++ ((1, z) :: r)) i = tkX V l i ++ (dg (V (i + l.length)) ++ (blk z ++ tkX V r (i + l.length + 1))) := by
  rw [tkX_seg]
  rfl
theorem tkX_cg {V V' : Nat → Nat} : ∀ (l : List (Nat × Nat)) (i : Nat), (∀ j, j < l.length → (l.getD j (0, 0)).1 = 1 → V (i + j) = V' (i + j)) → tkX V l i = tkX V' l i
  | [], _, _ => rfl
  | a :: l, i, h => by
    have q := tkX_cg (V := V) (V' := V') l (i + 1) (fun j hj h1 => by
      have q := h (j + 1) (by show j + 1 < l.length + 1; omega) h1
      rw [show i + 1 + j = i + (j + 1) by omega]
      exact q)
    show tkb a.1 (V i) ++ (blk a.2 ++ tkX V l (i + 1)) = tkb a.1 (V' i) ++ (blk a.2 ++ tkX V' l (i + 1))
    rw [q]
    by_cases c : a.1 = 1
    · have q0 := h 0 (by show 0 < l.length + 1; omega) c
      rw [Nat.add_zero] at q0
      rw [q0]
    · unfold tkb
      rw [if_neg c, if_neg c]
theorem VF_c {d d' : Nat → Nat} : ∀ i, i < 77 → i ≠ 3 → i ≠ 9 → i ≠ 31 → i ≠ 44 → i ≠ 49 → i ≠ 54 → i ≠ 58 → i ≠ 71 → VF d i = VF d' i := by
  intro i hi
  match i, hi with
  | 0, _ => intros; rfl
  | 1, _ => intros; rfl
  | 2, _ => intros; rfl
  | 3, _ => intros; omega
  | 4, _ => intros; rfl
  | 5, _ => intros; rfl
  | 6, _ => intros; rfl
  | 7, _ => intros; rfl
  | 8, _ => intros; rfl
  | 9, _ => intros; omega
  | 10, _ => intros; rfl
  | 11, _ => intros; rfl
  | 12, _ => intros; rfl
  | 13, _ => intros; rfl
  | 14, _ => intros; rfl
  | 15, _ => intros; rfl
  | 16, _ => intros; rfl
  | 17, _ => intros; rfl
  | 18, _ => intros; rfl
  | 19, _ => intros; rfl
  | 20, _ => intros; rfl
  | 21, _ => intros; rfl
  | 22, _ => intros; rfl
  | 23, _ => intros; rfl
  | 24, _ => intros; rfl
  | 25, _ => intros; rfl
  | 26, _ => intros; rfl
  | 27, _ => intros; rfl
  | 28, _ => intros; rfl
  | 29, _ => intros; rfl
  | 30, _ => intros; rfl
  | 31, _ => intros; omega
  | 32, _ => intros; rfl
  | 33, _ => intros; rfl
  | 34, _ => intros; rfl
  | 35, _ => intros; rfl
  | 36, _ => intros; rfl
  | 37, _ => intros; rfl
  | 38, _ => intros; rfl
  | 39, _ => intros; rfl
  | 40, _ => intros; rfl
  | 41, _ => intros; rfl
  | 42, _ => intros; rfl
  | 43, _ => intros; rfl
  | 44, _ => intros; omega
  | 45, _ => intros; rfl
  | 46, _ => intros; rfl
  | 47, _ => intros; rfl
  | 48, _ => intros; rfl
  | 49, _ => intros; omega
  | 50, _ => intros; rfl
  | 51, _ => intros; rfl
  | 52, _ => intros; rfl
  | 53, _ => intros; rfl
  | 54, _ => intros; omega
  | 55, _ => intros; rfl
  | 56, _ => intros; rfl
  | 57, _ => intros; rfl
  | 58, _ => intros; omega
  | 59, _ => intros; rfl
  | 60, _ => intros; rfl
  | 61, _ => intros; rfl
  | 62, _ => intros; rfl
  | 63, _ => intros; rfl
  | 64, _ => intros; rfl
  | 65, _ => intros; rfl
  | 66, _ => intros; rfl
  | 67, _ => intros; rfl
  | 68, _ => intros; rfl
  | 69, _ => intros; rfl
  | 70, _ => intros; rfl
  | 71, _ => intros; omega
  | 72, _ => intros; rfl
  | 73, _ => intros; rfl
  | 74, _ => intros; rfl
  | 75, _ => intros; rfl
  | 76, _ => intros; rfl
  | k + 77, h => exact absurd h (by omega)
theorem cz_8 (D : Nat → Nat) : blk 0 ++ tkX (VF D) kz8 72 = bsS 22 := by
  rw [tkX_cg (V' := VF (fun _ => 0)) kz8 72 (fun j hj _ => VF_c _ (by have hj : j < 5 := hj; omega) (by have hj : j < 5 := hj; omega) (by have hj : j < 5 := hj; omega) (by have hj : j < 5 := hj; omega) (by have hj : j < 5 := hj; omega) (by have hj : j < 5 := hj; omega) (by have hj : j < 5 := hj; omega) (by have hj : j < 5 := hj; omega) (by have hj : j < 5 := hj; omega))]
  decide +kernel
theorem cz_7 (D : Nat → Nat) : blk 1 ++ tkX (VF D) kz7 59 = bsS 21 := by
  rw [tkX_cg (V' := VF (fun _ => 0)) kz7 59 (fun j hj _ => VF_c _ (by have hj : j < 12 := hj; omega) (by have hj : j < 12 := hj; omega) (by have hj : j < 12 := hj; omega) (by have hj : j < 12 := hj; omega) (by have hj : j < 12 := hj; omega) (by have hj : j < 12 := hj; omega) (by have hj : j < 12 := hj; omega) (by have hj : j < 12 := hj; omega) (by have hj : j < 12 := hj; omega))]
  decide +kernel
theorem cz_6 (D : Nat → Nat) : blk 1 ++ tkX (VF D) kz6 55 = bsS 20 := by
  rw [tkX_cg (V' := VF (fun _ => 0)) kz6 55 (fun j hj _ => VF_c _ (by have hj : j < 3 := hj; omega) (by have hj : j < 3 := hj; omega) (by have hj : j < 3 := hj; omega) (by have hj : j < 3 := hj; omega) (by have hj : j < 3 := hj; omega) (by have hj : j < 3 := hj; omega) (by have hj : j < 3 := hj; omega) (by have hj : j < 3 := hj; omega) (by have hj : j < 3 := hj; omega))]
  decide +kernel
theorem cz_5 (D : Nat → Nat) : blk 0 ++ tkX (VF D) kz5 50 = bsS 19 := by
  rw [tkX_cg (V' := VF (fun _ => 0)) kz5 50 (fun j hj _ => VF_c _ (by have hj : j < 4 := hj; omega) (by have hj : j < 4 := hj; omega) (by have hj : j < 4 := hj; omega) (by have hj : j < 4 := hj; omega) (by have hj : j < 4 := hj; omega) (by have hj : j < 4 := hj; omega) (by have hj : j < 4 := hj; omega) (by have hj : j < 4 := hj; omega) (by have hj : j < 4 := hj; omega))]
  decide +kernel
theorem cz_4 (D : Nat → Nat) : blk 0 ++ tkX (VF D) kz4 45 = bsS 18 := by
  rw [tkX_cg (V' := VF (fun _ => 0)) kz4 45 (fun j hj _ => VF_c _ (by have hj : j < 4 := hj; omega) (by have hj : j < 4 := hj; omega) (by have hj : j < 4 := hj; omega) (by have hj : j < 4 := hj; omega) (by have hj : j < 4 := hj; omega) (by have hj : j < 4 := hj; omega) (by have hj : j < 4 := hj; omega) (by have hj : j < 4 := hj; omega) (by have hj : j < 4 := hj; omega))]
  decide +kernel
theorem cz_3 (D : Nat → Nat) : blk 0 ++ tkX (VF D) kz3 32 = bsS 17 := by
  rw [tkX_cg (V' := VF (fun _ => 0)) kz3 32 (fun j hj _ => VF_c _ (by have hj : j < 12 := hj; omega) (by have hj : j < 12 := hj; omega) (by have hj : j < 12 := hj; omega) (by have hj : j < 12 := hj; omega) (by have hj : j < 12 := hj; omega) (by have hj : j < 12 := hj; omega) (by have hj : j < 12 := hj; omega) (by have hj : j < 12 := hj; omega) (by have hj : j < 12 := hj; omega))]
  decide +kernel
theorem cz_2 (D : Nat → Nat) : blk 1 ++ tkX (VF D) kz2 10 = bsS 16 := by
  rw [tkX_cg (V' := VF (fun _ => 0)) kz2 10 (fun j hj _ => VF_c _ (by have hj : j < 21 := hj; omega) (by have hj : j < 21 := hj; omega) (by have hj : j < 21 := hj; omega) (by have hj : j < 21 := hj; omega) (by have hj : j < 21 := hj; omega) (by have hj : j < 21 := hj; omega) (by have hj : j < 21 := hj; omega) (by have hj : j < 21 := hj; omega) (by have hj : j < 21 := hj; omega))]
  decide +kernel
theorem cz_1 (D : Nat → Nat) : blk 0 ++ tkX (VF D) kz1 4 = bsS 15 := by
  rw [tkX_cg (V' := VF (fun _ => 0)) kz1 4 (fun j hj _ => VF_c _ (by have hj : j < 5 := hj; omega) (by have hj : j < 5 := hj; omega) (by have hj : j < 5 := hj; omega) (by have hj : j < 5 := hj; omega) (by have hj : j < 5 := hj; omega) (by have hj : j < 5 := hj; omega) (by have hj : j < 5 := hj; omega) (by have hj : j < 5 := hj; omega) (by have hj : j < 5 := hj; omega))]
  decide +kernel
theorem cz_0 (D : Nat → Nat) : blk 0 ++ tkX (VF D) kz0 0 = bsS 14 := by
  rw [tkX_cg (V' := VF (fun _ => 0)) kz0 0 (fun j hj _ => VF_c _ (by have hj : j < 3 := hj; omega) (by have hj : j < 3 := hj; omega) (by have hj : j < 3 := hj; omega) (by have hj : j < 3 := hj; omega) (by have hj : j < 3 := hj; omega) (by have hj : j < 3 := hj; omega) (by have hj : j < 3 := hj; omega) (by have hj : j < 3 := hj; omega) (by have hj : j < 3 := hj; omega))]
  decide +kernel
theorem fz_8 (D : Nat → Nat) : blk 0 ++ tkX (VF D) kz8 72 = bsS 22 := by
  exact cz_8 D
theorem fz_7 (D : Nat → Nat) : blk 1 ++ tkX (VF D) (kz7 ++ ((1, 0) :: kz8)) 59 = bsS 21 ++ (dg (D 6) ++ (bsS 22)) := by
  rw [tkX_sn, ← List.append_assoc, cz_7]
  show bsS 21 ++ (dg (VF D 71) ++ (blk 0 ++ tkX (VF D) kz8 72)) = _
  rw [fz_8]
  rfl
theorem fz_6 (D : Nat → Nat) : blk 1 ++ tkX (VF D) (kz6 ++ ((1, 1) :: (kz7 ++ ((1, 0) :: kz8)))) 55 = bsS 20 ++ (dg (D 4) ++ (bsS 21 ++ (dg (D 6) ++ (bsS 22)))) := by
  rw [tkX_sn, ← List.append_assoc, cz_6]
  show bsS 20 ++ (dg (VF D 58) ++ (blk 1 ++ tkX (VF D) (kz7 ++ ((1, 0) :: kz8)) 59)) = _
  rw [fz_7]
  rfl
theorem fz_5 (D : Nat → Nat) : blk 0 ++ tkX (VF D) (kz5 ++ ((1, 1) :: (kz6 ++ ((1, 1) :: (kz7 ++ ((1, 0) :: kz8)))))) 50 = bsS 19 ++ (dg (D 5) ++ (bsS 20 ++ (dg (D 4) ++ (bsS 21 ++ (dg (D 6) ++ (bsS 22)))))) := by
  rw [tkX_sn, ← List.append_assoc, cz_5]
  show bsS 19 ++ (dg (VF D 54) ++ (blk 1 ++ tkX (VF D) (kz6 ++ ((1, 1) :: (kz7 ++ ((1, 0) :: kz8)))) 55)) = _
  rw [fz_6]
  rfl
theorem fz_4 (D : Nat → Nat) : blk 0 ++ tkX (VF D) (kz4 ++ ((1, 0) :: (kz5 ++ ((1, 1) :: (kz6 ++ ((1, 1) :: (kz7 ++ ((1, 0) :: kz8)))))))) 45 = bsS 18 ++ (dg (D 3) ++ (bsS 19 ++ (dg (D 5) ++ (bsS 20 ++ (dg (D 4) ++ (bsS 21 ++ (dg (D 6) ++ (bsS 22)))))))) := by
  rw [tkX_sn, ← List.append_assoc, cz_4]
  show bsS 18 ++ (dg (VF D 49) ++ (blk 0 ++ tkX (VF D) (kz5 ++ ((1, 1) :: (kz6 ++ ((1, 1) :: (kz7 ++ ((1, 0) :: kz8)))))) 50)) = _
  rw [fz_5]
  rfl
theorem fz_3 (D : Nat → Nat) : blk 0 ++ tkX (VF D) (kz3 ++ ((1, 0) :: (kz4 ++ ((1, 0) :: (kz5 ++ ((1, 1) :: (kz6 ++ ((1, 1) :: (kz7 ++ ((1, 0) :: kz8)))))))))) 32 = bsS 17 ++ (dg (D 2) ++ (bsS 18 ++ (dg (D 3) ++ (bsS 19 ++ (dg (D 5) ++ (bsS 20 ++ (dg (D 4) ++ (bsS 21 ++ (dg (D 6) ++ (bsS 22)))))))))) := by
  rw [tkX_sn, ← List.append_assoc, cz_3]
  show bsS 17 ++ (dg (VF D 44) ++ (blk 0 ++ tkX (VF D) (kz4 ++ ((1, 0) :: (kz5 ++ ((1, 1) :: (kz6 ++ ((1, 1) :: (kz7 ++ ((1, 0) :: kz8)))))))) 45)) = _
  rw [fz_4]
  rfl
theorem fz_2 (D : Nat → Nat) : blk 1 ++ tkX (VF D) (kz2 ++ ((1, 0) :: (kz3 ++ ((1, 0) :: (kz4 ++ ((1, 0) :: (kz5 ++ ((1, 1) :: (kz6 ++ ((1, 1) :: (kz7 ++ ((1, 0) :: kz8)))))))))))) 10 = bsS 16 ++ (dg (D 1) ++ (bsS 17 ++ (dg (D 2) ++ (bsS 18 ++ (dg (D 3) ++ (bsS 19 ++ (dg (D 5) ++ (bsS 20 ++ (dg (D 4) ++ (bsS 21 ++ (dg (D 6) ++ (bsS 22)))))))))))) := by
  rw [tkX_sn, ← List.append_assoc, cz_2]
  show bsS 16 ++ (dg (VF D 31) ++ (blk 0 ++ tkX (VF D) (kz3 ++ ((1, 0) :: (kz4 ++ ((1, 0) :: (kz5 ++ ((1, 1) :: (kz6 ++ ((1, 1) :: (kz7 ++ ((1, 0) :: kz8)))))))))) 32)) = _
  rw [fz_3]
  rfl
theorem fz_1 (D : Nat → Nat) : blk 0 ++ tkX (VF D) (kz1 ++ ((1, 1) :: (kz2 ++ ((1, 0) :: (kz3 ++ ((1, 0) :: (kz4 ++ ((1, 0) :: (kz5 ++ ((1, 1) :: (kz6 ++ ((1, 1) :: (kz7 ++ ((1, 0) :: kz8)))))))))))))) 4 = bsS 15 ++ (dg (D 0) ++ (bsS 16 ++ (dg (D 1) ++ (bsS 17 ++ (dg (D 2) ++ (bsS 18 ++ (dg (D 3) ++ (bsS 19 ++ (dg (D 5) ++ (bsS 20 ++ (dg (D 4) ++ (bsS 21 ++ (dg (D 6) ++ (bsS 22)))))))))))))) := by
  rw [tkX_sn, ← List.append_assoc, cz_1]
  show bsS 15 ++ (dg (VF D 9) ++ (blk 1 ++ tkX (VF D) (kz2 ++ ((1, 0) :: (kz3 ++ ((1, 0) :: (kz4 ++ ((1, 0) :: (kz5 ++ ((1, 1) :: (kz6 ++ ((1, 1) :: (kz7 ++ ((1, 0) :: kz8)))))))))))) 10)) = _
  rw [fz_2]
  rfl
theorem fz_0 (D : Nat → Nat) : blk 0 ++ tkX (VF D) (kz0 ++ ((1, 0) :: (kz1 ++ ((1, 1) :: (kz2 ++ ((1, 0) :: (kz3 ++ ((1, 0) :: (kz4 ++ ((1, 0) :: (kz5 ++ ((1, 1) :: (kz6 ++ ((1, 1) :: (kz7 ++ ((1, 0) :: kz8)))))))))))))))) 0 = bsS 14 ++ (dg (D 0) ++ (bsS 15 ++ (dg (D 0) ++ (bsS 16 ++ (dg (D 1) ++ (bsS 17 ++ (dg (D 2) ++ (bsS 18 ++ (dg (D 3) ++ (bsS 19 ++ (dg (D 5) ++ (bsS 20 ++ (dg (D 4) ++ (bsS 21 ++ (dg (D 6) ++ (bsS 22)))))))))))))))) := by
  rw [tkX_sn, ← List.append_assoc, cz_0]
  show bsS 14 ++ (dg (VF D 3) ++ (blk 0 ++ tkX (VF D) (kz1 ++ ((1, 1) :: (kz2 ++ ((1, 0) :: (kz3 ++ ((1, 0) :: (kz4 ++ ((1, 0) :: (kz5 ++ ((1, 1) :: (kz6 ++ ((1, 1) :: (kz7 ++ ((1, 0) :: kz8)))))))))))))) 4)) = _
  rw [fz_1]
  rfl
theorem law_bytes (D : Nat → Nat) : tkX (VF D) KZ 0 = bsS 14 ++ (dg (D 0) ++ (bsS 15 ++ (dg (D 0) ++ (bsS 16 ++ (dg (D 1) ++ (bsS 17 ++ (dg (D 2) ++ (bsS 18 ++ (dg (D 3) ++ (bsS 19 ++ (dg (D 5) ++ (bsS 20 ++ (dg (D 4) ++ (bsS 21 ++ (dg (D 6) ++ (bsS 22)))))))))))))))) := by
  rw [kz_e]
  exact fz_0 D
