/-! tokens of the law's text -/
def tkb (k v : Nat) : List Nat := if k = 1 then dg v else if 255 < k then (woL 0).getD (k - 256) [] else [k]
def tkX (V : Nat → Nat) : List (Nat × Nat) → Nat → List Nat
  | [], _ => []
  | a :: r, i => tkb a.1 (V i) ++ (blk a.2 ++ tkX V r (i + 1))
def tkq (k : Nat) : Nat := if k = 1 then 1 else if 255 < k then 2 else 0
def tkN (q : Nat) : List (Nat × Nat) → Bool
  | [] => true
  | c :: _ => decide (tkq c.1 ≠ q)
def tkV (k : Nat) : Bool := decide (k = 1) || (decide (255 < k ∧ k < 273) || sgn k)
/-- two tokens with nothing between them are of two classes -/
def tkY : List (Nat × Nat) → Bool
  | [] => true
  | a :: r => tkV a.1 && ((decide (0 < a.2) || (decide (tkq a.1 = 0) || tkN (tkq a.1) r)) && tkY r)
theorem woL_ok : ∀ j, j < 17 → (woL 0).getD j [] ≠ [] ∧ (∀ c ∈ (woL 0).getD j [], isLt c = true) ∧ kwF (woL 0) 0 ((woL 0).getD j []) = 256 + j := by decide +kernel
theorem tkV_c {k : Nat} (h : tkV k = true) : k = 1 ∨ (255 < k ∧ k < 273) ∨ (sgn k = true ∧ k ≠ 1 ∧ ¬ 255 < k) := by
  unfold tkV at h
  simp only [Bool.or_eq_true, decide_eq_true_eq] at h
  rcases h with h | h | h
  · exact Or.inl h
  · exact Or.inr (Or.inl h)
  · have := sgn_le k h
    by_cases c : k = 1
    · exact Or.inl c
    · exact Or.inr (Or.inr ⟨h, c, by omega⟩)
theorem tkb_1 (v : Nat) : tkb 1 v = dg v := if_pos rfl
theorem tkb_w {k : Nat} (h : 255 < k) (v : Nat) : tkb k v = (woL 0).getD (k - 256) [] := by
  unfold tkb
  rw [if_neg (by omega), if_pos h]
theorem tkb_s {k : Nat} (h1 : k ≠ 1) (h : ¬ 255 < k) (v : Nat) : tkb k v = [k] := by
  unfold tkb
  rw [if_neg h1, if_neg h]
theorem tkb_hd {k v : Nat} (h : tkV k = true) (hv : v < 1000) (r : List Nat) : hd isBl (tkb k v ++ r) = true ∧ (tkq k ≠ 2 → hd isLt (tkb k v ++ r) = true) ∧ (tkq k ≠ 1 → hd isDg (tkb k v ++ r) = true) := by
  rcases tkV_c h with rfl | ⟨h1, h2⟩ | ⟨h1, h2, h3⟩
  · rw [tkb_1]
    obtain ⟨a1, a2⟩ := hd_dg hv r
    exact ⟨a1, fun _ => a2, fun z => absurd rfl z⟩
  · rw [tkb_w h1]
    obtain ⟨a1, a2, a3⟩ := woL_ok (k - 256) (by omega)
    have ec : tkq k = 2 := by unfold tkq; rw [if_neg (by omega), if_pos h1]
    cases e : (woL 0).getD (k - 256) [] with
    | nil => exact absurd e a1
    | cons c cs =>
      have lc : isLt c = true := a2 c (by rw [e]; exact List.mem_cons_self ..)
      obtain ⟨b1, b2⟩ := lt_dg lc
      refine ⟨?_, fun z => absurd ec z, fun _ => ?_⟩
      · show (!isBl c) = true
        rw [b2]; rfl
      · show (!isDg c) = true
        rw [b1]; rfl
  · rw [tkb_s h2 h3]
    obtain ⟨b1, b2, b3⟩ := sg_lt h1
    refine ⟨?_, fun _ => ?_, fun _ => ?_⟩
    · show (!isBl k) = true
      rw [b3]; rfl
    · show (!isLt k) = true
      rw [b1]; rfl
    · show (!isDg k) = true
      rw [b2]; rfl
theorem tkY_c {a : Nat × Nat} {r : List (Nat × Nat)} (h : tkY (a :: r) = true) : tkV a.1 = true ∧ (0 < a.2 ∨ tkq a.1 = 0 ∨ tkN (tkq a.1) r = true) ∧ tkY r = true := by
  have h : (tkV a.1 && ((decide (0 < a.2) || (decide (tkq a.1 = 0) || tkN (tkq a.1) r)) && tkY r)) = true := h
  simp only [Bool.and_eq_true, Bool.or_eq_true, decide_eq_true_eq] at h
  exact ⟨h.1, h.2.1, h.2.2⟩
theorem tkX_hd {V : Nat → Nat} (hV : ∀ i, V i < 1000) (r : List (Nat × Nat)) (i : Nat) (h : tkY r = true) : hd isBl (tkX V r i) = true ∧ (tkN 2 r = true → hd isLt (tkX V r i) = true) ∧ (tkN 1 r = true → hd isDg (tkX V r i) = true) := by
  cases r with
  | nil => exact ⟨rfl, fun _ => rfl, fun _ => rfl⟩
  | cons a r =>
    obtain ⟨h1, h2, h3⟩ := tkY_c h
    obtain ⟨b1, b2, b3⟩ := tkb_hd h1 (hV i) (blk a.2 ++ tkX V r (i + 1))
    exact ⟨b1, fun z => b2 (of_decide_eq_true z), fun z => b3 (of_decide_eq_true z)⟩
theorem tk_all {V : Nat → Nat} (hV : ∀ i, V i < 1000) {b : Nat → Nat} {n : Nat} {v0 : Int32} : ∀ (l : List (Nat × Nat)) (i p : Nat), tkY l = true → Sx b n p (tkX V l i) → qs b n i = p → (∀ j, j < l.length → kk 0 b n (i + j) = (l.getD j (0, 0)).1 ∧ ((l.getD j (0, 0)).1 = 1 → vv b n v0 (i + j) = V (i + j))) ∧ qs b n (i + l.length) = n := by
  intro l
  induction l with
  | nil =>
    intro i p _ hS hq
    refine ⟨fun j hj => absurd hj (Nat.not_lt_zero j), ?_⟩
    exact (sx_e 0 hS hq).2
  | cons a r ih =>
    intro i p hY hS hq
    obtain ⟨k, z⟩ := a
    obtain ⟨h1, h2, h3⟩ := tkY_c hY
    obtain ⟨x1, x2, x3⟩ := tkX_hd hV r (i + 1) h3
    have hS : Sx b n p (tkb k (V i) ++ (blk z ++ tkX V r (i + 1))) := hS
    have h2 : 0 < z ∨ tkq k = 0 ∨ tkN (tkq k) r = true := h2
    have main : (kk 0 b n i = k ∧ (k = 1 → vv b n v0 i = V i)) ∧ ∃ p', qs b n (i + 1) = p' ∧ Sx b n p' (tkX V r (i + 1)) := by
      rcases tkV_c h1 with e | ⟨e1, e2⟩ | ⟨e1, e2, e3⟩
      · have e : k = 1 := e
        subst e
        rw [tkb_1] at hS
        have hy : 0 < z ∨ hd isDg (tkX V r (i + 1)) = true := by
          rcases h2 with q | q | q
          · exact Or.inl q
          · exact absurd q (by decide)
          · exact Or.inr (x3 q)
        obtain ⟨⟨q1, q2, q3⟩, q4⟩ := sx_n 0 v0 hS hq (hV i) x1 hy
        exact ⟨⟨q1, fun _ => q2⟩, q4⟩
      · have e1 : 255 < k := e1
        have e2 : k < 273 := e2
        rw [tkb_w e1] at hS
        obtain ⟨a1, a2, a3⟩ := woL_ok (k - 256) (by omega)
        have ec : tkq k = 2 := by unfold tkq; rw [if_neg (by omega), if_pos e1]
        have hy : 0 < z ∨ hd isLt (tkX V r (i + 1)) = true := by
          rcases h2 with q | q | q
          · exact Or.inl q
          · rw [ec] at q; exact absurd q (by decide)
          · rw [ec] at q; exact Or.inr (x2 q)
        obtain ⟨q1, q4⟩ := sx_w 0 hS hq a1 a2 x1 hy
        exact ⟨⟨by rw [q1, a3]; omega, fun w => by omega⟩, q4⟩
      · have e1 : sgn k = true := e1
        have e2 : k ≠ 1 := e2
        rw [tkb_s e2 e3] at hS
        obtain ⟨q1, q4⟩ := sx_s 0 hS hq e1 x1
        exact ⟨⟨q1, fun w => absurd w e2⟩, q4⟩
    obtain ⟨m1, p', m2, m3⟩ := main
    obtain ⟨r1, r2⟩ := ih (i + 1) p' h3 m3 m2
    refine ⟨fun j hj => ?_, ?_⟩
    · cases j with
      | zero => exact m1
      | succ j =>
        have q := r1 j (by have : j + 1 < r.length + 1 := hj; omega)
        rw [show i + 1 + j = i + (j + 1) by omega] at q
        exact q
    · rw [show i + ((k, z) :: r).length = i + 1 + r.length by show i + (r.length + 1) = _; omega]
      exact r2
theorem tkX_len {V : Nat → Nat} (hV : ∀ i, V i < 1000) : ∀ (l : List (Nat × Nat)) (i : Nat), tkY l = true → l.length ≤ (tkX V l i).length
  | [], _, _ => Nat.le_refl _
  | a :: r, i, h => by
    obtain ⟨h1, h2, h3⟩ := tkY_c h
    have q := tkX_len hV r (i + 1) h3
    have ne : 1 ≤ (tkb a.1 (V i)).length := by
      rcases tkV_c h1 with e | ⟨e1, e2⟩ | ⟨e1, e2, e3⟩
      · rw [e, tkb_1]; exact List.length_pos_iff.mpr (dg_d _ (hV i)).2.1
      · rw [tkb_w e1]; exact List.length_pos_iff.mpr (woL_ok (a.1 - 256) (by omega)).1
      · rw [tkb_s e2 e3]; exact Nat.le_refl _
    show r.length + 1 ≤ (tkb a.1 (V i) ++ (blk a.2 ++ tkX V r (i + 1))).length
    rw [List.length_append, List.length_append]
    omega
theorem tkX_c {V : Nat → Nat} (hV : ∀ i, V i < 1000) : ∀ (l : List (Nat × Nat)) (i : Nat), tkY l = true → ∀ c ∈ tkX V l i, c < 128
  | [], _, _, c, hc => by cases hc
  | a :: r, i, h, c, hc => by
    obtain ⟨h1, h2, h3⟩ := tkY_c h
    rcases List.mem_append.mp (show c ∈ tkb a.1 (V i) ++ (blk a.2 ++ tkX V r (i + 1)) from hc) with hc | hc
    · rcases tkV_c h1 with e | ⟨e1, e2⟩ | ⟨e1, e2, e3⟩
      · rw [e, tkb_1] at hc; exact dg_c _ (hV i) c hc
      · rw [tkb_w e1] at hc
        have key : ∀ j, j < 17 → ∀ c ∈ (woL 0).getD j [], c < 128 := by decide +kernel
        exact key (a.1 - 256) (by omega) c hc
      · rw [tkb_s e2 e3] at hc
        have := sgn_le _ e1
        rw [List.mem_singleton.mp hc]
        omega
    · rcases List.mem_append.mp hc with hc | hc
      · rw [List.eq_of_mem_replicate hc]; decide
      · exact tkX_c hV r (i + 1) h3 c hc
theorem qs_n {b : Nat → Nat} {n i : Nat} (h : qs b n i = n) : ∀ k, qs b n (i + k) = n
  | 0 => h
  | k + 1 => by
    show ed isBl b n (te b n (qs b n (i + k))) = n
    rw [qs_n h k]
    unfold te
    rw [if_pos (Nat.le_refl _)]
    exact ed_e (Nat.le_refl _)
/-- the tokens of the law that is told: kind, blanks behind -/
def KZ : List (Nat × Nat) := [(256, 1), (265, 0), (45, 0), (1, 0), (43, 0), (266, 1), (260, 1), (265, 0), (62, 0), (1, 1), (262, 1), (263, 1), (40, 0), (268, 0), (62, 0), (1, 1), (261, 1), (264, 0), (61, 0), (1, 1), (262, 1), (271, 0), (62, 0), (1, 0), (41, 0), (59, 0), (256, 1), (265, 0), (47, 0), (1, 0), (45, 0), (1, 0), (59, 0), (257, 1), (266, 0), (47, 0), (1, 1), (260, 1), (272, 0), (61, 0), (1, 1), (261, 1), (271, 0), (62, 0), (1, 0), (59, 0), (257, 1), (266, 0), (43, 0), (1, 0), (45, 0), (1, 0), (59, 0), (258, 1), (1, 1), (260, 1), (267, 0), (60, 0), (1, 1), (262, 1), (270, 0), (45, 0), (270, 0), (47, 0), (1, 0), (42, 0), (1, 0), (61, 0), (1, 0), (59, 0), (259, 1), (1, 0), (43, 0), (269, 0), (42, 0), (1, 0), (59, 0)]
def VL (d : Nat → Nat) : List Nat := [0, 0, 0, d 0, 0, 0, 0, 0, 0, d 0, 0, 0, 0, 0, 0, 3, 0, 0, 0, 1, 0, 0, 0, 5, 0, 0, 0, 0, 0, 9, 0, d 1, 0, 0, 0, 0, 2, 0, 0, 0, 1, 0, 0, 0, d 2, 0, 0, 0, 0, d 3, 0, 3, 0, 0, d 5, 0, 0, 0, d 4, 0, 0, 0, 0, 0, 2, 0, 2, 0, 0, 0, 0, d 6, 0, 0, 0, 3, 0]
def kLw (i : Nat) : Nat := (KZ.getD i (0, 0)).1
def VF (d : Nat → Nat) (i : Nat) : Nat := (VL d).getD i 0
theorem KZ_Y : tkY KZ = true := by decide
theorem KZ_len : KZ.length = 77 := rfl
theorem VF_lt {d : Nat → Nat} (hD : ∀ k, d k < 1000) (i : Nat) : VF d i < 1000 := by
  have key : ∀ (l : List Nat), (∀ x ∈ l, x < 1000) → ∀ i, l.getD i 0 < 1000 := fun l => by
    induction l with
    | nil => intro _ i; exact (by decide : 0 < 1000)
    | cons a l ih =>
      intro h i
      cases i with
      | zero => exact h a (List.mem_cons_self ..)
      | succ i => exact ih (fun x hx => h x (List.mem_cons_of_mem _ hx)) i
  refine key _ (fun x hx => ?_) i
  have h0 := hD 0
  have h1 := hD 1
  have h2 := hD 2
  have h3 := hD 3
  have h4 := hD 4
  have h5 := hD 5
  have h6 := hD 6
  simp only [VL, List.mem_cons, List.not_mem_nil, or_false] at hx
  omega
theorem kk_law {d : Nat → Nat} (hD : ∀ k, d k < 1000) {bs : List Nat} (e : bs = tkX (VF d) KZ 0) (v0 : Int32) : kk 0 (chF bs) bs.length = kLw ∧ (∀ i, kLw i = 1 → vv (chF bs) bs.length v0 i = VF d i) ∧ qs (chF bs) bs.length 77 = bs.length ∧ (∀ j, j < 77 → qs (chF bs) bs.length j < bs.length) ∧ 77 ≤ bs.length := by
  have hS : Sx (chF bs) bs.length 0 (tkX (VF d) KZ 0) := by
    have q := Sx_all bs
    rw [← e]
    exact q
  have hq := qs_0 hS (tkX_hd (VF_lt hD) KZ 0 KZ_Y).1
  obtain ⟨t1, t2⟩ := tk_all (v0 := v0) (VF_lt hD) KZ 0 0 KZ_Y hS hq
  rw [KZ_len] at t1 t2
  have eK : kk 0 (chF bs) bs.length = kLw := by
    funext i
    by_cases c : i < 77
    · have q := (t1 i c).1
      rw [Nat.zero_add] at q
      exact q
    · have q := qs_n t2 (i - 77)
      rw [Nat.zero_add, show 77 + (i - 77) = i by omega] at q
      rw [tk_e q]
      unfold kLw
      rw [List.getD_eq_getElem?_getD, List.getElem?_eq_none (by rw [KZ_len]; omega)]
      rfl
  refine ⟨eK, fun i hi => ?_, t2, fun j hj => ?_, ?_⟩
  · by_cases c : i < 77
    · have q := (t1 i c).2
      rw [Nat.zero_add] at q
      exact q hi
    · exfalso
      unfold kLw at hi
      rw [List.getD_eq_getElem?_getD, List.getElem?_eq_none (by rw [KZ_len]; omega)] at hi
      exact absurd hi (by decide)
  · have q := (t1 j hj).1
    rw [Nat.zero_add] at q
    have nz : ∀ j, j < 77 → (KZ.getD j (0, 0)).1 ≠ 0 := by decide
    by_cases c : qs (chF bs) bs.length j < bs.length
    · exact c
    · exfalso
      have hle := qs_le (chF bs) bs.length j
      rw [tk_e (show qs (chF bs) bs.length j = bs.length by omega)] at q
      exact nz j hj q.symm
  · have q := tkX_len (VF_lt hD) KZ 0 KZ_Y
    rw [← e, KZ_len] at q
    exact q
