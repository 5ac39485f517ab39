/-! tokens, piece by piece -/
def At (b : Nat → Nat) (p : Nat) (l : List Nat) : Prop := ∀ j c, l[j]? = some c → b (p + j) = c
theorem At_l {b : Nat → Nat} {p : Nat} {x y : List Nat} (h : At b p (x ++ y)) : At b p x := fun j c hj => h j c (by rw [List.getElem?_append_left (List.getElem?_eq_some_iff.mp hj).1]; exact hj)
theorem At_r {b : Nat → Nat} {p : Nat} {x y : List Nat} (h : At b p (x ++ y)) : At b (p + x.length) y := fun j c hj => by
  have q := h (x.length + j) c (by rw [List.getElem?_append_right (by omega), Nat.add_sub_cancel_left]; exact hj)
  rw [← Nat.add_assoc] at q
  exact q
theorem At_0 {b : Nat → Nat} {p c : Nat} {x : List Nat} (h : At b p (c :: x)) : b p = c := h 0 c rfl
theorem At_chF (bs : List Nat) : At (chF bs) 0 bs := fun j c hj => by
  have hl := (List.getElem?_eq_some_iff.mp hj).1
  unfold chF
  rw [Nat.zero_add, if_pos hl, List.getD_eq_getElem?_getD, hj]
  rfl
/-- a run goes on to the piece's end -/
theorem ed_run {f : Nat → Bool} {b : Nat → Nat} {n : Nat} : ∀ (cs : List Nat) (p : Nat), At b p cs → (∀ c ∈ cs, f c = true) → p + cs.length ≤ n → (p + cs.length = n ∨ f (b (p + cs.length)) = false) → ed f b n p = p + cs.length
  | [], p, _, _, h1, h2 => by
    rcases h2 with e | e
    · exact ed_e (by show n ≤ p; have : p + 0 = n := e; omega)
    · exact ed_n (by have e : f (b (p + 0)) = false := e; rw [Nat.add_zero] at e; rw [e]; decide)
  | c :: cs, p, hA, hc, h1, h2 => by
    have h1 : p + (cs.length + 1) ≤ n := h1
    have e0 : b p = c := At_0 hA
    rw [ed_y (by omega) (by rw [e0]; exact hc c (List.mem_cons_self ..))]
    have hA' : At b (p + 1) cs := At_r (x := [c]) hA
    have h2' : p + 1 + cs.length = n ∨ f (b (p + 1 + cs.length)) = false := by
      have e : p + (c :: cs).length = p + 1 + cs.length := by show p + (cs.length + 1) = _; omega
      rw [e] at h2
      exact h2
    rw [ed_run cs (p + 1) hA' (fun x hx => hc x (List.mem_cons_of_mem _ hx)) (by omega) h2']
    show p + 1 + cs.length = p + (cs.length + 1)
    omega
/-- zero or one blank behind -/
def blk (z : Nat) : List Nat := List.replicate z 32
theorem ed_bl {b : Nat → Nat} {n p z : Nat} (hA : At b p (blk z)) (h1 : p + z ≤ n) (h2 : p + z = n ∨ isBl (b (p + z)) = false) : ed isBl b n p = p + z := by
  have hl : (blk z).length = z := List.length_replicate ..
  have q := ed_run (f := isBl) (n := n) (blk z) p hA (fun c hc => by rw [List.eq_of_mem_replicate hc]; decide) (by rw [hl]; exact h1) (by rw [hl]; exact h2)
  rw [hl] at q
  exact q
theorem lt_dg {c : Nat} (h : isLt c = true) : isDg c = false ∧ isBl c = false := by
  have key : ∀ c, c < 128 → isLt c = true → isDg c = false ∧ isBl c = false := by decide +kernel
  by_cases z : c < 128
  · exact key c z h
  · exfalso
    unfold isLt at h
    simp at h
    omega
theorem dg_lt {c : Nat} (h : isDg c = true) : isLt c = false ∧ isBl c = false := by
  have key : ∀ c, c < 128 → isDg c = true → isLt c = false ∧ isBl c = false := by decide +kernel
  by_cases z : c < 128
  · exact key c z h
  · exfalso
    unfold isDg at h
    simp at h
    omega
theorem sg_lt {c : Nat} (h : sgn c = true) : isLt c = false ∧ isDg c = false ∧ isBl c = false := by
  have key : ∀ c, c < 128 → sgn c = true → isLt c = false ∧ isDg c = false ∧ isBl c = false := by decide +kernel
  exact key c (by have := sgn_le c h; omega) h
/-- a word -/
theorem tk_w {k : Nat} {b : Nat → Nat} {n i p z : Nat} {cs : List Nat} (hq : qs b n i = p) (h0 : cs ≠ []) (hc : ∀ c ∈ cs, isLt c = true) (hA : At b p (cs ++ blk z)) (hn : p + cs.length + z ≤ n) (hx : p + cs.length + z = n ∨ isBl (b (p + cs.length + z)) = false) (hy : 0 < z ∨ p + cs.length = n ∨ isLt (b (p + cs.length)) = false) : kk k b n i = kwF (woL k) 0 cs ∧ qs b n (i + 1) = p + cs.length + z := by
  have hpos : 0 < cs.length := List.length_pos_iff.mpr h0
  obtain ⟨c0, cs', rfl⟩ : ∃ c0 cs', cs = c0 :: cs' := by
    cases cs with
    | nil => exact absurd rfl h0
    | cons a l => exact ⟨a, l, rfl⟩
  have A1 := At_l hA
  have A2 := At_r hA
  have b0 : b p = c0 := At_0 A1
  have l0 : isLt (b p) = true := by rw [b0]; exact hc c0 (List.mem_cons_self ..)
  have hy' : p + (c0 :: cs').length = n ∨ isLt (b (p + (c0 :: cs').length)) = false := by
    rcases hy with y | y
    · refine Or.inr ?_
      have e : b (p + (c0 :: cs').length) = 32 := by
        obtain ⟨z', rfl⟩ : ∃ z', z = z' + 1 := ⟨z - 1, by omega⟩
        exact At_0 A2
      rw [e]
      decide
    · exact y
  have e1 := ed_run (f := isLt) (c0 :: cs') p A1 hc (by omega) hy'
  refine ⟨?_, ?_⟩
  · unfold kk kd
    rw [hq, if_neg (by omega), if_pos l0, e1, Nat.add_sub_cancel_left]
    have ec : ct b p (c0 :: cs').length = c0 :: cs' := (ct_eq b _ p _ rfl).mpr (fun j hj => A1 j _ (by rw [List.getD_eq_getElem?_getD, List.getElem?_eq_getElem hj]; rfl))
    rw [ec]
  · show ed isBl b n (te b n (qs b n i)) = _
    unfold te
    rw [hq, if_neg (by omega), if_pos l0, e1]
    exact ed_bl A2 hn hx
/-- a sign -/
theorem tk_s {k : Nat} {b : Nat → Nat} {n i p z c : Nat} (hq : qs b n i = p) (hc : sgn c = true) (hA : At b p ([c] ++ blk z)) (hn : p + 1 + z ≤ n) (hx : p + 1 + z = n ∨ isBl (b (p + 1 + z)) = false) : kk k b n i = c ∧ qs b n (i + 1) = p + 1 + z := by
  have b0 : b p = c := At_0 (At_l hA)
  obtain ⟨s1, s2, s3⟩ := sg_lt hc
  refine ⟨?_, ?_⟩
  · unfold kk kd
    rw [hq, if_neg (by omega), b0, if_neg (by rw [s1]; decide), if_neg (by rw [s2]; decide), if_pos hc]
  · show ed isBl b n (te b n (qs b n i)) = _
    unfold te
    rw [hq, if_neg (by omega), b0, if_neg (by rw [s1]; decide), if_neg (by rw [s2]; decide)]
    exact ed_bl (At_r (x := [c]) hA) hn hx
theorem dg_d : ∀ v, v < 1000 → (∀ c ∈ dg v, isDg c = true) ∧ dg v ≠ [] ∧ (dg v).length ≤ 3 := by decide +kernel
/-- a number -/
theorem tk_n {k : Nat} {b : Nat → Nat} {n i p z v : Nat} {v0 : Int32} (hq : qs b n i = p) (hv : v < 1000) (hA : At b p (dg v ++ blk z)) (hn : p + (dg v).length + z ≤ n) (hx : p + (dg v).length + z = n ∨ isBl (b (p + (dg v).length + z)) = false) (hy : 0 < z ∨ p + (dg v).length = n ∨ isDg (b (p + (dg v).length)) = false) : kk k b n i = 1 ∧ vv b n v0 i = v ∧ qs b n (i + 1) = p + (dg v).length + z ∧ sv b n v0 i = nI v := by
  obtain ⟨d1, d2, d3⟩ := dg_d v hv
  have hpos : 0 < (dg v).length := List.length_pos_iff.mpr d2
  have A1 := At_l hA
  have A2 := At_r hA
  have hy' : p + (dg v).length = n ∨ isDg (b (p + (dg v).length)) = false := by
    rcases hy with y | y
    · refine Or.inr ?_
      have e : b (p + (dg v).length) = 32 := by
        obtain ⟨z', rfl⟩ : ∃ z', z = z' + 1 := ⟨z - 1, by omega⟩
        exact At_0 A2
      rw [e]
      decide
    · exact y
  have e1 := ed_run (f := isDg) (dg v) p A1 d1 (by omega) hy'
  have g0 : isDg (b p) = true := by
    obtain ⟨c0, cs', e⟩ : ∃ c0 cs', dg v = c0 :: cs' := by
      cases h : dg v with
      | nil => exact absurd h d2
      | cons a l => exact ⟨a, l, rfl⟩
    rw [e] at A1
    rw [At_0 A1]
    exact d1 c0 (by rw [e]; exact List.mem_cons_self ..)
  have g1 := (dg_lt g0).1
  have stop : ∀ f x, vlF b n f (p + (dg v).length) x = x := fun f x => by
    cases f with
    | zero => rfl
    | succ f =>
      unfold vlF
      rcases hy' with y | y
      · rw [decide_eq_false (by omega), Bool.false_and]
        rfl
      · rw [y, Bool.and_false]
        rfl
  have val : vl b n p = v := by
    unfold vl
    have hd : ∀ j c, (dg v)[j]? = some c → b (p + j) = c ∧ isDg c = true ∧ p + j < n := fun j c hj => ⟨A1 j c hj, d1 c (List.mem_of_getElem? hj), by have := (List.getElem?_eq_some_iff.mp hj).1; omega⟩
    have st : ∀ f j c x, (dg v)[j]? = some c → vlF b n (f + 1) (p + j) x = vlF b n f (p + j + 1) (10 * x + (c - 48)) := fun f j c x hj => by
      obtain ⟨a1, a2, a3⟩ := hd j c hj
      show (if decide (p + j < n) && isDg (b (p + j)) then vlF b n f (p + j + 1) (10 * x + (b (p + j) - 48)) else x) = _
      rw [a1, a2, decide_eq_true a3]
      rfl
    by_cases c1 : v < 10
    · have e : dg v = [48 + v] := if_pos c1
      rw [e] at stop
      have s0 : vlF b n 4 p 0 = vlF b n 3 (p + 1) (10 * 0 + (48 + v - 48)) := st 3 0 (48 + v) 0 (by rw [e]; rfl)
      have q := stop 3 (10 * 0 + (48 + v - 48))
      rw [s0]
      refine q.trans ?_
      omega
    · by_cases c2 : v < 100
      · have e : dg v = [48 + v / 10, 48 + v % 10] := by unfold dg; rw [if_neg c1, if_pos c2]
        rw [e] at stop
        have s0 : vlF b n 4 p 0 = vlF b n 3 (p + 1) (10 * 0 + (48 + v / 10 - 48)) := st 3 0 (48 + v / 10) 0 (by rw [e]; rfl)
        have s1 := st 2 1 (48 + v % 10) (10 * 0 + (48 + v / 10 - 48)) (by rw [e]; rfl)
        rw [s0, s1]
        refine (stop 2 _).trans ?_
        omega
      · have e : dg v = [48 + v / 100, 48 + v % 100 / 10, 48 + v % 10] := by unfold dg; rw [if_neg c1, if_neg c2]
        rw [e] at stop
        have s0 : vlF b n 4 p 0 = vlF b n 3 (p + 1) (10 * 0 + (48 + v / 100 - 48)) := st 3 0 (48 + v / 100) 0 (by rw [e]; rfl)
        have s1 := st 2 1 (48 + v % 100 / 10) (10 * 0 + (48 + v / 100 - 48)) (by rw [e]; rfl)
        have s2 := st 1 2 (48 + v % 10) (10 * (10 * 0 + (48 + v / 100 - 48)) + (48 + v % 100 / 10 - 48)) (by rw [e]; rfl)
        rw [s0, s1]
        refine s2.trans ?_
        refine (stop 1 _).trans ?_
        omega
  have sval : sv b n v0 i = nI v := by
    have key : ∀ x, svF b n (qs b n i) x = nI v := fun x => by
      unfold svF
      rw [hq, if_neg (by omega), if_neg (by rw [g1]; decide), if_pos g0, val]
    cases i with
    | zero => exact key v0
    | succ i => exact key _
  refine ⟨?_, by unfold vv; rw [sval, nt_nI (by omega)], ?_, sval⟩
  · unfold kk kd
    rw [hq, if_neg (by omega), if_neg (by rw [g1]; decide), if_pos g0, e1, if_pos (by omega)]
  · show ed isBl b n (te b n (qs b n i)) = _
    unfold te
    rw [hq, if_neg (by omega), if_neg (by rw [g1]; decide), if_pos g0, e1]
    exact ed_bl A2 hn hx
theorem tk_e {k : Nat} {b : Nat → Nat} {n i : Nat} (hq : qs b n i = n) : kk k b n i = 0 := by
  unfold kk kd
  rw [hq, if_pos (Nat.le_refl _)]
