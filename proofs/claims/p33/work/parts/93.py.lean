/-! lines one behind the other -/
def jn (f : Nat → List Nat) : Nat → List Nat
  | 0 => []
  | k + 1 => jn f k ++ f k
theorem jn_len (f : Nat → List Nat) (k : Nat) : (jn f (k + 1)).length = (jn f k).length + (f k).length := List.length_append
theorem jn_pre (f : Nat → List Nat) {l : Nat} : ∀ N, l ≤ N → ∃ r, jn f N = jn f l ++ r
  | 0, h => ⟨[], by have : l = 0 := by omega
                    subst this; rfl⟩
  | N + 1, h => by
    by_cases e : l = N + 1
    · subst e; exact ⟨[], (List.append_nil _).symm⟩
    · obtain ⟨r, hr⟩ := jn_pre f (l := l) N (by omega)
      exact ⟨r ++ f N, by show jn f N ++ f N = _; rw [hr, List.append_assoc]⟩
theorem jn_at (f : Nat → List Nat) {l N : Nat} (h : l < N) : At (chF (jn f N)) (jn f l).length (f l) ∧ (jn f (l + 1)).length ≤ (jn f N).length := by
  obtain ⟨r, hr⟩ := jn_pre f (l := l + 1) N h
  have e : jn f N = jn f l ++ (f l ++ r) := by rw [hr]; show (jn f l ++ f l) ++ r = _; rw [List.append_assoc]
  have q := At_chF (jn f N)
  refine ⟨?_, by rw [hr, List.length_append]; omega⟩
  have q2 : At (chF (jn f N)) 0 (jn f l ++ (f l ++ r)) := by rw [← e]; exact q
  have q3 := At_r q2
  rw [Nat.zero_add] at q3
  exact At_l q3
theorem jn_c {f : Nat → List Nat} {P : Nat → Prop} (hf : ∀ l, ∀ c ∈ f l, P c) : ∀ N, ∀ c ∈ jn f N, P c
  | 0, c, hc => by cases hc
  | N + 1, c, hc => by
    rcases List.mem_append.mp hc with h | h
    · exact jn_c hf N c h
    · exact hf N c h
theorem jn_le {f : Nat → List Nat} {m : Nat} (hf : ∀ l, (f l).length ≤ m) : ∀ N, (jn f N).length ≤ m * N
  | 0 => Nat.zero_le _
  | N + 1 => by
    rw [jn_len, Nat.mul_succ]
    have := jn_le hf N
    have := hf N
    omega
/-- lines from s on, k of them -/
def jr (f : Nat → List Nat) : Nat → Nat → List Nat
  | _, 0 => []
  | s, k + 1 => f s ++ jr f (s + 1) k
theorem jr_jn (f : Nat → List Nat) : ∀ (k s : Nat), jn f (s + k) = jn f s ++ jr f s k
  | 0, s => (List.append_nil _).symm
  | k + 1, s => by
    rw [show s + (k + 1) = (s + 1) + k by omega, jr_jn f k (s + 1)]
    show (jn f s ++ f s) ++ _ = jn f s ++ (f s ++ _)
    rw [List.append_assoc]
/-- from p on to the end stands r -/
def Sx (b : Nat → Nat) (n p : Nat) (r : List Nat) : Prop := At b p r ∧ p + r.length = n
def hd (f : Nat → Bool) : List Nat → Bool
  | [] => true
  | c :: _ => !f c
theorem Sx_hd {f : Nat → Bool} {b : Nat → Nat} {n p : Nat} {r : List Nat} (h : Sx b n p r) (hh : hd f r = true) : p = n ∨ f (b p) = false := by
  cases r with
  | nil => exact Or.inl (by have := h.2; simp at this; exact this)
  | cons c r =>
    refine Or.inr ?_
    rw [At_0 h.1]
    have hh : (!f c) = true := hh
    cases e : f c
    · rfl
    · rw [e] at hh; exact absurd hh (by decide)
theorem Sx_r {b : Nat → Nat} {n p : Nat} {x y : List Nat} (h : Sx b n p (x ++ y)) : Sx b n (p + x.length) y := ⟨At_r h.1, by have := h.2; rw [List.length_append] at this; omega⟩
theorem blk_len (z : Nat) : (blk z).length = z := List.length_replicate ..
theorem Sx_2 {b : Nat → Nat} {n p z : Nat} {x r : List Nat} (h : Sx b n p (x ++ (blk z ++ r))) : At b p (x ++ blk z) ∧ p + x.length + z ≤ n ∧ Sx b n (p + x.length + z) r := by
  have e : x ++ (blk z ++ r) = (x ++ blk z) ++ r := (List.append_assoc _ _ _).symm
  rw [e] at h
  have s := Sx_r h
  rw [List.length_append, blk_len, ← Nat.add_assoc] at s
  exact ⟨At_l h.1, by have := s.2; omega, s⟩
theorem sx_y {f : Nat → Bool} {b : Nat → Nat} {n p z : Nat} {r : List Nat} (s : Sx b n (p + z) r) (h : 0 < z ∨ hd f r = true) : 0 < z ∨ p = n ∨ f (b p) = false := by
  by_cases c : 0 < z
  · exact Or.inl c
  · have e : z = 0 := by omega
    subst e
    rcases h with h | h
    · exact absurd h c
    · exact Or.inr (Sx_hd s h)
theorem sx_w (k : Nat) {b : Nat → Nat} {n i p z : Nat} {cs r : List Nat} (hS : Sx b n p (cs ++ (blk z ++ r))) (hq : qs b n i = p) (h0 : cs ≠ []) (hc : ∀ c ∈ cs, isLt c = true) (hb : hd isBl r = true) (hy : 0 < z ∨ hd isLt r = true) : kk k b n i = kwF (woL k) 0 cs ∧ ∃ p', qs b n (i + 1) = p' ∧ Sx b n p' r := by
  obtain ⟨a1, a2, a3⟩ := Sx_2 hS
  obtain ⟨q1, q2⟩ := tk_w (k := k) hq h0 hc a1 a2 (Sx_hd a3 hb) (sx_y a3 hy)
  exact ⟨q1, _, q2, a3⟩
theorem sx_s (k : Nat) {b : Nat → Nat} {n i p z c : Nat} {r : List Nat} (hS : Sx b n p ([c] ++ (blk z ++ r))) (hq : qs b n i = p) (hc : sgn c = true) (hb : hd isBl r = true) : kk k b n i = c ∧ ∃ p', qs b n (i + 1) = p' ∧ Sx b n p' r := by
  obtain ⟨a1, a2, a3⟩ := Sx_2 hS
  obtain ⟨q1, q2⟩ := tk_s (k := k) hq hc a1 a2 (Sx_hd a3 hb)
  exact ⟨q1, _, q2, a3⟩
theorem sx_n (k : Nat) (v0 : Int32) {b : Nat → Nat} {n i p z v : Nat} {r : List Nat} (hS : Sx b n p (dg v ++ (blk z ++ r))) (hq : qs b n i = p) (hv : v < 1000) (hb : hd isBl r = true) (hy : 0 < z ∨ hd isDg r = true) : (kk k b n i = 1 ∧ vv b n v0 i = v ∧ sv b n v0 i = nI v) ∧ ∃ p', qs b n (i + 1) = p' ∧ Sx b n p' r := by
  obtain ⟨a1, a2, a3⟩ := Sx_2 hS
  obtain ⟨q1, q2, q3, q4⟩ := tk_n (k := k) (v0 := v0) hq hv a1 a2 (Sx_hd a3 hb) (sx_y a3 hy)
  exact ⟨⟨q1, q2, q4⟩, _, q3, a3⟩
theorem sx_e (k : Nat) {b : Nat → Nat} {n i p : Nat} (hS : Sx b n p []) (hq : qs b n i = p) : kk k b n i = 0 ∧ qs b n i = n := by
  have e : p = n := by have := hS.2; simp at this; exact this
  exact ⟨tk_e (by rw [hq, e]), by rw [hq, e]⟩
theorem hd_dg {v : Nat} (hv : v < 1000) (r : List Nat) : hd isBl (dg v ++ r) = true ∧ hd isLt (dg v ++ r) = true := by
  obtain ⟨d1, d2, d3⟩ := dg_d v hv
  obtain ⟨c0, cs', e⟩ : ∃ c0 cs', dg v = c0 :: cs' := by
    cases h : dg v with
    | nil => exact absurd h d2
    | cons a l => exact ⟨a, l, rfl⟩
  have g := dg_lt (d1 c0 (by rw [e]; exact List.mem_cons_self ..))
  rw [e]
  exact ⟨by show (!isBl c0) = true; rw [g.2]; rfl, by show (!isLt c0) = true; rw [g.1]; rfl⟩
theorem Sx_all (bs : List Nat) : Sx (chF bs) bs.length 0 bs := ⟨At_chF bs, Nat.zero_add _⟩
theorem qs_0 {b : Nat → Nat} {n : Nat} {r : List Nat} (h : Sx b n 0 r) (hh : hd isBl r = true) : qs b n 0 = 0 := by
  show ed isBl b n 0 = 0
  rcases Sx_hd h hh with e | e
  · exact ed_e (by omega)
  · exact ed_n (by rw [e]; decide)
/-- what a row's reading keeps -/
def Rs (k : Nat) (b : Nat → Nat) (n : Nat) (v0 : Int32) (i : Nat) (w g0 : Mem) (L c : Nat) (R : Nat → Int32) : Prop := myT k b n v0 i w ∧ w 146 15 = nI L ∧ (∀ y, y < c * L → w 153 y = R y) ∧ (∀ q, q ≠ 146 → q ≠ 153 → w q = g0 q) ∧ w 146 4 = g0 146 4
/-! a line of tellings -/
def tlR (a : Nat) (o : Option Nat) (r : List Nat) : List Nat := match o with
  | none => dg a ++ (blk 0 ++ ([59] ++ (blk 0 ++ r)))
  | some x => dg a ++ (blk 1 ++ (wo_and ++ (blk 1 ++ (dg x ++ (blk 0 ++ ([59] ++ (blk 0 ++ r)))))))
def tlB (l : Nat × Nat × Option Nat) (r : List Nat) : List Nat := dg l.1 ++ (blk 1 ++ (wo_tells ++ (blk 1 ++ tlR l.2.1 l.2.2 r)))
def tlM (l : Nat × Nat × Option Nat) : Int32 := match l.2.2 with
  | none => (0 : Int32) ||| ((1 : Int32) <<< (nI l.2.1 &&& 31))
  | some o => ((0 : Int32) ||| ((1 : Int32) <<< (nI l.2.1 &&& 31))) ||| ((1 : Int32) <<< (nI o &&& 31))
theorem wo_tl : (∀ c ∈ wo_tells, isLt c = true) ∧ wo_tells ≠ [] ∧ kwF (woL 1) 0 wo_tells = 256 ∧ (∀ c ∈ wo_and, isLt c = true) ∧ wo_and ≠ [] ∧ kwF (woL 1) 0 wo_and = 257 := by decide
theorem mtk1 : nI (mtk 1 1) = 2 ∧ nI (mtk 1 256) = 7 ∧ nI (mtk 1 257) = 5 ∧ nI (mtk 1 59) = 159 := by decide
theorem myT_18 {k : Nat} {b : Nat → Nat} {n : Nat} {v0 : Int32} {i : Nat} {u : Mem} (h : myT k b n v0 i u) : u 146 18 = nI (mtk k (kk k b n i)) := h.2.2.2.1
theorem myT_20 {k : Nat} {b : Nat → Nat} {n : Nat} {v0 : Int32} {i : Nat} {u : Mem} (h : myT k b n v0 i u) : u 146 20 = sv b n v0 i := h.2.2.2.2
/-- one more is named -/
theorem ge_ano {b : Nat → Nat} {n : Nat} {v0 : Int32} {i : Nat} {u : Mem} {men m a L : Nat} (h : myT 1 b n v0 i u) (hk : kk 1 b n i = 1) (hs : sv b n v0 i = nI a) (hmen : men ≤ 12) (hm : m < men) (ha : a < men) (hne : a ≠ m) (h78 : u 147 78 = nI men) (h15 : u 146 15 = nI L) (hL : L < 16) : ∃ u', FX12_another_146 (nI m) u = some (1, u') ∧ myR u u' ∧ (∀ y, y ≠ 2 * L + 1 → u' 153 y = u 153 y) ∧ u' 153 (2 * L + 1) = (u 153 (2 * L + 1) ||| ((1 : Int32) <<< (nI a &&& 31))) ∧ myT 1 b n v0 (i + 1) u' := by
  have hv : vv b n v0 i = a := by unfold vv; rw [hs, nt_nI (by omega)]
  unfold FX12_another_146 FX12_another_146_b22
  rw [myT_18 h, hk, if_pos mtk1.1, myT_20 h, hs, if_neg (by rw [nn_eq (by omega) (by omega)]; exact hne)]
  rcases m_num (by decide : 1 < 4) (m := men) (by omega) h (p := u 147 78 - 1) (by rw [h78]) with ⟨-, -, u1, e1, e2, e3, e4, e5⟩ | ⟨q, -⟩
  · have e15 : u1 146 15 = nI L := (e2.2 15 (by omega)).trans h15
    have ix : (2 * nI L) + 1 = nI (2 * L + 1) := by rw [show (2 : Int32) = nI 2 by decide, nI_mul]; exact nI_1 _
    rw [e1, b2_some, if_neg z1, e15, ix, rb (by omega) (by omega), wb (by omega) (by omega), e3, hv, e4]
    refine ⟨_, rfl, myR_t e2 (myR_3 u1 _ _), fun y hy => by rw [m_eq, up_ne hy, e4], by rw [m_eq, up_eq], myT_3 e5 _ _⟩
  · exact absurd ⟨hk, by rw [hv]; exact ha⟩ q
