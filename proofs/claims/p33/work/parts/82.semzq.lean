/-! the text's letters, cut into tokens: numbers alone -/
def isLt (x : Nat) : Bool := (decide (97 ≤ x) && decide (x ≤ 122)) || (decide (65 ≤ x) && decide (x ≤ 90))
def isDg (x : Nat) : Bool := decide (48 ≤ x) && decide (x ≤ 57)
def isBl (x : Nat) : Bool := decide (x = 32) || decide (x = 10)
def rnP (p : Nat → Bool) (b : Nat → Nat) (n : Nat) : Nat → Nat → Nat
  | 0, i => i
  | f + 1, i => if decide (i < n) && p (b i) then rnP p b n f (i + 1) else i
def ed (p : Nat → Bool) (b : Nat → Nat) (n i : Nat) : Nat := rnP p b n (n - i) i
theorem rnP_end {p : Nat → Bool} {b : Nat → Nat} {n : Nat} : ∀ (f i : Nat), n ≤ i → rnP p b n f i = i
  | 0, _, _ => rfl
  | f + 1, i, h => by unfold rnP; rw [decide_eq_false (by omega), Bool.false_and]; rfl
theorem ed_y {p : Nat → Bool} {b : Nat → Nat} {n i : Nat} (h : i < n) (hp : p (b i) = true) : ed p b n i = ed p b n (i + 1) := by
  unfold ed
  rw [show n - i = n - (i + 1) + 1 by omega]
  show (if decide (i < n) && p (b i) then rnP p b n (n - (i + 1)) (i + 1) else i) = _
  rw [decide_eq_true h, hp]; rfl
theorem ed_n {p : Nat → Bool} {b : Nat → Nat} {n i : Nat} (hp : ¬ p (b i) = true) : ed p b n i = i := by
  unfold ed
  cases n - i with
  | zero => rfl
  | succ k => unfold rnP; rw [eq_false_of_ne_true hp, Bool.and_false]; rfl
theorem ed_e {p : Nat → Bool} {b : Nat → Nat} {n i : Nat} (h : n ≤ i) : ed p b n i = i := rnP_end _ _ h
theorem rnP_ok {p : Nat → Bool} {b : Nat → Nat} {n : Nat} : ∀ (f i : Nat), i + f = n → i ≤ rnP p b n f i ∧ rnP p b n f i ≤ n ∧ (∀ k, i ≤ k → k < rnP p b n f i → p (b k) = true) ∧ (rnP p b n f i < n → ¬ p (b (rnP p b n f i)) = true)
  | 0, i, h => ⟨Nat.le_refl _, by show i ≤ n; omega, fun k h1 h2 => by have h2 : k < i := h2; omega, fun h1 => by have h1 : i < n := h1; omega⟩
  | f + 1, i, h => by
    unfold rnP
    rw [decide_eq_true (show i < n by omega), Bool.true_and]
    by_cases c : p (b i) = true
    · rw [if_pos c]
      obtain ⟨h1, h2, h3, h4⟩ := rnP_ok (p := p) (b := b) (n := n) f (i + 1) (by omega)
      refine ⟨by omega, h2, fun k k1 k2 => ?_, h4⟩
      by_cases e : k = i
      · rw [e]; exact c
      · exact h3 k (by omega) k2
    · rw [if_neg c]
      exact ⟨Nat.le_refl _, by omega, fun k h1 h2 => by omega, fun _ => c⟩
theorem ed_ok {p : Nat → Bool} {b : Nat → Nat} {n i : Nat} (h : i ≤ n) : i ≤ ed p b n i ∧ ed p b n i ≤ n ∧ (∀ k, i ≤ k → k < ed p b n i → p (b k) = true) ∧ (ed p b n i < n → ¬ p (b (ed p b n i)) = true) := rnP_ok _ _ (by omega)
def vlF (b : Nat → Nat) (n : Nat) : Nat → Nat → Nat → Nat
  | 0, _, v => v
  | k + 1, i, v => if decide (i < n) && isDg (b i) then vlF b n k (i + 1) (10 * v + (b i - 48)) else v
theorem vlF_le (b : Nat → Nat) (n : Nat) : ∀ (k i v m : Nat), v < 10 ^ m → m + k ≤ 4 → vlF b n k i v < 10000
  | 0, i, v, m, hv, hm => by
    have h1 : (10 : Nat) ^ m ≤ 10 ^ 4 := Nat.pow_le_pow_right (by omega) (by omega)
    show v < 10000
    have h2 : (10 : Nat) ^ 4 = 10000 := by decide
    omega
  | k + 1, i, v, m, hv, hm => by
    unfold vlF
    split
    · rename_i h
      rw [Bool.and_eq_true] at h
      have hd := h.2
      unfold isDg at hd
      rw [Bool.and_eq_true, decide_eq_true_eq, decide_eq_true_eq] at hd
      refine vlF_le b n k (i + 1) _ (m + 1) ?_ (by omega)
      rw [Nat.pow_succ]; omega
    · have h1 : (10 : Nat) ^ m ≤ 10 ^ 4 := Nat.pow_le_pow_right (by omega) (by omega)
      have h2 : (10 : Nat) ^ 4 = 10000 := by decide
      omega
def vl (b : Nat → Nat) (n s : Nat) : Nat := vlF b n 4 s 0
theorem vl_le (b : Nat → Nat) (n s : Nat) : vl b n s < 10000 := vlF_le b n 4 s 0 0 (by decide) (by decide)
def ct (b : Nat → Nat) : Nat → Nat → List Nat
  | _, 0 => []
  | s, l + 1 => b s :: ct b (s + 1) l
theorem ct_len (b : Nat → Nat) : ∀ (l s : Nat), (ct b s l).length = l
  | 0, _ => rfl
  | l + 1, s => by show (ct b (s + 1) l).length + 1 = _; rw [ct_len b l]
theorem ct_eq (b : Nat → Nat) : ∀ (l s : Nat) (w : List Nat), w.length = l → ((ct b s l = w) ↔ ∀ j, j < l → b (s + j) = w.getD j 0)
  | 0, s, w, h => by
    have : w = [] := List.length_eq_zero_iff.mp h
    subst this
    exact ⟨fun _ j hj => by omega, fun _ => rfl⟩
  | l + 1, s, [], h => by cases h
  | l + 1, s, x :: w, h => by
    have ih := ct_eq b l (s + 1) w (Nat.succ.inj h)
    show (b s :: ct b (s + 1) l = x :: w) ↔ _
    rw [List.cons.injEq, ih]
    constructor
    · rintro ⟨h1, h2⟩ j hj
      match j with
      | 0 => exact h1
      | j + 1 => rw [show s + (j + 1) = s + 1 + j by omega]; exact h2 j (by omega)
    · intro h1
      refine ⟨h1 0 (by omega), fun j hj => ?_⟩
      have := h1 (j + 1) (by omega)
      rw [show s + (j + 1) = s + 1 + j by omega] at this
      exact this
/-! words -/
def wo_call : List Nat := [99, 97, 108, 108]
def wo_step : List Nat := [115, 116, 101, 112]
def wo_nap : List Nat := [110, 97, 112]
def wo_fade : List Nat := [102, 97, 100, 101]
def wo_when : List Nat := [119, 104, 101, 110]
def wo_or : List Nat := [111, 114]
def wo_and : List Nat := [97, 110, 100]
def wo_not : List Nat := [110, 111, 116]
def wo_country : List Nat := [99, 111, 117, 110, 116, 114, 121]
def wo_age : List Nat := [97, 103, 101]
def wo_legs : List Nat := [108, 101, 103, 115]
def wo_breath : List Nat := [98, 114, 101, 97, 116, 104]
def wo_facts : List Nat := [102, 97, 99, 116, 115]
def wo_cell : List Nat := [99, 101, 108, 108]
def wo_day : List Nat := [100, 97, 121]
def wo_rain : List Nat := [114, 97, 105, 110]
def wo_hill : List Nat := [104, 105, 108, 108]
def wo_tells : List Nat := [116, 101, 108, 108, 115]
def wo_fact : List Nat := [102, 97, 99, 116]
def wo_weighs : List Nat := [119, 101, 105, 103, 104, 115]
def wo_on : List Nat := [111, 110]
def wo_rest : List Nat := [114, 101, 115, 116]
def wo_go : List Nat := [103, 111]
def woL (k : Nat) : List (List Nat) := if k = 0 then [wo_call, wo_step, wo_nap, wo_fade, wo_when, wo_or, wo_and, wo_not, wo_country, wo_age, wo_legs, wo_breath, wo_facts, wo_cell, wo_day, wo_rain, wo_hill] else if k = 1 then [wo_tells, wo_and] else if k = 2 then [wo_fact, wo_weighs] else [wo_on, wo_rest, wo_go]
def kwF : List (List Nat) → Nat → List Nat → Nat
  | [], _, _ => 255
  | w :: ws, j, c => if c = w then 256 + j else kwF ws (j + 1) c
theorem kwF_le : ∀ (ws : List (List Nat)) (j : Nat) (c : List Nat), 255 ≤ kwF ws j c ∧ kwF ws j c < 256 + j + ws.length
  | [], j, c => ⟨Nat.le_refl _, by show 255 < 256 + j + 0; omega⟩
  | w :: ws, j, c => by
    unfold kwF
    have : (w :: ws).length = ws.length + 1 := rfl
    split
    · omega
    · have := kwF_le ws (j + 1) c; omega
def sgn (x : Nat) : Bool := x == 59 || (x == 43 || (x == 45 || (x == 42 || (x == 47 || (x == 40 || (x == 41 || (x == 60 || (x == 61 || x == 62))))))))
/-- where a token ends, its kind -/
def te (b : Nat → Nat) (n s : Nat) : Nat := if n ≤ s then s else if isLt (b s) = true then ed isLt b n s else if isDg (b s) = true then ed isDg b n s else s + 1
def kd (k : Nat) (b : Nat → Nat) (n s : Nat) : Nat := if n ≤ s then 0 else if isLt (b s) = true then kwF (woL k) 0 (ct b s (ed isLt b n s - s)) else if isDg (b s) = true then (if ed isDg b n s - s ≤ 4 then 1 else 2) else if sgn (b s) = true then b s else 2
def qs (b : Nat → Nat) (n : Nat) : Nat → Nat
  | 0 => ed isBl b n 0
  | i + 1 => ed isBl b n (te b n (qs b n i))
def svF (b : Nat → Nat) (n s : Nat) (x : Int32) : Int32 := if n ≤ s then x else if isLt (b s) = true then x else if isDg (b s) = true then nI (vl b n s) else x
def sv (b : Nat → Nat) (n : Nat) (v0 : Int32) : Nat → Int32
  | 0 => svF b n (qs b n 0) v0
  | i + 1 => svF b n (qs b n (i + 1)) (sv b n v0 i)
/-- the kind and the number of a token, as the grammar sees them -/
def kk (k : Nat) (b : Nat → Nat) (n i : Nat) : Nat := kd k b n (qs b n i)
def vv (b : Nat → Nat) (n : Nat) (v0 : Int32) (i : Nat) : Nat := nt (sv b n v0 i)
theorem te_gt {b : Nat → Nat} {n s : Nat} (h : s < n) : s < te b n s ∧ te b n s ≤ n := by
  unfold te
  rw [if_neg (by omega)]
  split
  · rename_i h1
    rw [ed_y h h1]
    have := ed_ok (p := isLt) (b := b) (n := n) (i := s + 1) (by omega); omega
  · split
    · rename_i h1
      rw [ed_y h h1]
      have := ed_ok (p := isDg) (b := b) (n := n) (i := s + 1) (by omega); omega
    · omega
theorem te_e {b : Nat → Nat} {n s : Nat} (h : n ≤ s) : te b n s = s := by unfold te; rw [if_pos h]
theorem te_le {b : Nat → Nat} {n s : Nat} (h : s ≤ n) : te b n s ≤ n := by
  rcases Nat.lt_or_ge s n with h1 | h1
  · exact (te_gt h1).2
  · rw [te_e h1]; exact h
theorem qs_le (b : Nat → Nat) (n : Nat) : ∀ i, qs b n i ≤ n
  | 0 => (ed_ok (Nat.zero_le _)).2.1
  | i + 1 => (ed_ok (te_le (qs_le b n i))).2.1
theorem kk_0 {k : Nat} {b : Nat → Nat} {n i : Nat} : kk k b n i = 0 ↔ qs b n i = n := by
  have hq := qs_le b n i
  unfold kk kd
  constructor
  · intro h
    rcases Nat.lt_or_ge (qs b n i) n with h1 | h1
    · rw [if_neg (by omega)] at h
      split at h
      · have := (kwF_le (woL k) 0 (ct b (qs b n i) (ed isLt b n (qs b n i) - qs b n i))).1; omega
      · split at h
        · split at h <;> omega
        · split at h
          · rename_i h3
            rw [h] at h3
            exact absurd h3 (by decide)
          · omega
    · omega
  · intro h; rw [if_pos (by omega)]
theorem vv_le {b : Nat → Nat} {n : Nat} {v0 : Int32} {k i : Nat} (h : kk k b n i = 1) : sv b n v0 i = nI (vl b n (qs b n i)) ∧ vv b n v0 i = vl b n (qs b n i) := by
  have hs : ∀ x, svF b n (qs b n i) x = nI (vl b n (qs b n i)) := by
    intro x
    unfold kk kd at h
    unfold svF
    split at h
    · cases h
    · rename_i h1
      rw [if_neg h1]
      split at h
      · have := (kwF_le (woL k) 0 (ct b (qs b n i) (ed isLt b n (qs b n i) - qs b n i))).1; omega
      · rename_i h2
        rw [if_neg h2]
        split at h
        · rename_i h3
          rw [if_pos h3]
        · split at h
          · rename_i h3
            rw [h] at h3
            exact absurd h3 (by decide)
          · cases h
  have he : sv b n v0 i = nI (vl b n (qs b n i)) := by
    cases i with
    | zero => exact hs _
    | succ i => exact hs _
  refine ⟨he, ?_⟩
  have := vl_le b n (qs b n i)
  unfold vv
  rw [he, nt_nI (by omega)]

