/-! the grammar -/
abbrev pxT : Type := List (Nat × Nat)
abbrev pxR : Type := Sum (Nat × Nat) (Nat × pxT)
def pxB (r : pxR) (f : Nat → pxT → pxR) : pxR :=
  match r with
  | .inl e => .inl e
  | .inr q => f q.1 q.2
theorem pxB_l (e : Nat × Nat) (f : Nat → pxT → pxR) : pxB (.inl e) f = .inl e := rfl
theorem pxB_r (j : Nat) (o : pxT) (f : Nat → pxT → pxR) : pxB (.inr (j, o)) f = f j o := rfl
theorem pxB_a (r : pxR) (f g : Nat → pxT → pxR) : pxB (pxB r f) g = pxB r (fun j o => pxB (f j o) g) := by
  match r with
  | .inl e => rfl
  | .inr q => rfl
def pxUnit (K V : Nat → Nat) (i : Nat) (o : pxT) : pxR := if 264 ≤ K i ∧ K i ≤ 272 then .inr (i + 1, o ++ [(K i - 263, V i)]) else if K i = 1 then .inr (i + 1, o ++ [(0, V i)]) else .inl (1, i)
def pxMul (K V : Nat → Nat) : Nat → Nat → pxT → pxR
  | 0, i, o => .inr (i, o)
  | l + 1, i, o => if K i = 42 then pxB (pxUnit K V (i + 1) o) (fun j o1 => pxMul K V l j (o1 ++ [(25, 0)])) else if K i = 47 then (if K (i + 1) = 1 then (if V (i + 1) = 0 then .inl (2, i + 1) else pxMul K V l (i + 2) (o ++ [(26, V (i + 1))])) else .inl (1, i + 1)) else .inr (i, o)
def pxProd (K V : Nat → Nat) (i : Nat) (o : pxT) : pxR := pxB (pxUnit K V i o) (fun j o1 => pxMul K V 401 j o1)
def pxAdd (K V : Nat → Nat) : Nat → Nat → pxT → pxR
  | 0, i, o => .inr (i, o)
  | l + 1, i, o => if K i = 43 then pxB (pxProd K V (i + 1) o) (fun j o1 => pxAdd K V l j (o1 ++ [(23, 0)])) else if K i = 45 then pxB (pxProd K V (i + 1) o) (fun j o1 => pxAdd K V l j (o1 ++ [(24, 0)])) else .inr (i, o)
def pxSum (K V : Nat → Nat) (i : Nat) (o : pxT) : pxR := pxB (pxProd K V i o) (fun j o1 => pxAdd K V 401 j o1)
def pxFin (s : Nat) (r : pxR) : pxR := pxB r (fun j o => .inr (j, o ++ [(s, 0)]))
def pxCmp (K V : Nat → Nat) (i : Nat) (o : pxT) : pxR := pxB (pxSum K V i o) (fun j o1 => if K j = 60 then pxFin 27 (pxSum K V (j + 1) o1) else if K j = 61 then pxFin 28 (pxSum K V (j + 1) o1) else if K j = 62 then pxFin 29 (pxSum K V (j + 1) o1) else .inl (1, j))
def pxEvL (K : Nat → Nat) (one : Nat → pxT → pxR) : Nat → Nat → pxT → pxR
  | 0, i, o => .inr (i, o)
  | l + 1, i, o => if K i = 262 then pxB (one (i + 1) o) (fun j o1 => pxEvL K one l j (o1 ++ [(31, 0)])) else .inr (i, o)
def pxEv (K : Nat → Nat) (one : Nat → pxT → pxR) (i : Nat) (o : pxT) : pxR := pxB (one i o) (fun j o1 => pxEvL K one 401 j o1)
def pxAnL (K : Nat → Nat) (one : Nat → pxT → pxR) : Nat → Nat → pxT → pxR
  | 0, i, o => .inr (i, o)
  | l + 1, i, o => if K i = 261 then pxB (pxEv K one (i + 1) o) (fun j o1 => pxAnL K one l j (o1 ++ [(32, 0)])) else .inr (i, o)
def pxAny (K : Nat → Nat) (one : Nat → pxT → pxR) (i : Nat) (o : pxT) : pxR := pxB (pxEv K one i o) (fun j o1 => pxAnL K one 401 j o1)
def pxOne (K V : Nat → Nat) : Nat → Nat → pxT → pxR
  | 0, i, o => if K i = 263 ∨ K i = 40 then .inl (3, i) else pxCmp K V i o
  | f + 1, i, o => if K i = 263 then pxFin 30 (pxOne K V f (i + 1) o) else if K i = 40 then pxB (pxAny K (fun i o => pxOne K V f i o) (i + 1) o) (fun j o1 => if K j = 41 then .inr (j + 1, o1) else .inl (1, j)) else pxCmp K V i o
/-! how far it comes, and how much it writes -/
theorem encL_app : ∀ (a b : pxT), encL (a ++ b) = encL a + encL b
  | [], b => by show encL b = 0 + encL b; omega
  | x :: a, b => by show enc1 x + encL (a ++ b) = enc1 x + encL a + encL b; rw [encL_app a b]; omega
theorem encL_1 {x : Nat × Nat} (h : x.1 ≠ 26) : encL [x] = 1 := by
  show enc1 x + 0 = 1
  unfold enc1; rw [if_neg h]
theorem encL_2 (v : Nat) : encL [(26, v)] = 2 := rfl
/-- what is gained: e = 0 or 1, how far at least -/
def pxG (N e i : Nat) (o : pxT) (r : pxR) : Prop :=
  match r with
  | .inl q => q.2 ≤ N ∧ q.1 ≠ 0 ∧ q.1 < 4
  | .inr q => i + e ≤ q.1 ∧ q.1 ≤ N ∧ encL q.2 + i ≤ encL o + q.1
theorem pxG_B {N e e' i j0 : Nat} {o o0 : pxT} {r : pxR} {f : Nat → pxT → pxR} (h : pxG N e j0 o0 r) (hi : i ≤ j0) (ho : encL o0 + i ≤ encL o + j0) (hf : ∀ j o1, j0 + e ≤ j → j ≤ N → encL o1 + j0 ≤ encL o0 + j → pxG N e' i o (f j o1)) : pxG N e' i o (pxB r f) := by
  match r, h with
  | .inl q, h => exact h
  | .inr q, h => exact hf q.1 q.2 h.1 h.2.1 h.2.2
def pxK (K : Nat → Nat) (N : Nat) : Prop := N ≤ 400 ∧ ∀ x, x ≤ N → K x ≠ 0 → x < N
theorem gEw {N e i f x : Nat} {o : pxT} (h : x ≤ N) (h1 : f ≠ 0) (h2 : f < 4) : pxG N e i o (.inl (f, x)) := ⟨h, h1, h2⟩
theorem gUnit {K V : Nat → Nat} {N : Nat} (hK : pxK K N) {i : Nat} (hi : i ≤ N) (o : pxT) : pxG N 1 i o (pxUnit K V i o) := by
  unfold pxUnit
  by_cases c : 264 ≤ K i ∧ K i ≤ 272
  · rw [if_pos c]
    have := hK.2 i hi (by omega)
    exact ⟨Nat.le_refl _, by omega, by rw [encL_app, encL_1 (by show K i - 263 ≠ 26; omega)]; omega⟩
  · rw [if_neg c]
    by_cases d : K i = 1
    · rw [if_pos d]
      have := hK.2 i hi (by omega)
      exact ⟨Nat.le_refl _, by omega, by rw [encL_app, encL_1 (show ((0 : Nat), V i).1 ≠ 26 from (by decide : (0 : Nat) ≠ 26))]; omega⟩
    · rw [if_neg d]; exact gEw hi (by decide) (by decide)
theorem gMul {K V : Nat → Nat} {N : Nat} (hK : pxK K N) : ∀ (l i : Nat) (o : pxT), i ≤ N → pxG N 0 i o (pxMul K V l i o)
  | 0, i, o, hi => ⟨Nat.le_refl _, hi, Nat.le_refl _⟩
  | l + 1, i, o, hi => by
    unfold pxMul
    by_cases c : K i = 42
    · rw [if_pos c]
      have := hK.2 i hi (by omega)
      refine pxG_B (gUnit hK (show i + 1 ≤ N by omega) o) (by omega) (by omega) (fun j o1 h1 h2 h3 => ?_)
      have h := gMul hK l j (o1 ++ [(25, 0)]) h2 (V := V)
      match pxMul K V l j (o1 ++ [(25, 0)]), h with
      | .inl q, h => exact h
      | .inr q, h =>
        obtain ⟨a1, a2, a3⟩ := h
        rw [encL_app, encL_1 (by decide)] at a3
        exact ⟨by omega, a2, by omega⟩
    · rw [if_neg c]
      by_cases d : K i = 47
      · rw [if_pos d]
        have := hK.2 i hi (by omega)
        by_cases e : K (i + 1) = 1
        · rw [if_pos e]
          have := hK.2 (i + 1) (by omega) (by omega)
          by_cases f : V (i + 1) = 0
          · rw [if_pos f]; exact gEw (by omega) (by decide) (by decide)
          · rw [if_neg f]
            have h := gMul hK l (i + 2) (o ++ [(26, V (i + 1))]) (by omega) (V := V)
            match pxMul K V l (i + 2) (o ++ [(26, V (i + 1))]), h with
            | .inl q, h => exact h
            | .inr q, h =>
              obtain ⟨a1, a2, a3⟩ := h
              rw [encL_app, encL_2] at a3
              exact ⟨by omega, a2, by omega⟩
        · rw [if_neg e]; exact gEw (by omega) (by decide) (by decide)
      · rw [if_neg d]; exact ⟨Nat.le_refl _, hi, Nat.le_refl _⟩
theorem gProd {K V : Nat → Nat} {N : Nat} (hK : pxK K N) {i : Nat} (hi : i ≤ N) (o : pxT) : pxG N 1 i o (pxProd K V i o) := by
  unfold pxProd
  refine pxG_B (gUnit hK hi o) (by omega) (by omega) (fun j o1 h1 h2 h3 => ?_)
  have h := gMul hK 401 j o1 h2 (V := V)
  match pxMul K V 401 j o1, h with
  | .inl q, h => exact h
  | .inr q, h =>
    obtain ⟨a1, a2, a3⟩ := h
    exact ⟨by omega, a2, by omega⟩
theorem gAdd {K V : Nat → Nat} {N : Nat} (hK : pxK K N) : ∀ (l i : Nat) (o : pxT), i ≤ N → pxG N 0 i o (pxAdd K V l i o)
  | 0, i, o, hi => ⟨Nat.le_refl _, hi, Nat.le_refl _⟩
  | l + 1, i, o, hi => by
    have key : ∀ s, s ≠ 26 → i < N → pxG N 0 i o (pxB (pxProd K V (i + 1) o) (fun j o1 => pxAdd K V l j (o1 ++ [(s, 0)]))) := by
      intro s hs hl
      refine pxG_B (gProd hK (show i + 1 ≤ N by omega) o) (by omega) (by omega) (fun j o1 h1 h2 h3 => ?_)
      have h := gAdd hK l j (o1 ++ [(s, 0)]) h2 (V := V)
      match pxAdd K V l j (o1 ++ [(s, 0)]), h with
      | .inl q, h => exact h
      | .inr q, h =>
        obtain ⟨a1, a2, a3⟩ := h
        rw [encL_app, encL_1 hs] at a3
        exact ⟨by omega, a2, by omega⟩
    unfold pxAdd
    by_cases c : K i = 43
    · rw [if_pos c]; exact key 23 (by decide) (hK.2 i hi (by omega))
    · rw [if_neg c]
      by_cases d : K i = 45
      · rw [if_pos d]; exact key 24 (by decide) (hK.2 i hi (by omega))
      · rw [if_neg d]; exact ⟨Nat.le_refl _, hi, Nat.le_refl _⟩
theorem gSum {K V : Nat → Nat} {N : Nat} (hK : pxK K N) {i : Nat} (hi : i ≤ N) (o : pxT) : pxG N 1 i o (pxSum K V i o) := by
  unfold pxSum
  refine pxG_B (gProd hK hi o) (by omega) (by omega) (fun j o1 h1 h2 h3 => ?_)
  have h := gAdd hK 401 j o1 h2 (V := V)
  match pxAdd K V 401 j o1, h with
  | .inl q, h => exact h
  | .inr q, h =>
    obtain ⟨a1, a2, a3⟩ := h
    exact ⟨by omega, a2, by omega⟩
theorem gFin {N e i j0 s : Nat} {o o0 : pxT} {r : pxR} (hs : s ≠ 26) (h : pxG N e j0 o0 r) (hi : i < j0) (ho : encL o0 + i + 1 ≤ encL o + j0) : pxG N 1 i o (pxFin s r) := by
  unfold pxFin
  match r, h with
  | .inl q, h => exact h
  | .inr q, h =>
    obtain ⟨a1, a2, a3⟩ := h
    exact ⟨by show i + 1 ≤ q.1; omega, a2, by show encL (q.2 ++ [(s, 0)]) + i ≤ encL o + q.1; rw [encL_app, encL_1 hs]; omega⟩
theorem gCmp {K V : Nat → Nat} {N : Nat} (hK : pxK K N) {i : Nat} (hi : i ≤ N) (o : pxT) : pxG N 1 i o (pxCmp K V i o) := by
  unfold pxCmp
  refine pxG_B (gSum hK hi o) (by omega) (by omega) (fun j o1 h1 h2 h3 => ?_)
  have key : ∀ s, s ≠ 26 → j < N → pxG N 1 i o (pxFin s (pxSum K V (j + 1) o1)) := fun s hs hl => gFin hs (gSum hK (show j + 1 ≤ N by omega) o1) (by omega) (by omega)
  by_cases c : K j = 60
  · rw [if_pos c]; exact key 27 (by decide) (hK.2 j h2 (by omega))
  · rw [if_neg c]
    by_cases d : K j = 61
    · rw [if_pos d]; exact key 28 (by decide) (hK.2 j h2 (by omega))
    · rw [if_neg d]
      by_cases e : K j = 62
      · rw [if_pos e]; exact key 29 (by decide) (hK.2 j h2 (by omega))
      · rw [if_neg e]; exact gEw h2 (by decide) (by decide)
theorem gEvL {K : Nat → Nat} {N : Nat} (hK : pxK K N) {one : Nat → pxT → pxR} (h1 : ∀ i o, i ≤ N → pxG N 1 i o (one i o)) : ∀ (l i : Nat) (o : pxT), i ≤ N → pxG N 0 i o (pxEvL K one l i o)
  | 0, i, o, hi => ⟨Nat.le_refl _, hi, Nat.le_refl _⟩
  | l + 1, i, o, hi => by
    unfold pxEvL
    by_cases c : K i = 262
    · rw [if_pos c]
      have := hK.2 i hi (by omega)
      refine pxG_B (h1 (i + 1) o (by omega)) (by omega) (by omega) (fun j o1 k1 k2 k3 => ?_)
      have h := gEvL hK h1 l j (o1 ++ [(31, 0)]) k2
      match pxEvL K one l j (o1 ++ [(31, 0)]), h with
      | .inl q, h => exact h
      | .inr q, h =>
        obtain ⟨a1, a2, a3⟩ := h
        rw [encL_app, encL_1 (by decide)] at a3
        exact ⟨by omega, a2, by omega⟩
    · rw [if_neg c]; exact ⟨Nat.le_refl _, hi, Nat.le_refl _⟩
theorem gEv {K : Nat → Nat} {N : Nat} (hK : pxK K N) {one : Nat → pxT → pxR} (h1 : ∀ i o, i ≤ N → pxG N 1 i o (one i o)) {i : Nat} (hi : i ≤ N) (o : pxT) : pxG N 1 i o (pxEv K one i o) := by
  unfold pxEv
  refine pxG_B (h1 i o hi) (by omega) (by omega) (fun j o1 k1 k2 k3 => ?_)
  have h := gEvL hK h1 401 j o1 k2
  match pxEvL K one 401 j o1, h with
  | .inl q, h => exact h
  | .inr q, h =>
    obtain ⟨a1, a2, a3⟩ := h
    exact ⟨by omega, a2, by omega⟩
theorem gAnL {K : Nat → Nat} {N : Nat} (hK : pxK K N) {one : Nat → pxT → pxR} (h1 : ∀ i o, i ≤ N → pxG N 1 i o (one i o)) : ∀ (l i : Nat) (o : pxT), i ≤ N → pxG N 0 i o (pxAnL K one l i o)
  | 0, i, o, hi => ⟨Nat.le_refl _, hi, Nat.le_refl _⟩
  | l + 1, i, o, hi => by
    unfold pxAnL
    by_cases c : K i = 261
    · rw [if_pos c]
      have := hK.2 i hi (by omega)
      refine pxG_B (gEv hK h1 (show i + 1 ≤ N by omega) o) (by omega) (by omega) (fun j o1 k1 k2 k3 => ?_)
      have h := gAnL hK h1 l j (o1 ++ [(32, 0)]) k2
      match pxAnL K one l j (o1 ++ [(32, 0)]), h with
      | .inl q, h => exact h
      | .inr q, h =>
        obtain ⟨a1, a2, a3⟩ := h
        rw [encL_app, encL_1 (by decide)] at a3
        exact ⟨by omega, a2, by omega⟩
    · rw [if_neg c]; exact ⟨Nat.le_refl _, hi, Nat.le_refl _⟩
theorem gAny {K : Nat → Nat} {N : Nat} (hK : pxK K N) {one : Nat → pxT → pxR} (h1 : ∀ i o, i ≤ N → pxG N 1 i o (one i o)) {i : Nat} (hi : i ≤ N) (o : pxT) : pxG N 1 i o (pxAny K one i o) := by
  unfold pxAny
  refine pxG_B (gEv hK h1 hi o) (by omega) (by omega) (fun j o1 k1 k2 k3 => ?_)
  have h := gAnL hK h1 401 j o1 k2
  match pxAnL K one 401 j o1, h with
  | .inl q, h => exact h
  | .inr q, h =>
    obtain ⟨a1, a2, a3⟩ := h
    exact ⟨by omega, a2, by omega⟩
theorem gOne {K V : Nat → Nat} {N : Nat} (hK : pxK K N) : ∀ (f i : Nat) (o : pxT), i ≤ N → pxG N 1 i o (pxOne K V f i o)
  | 0, i, o, hi => by
    unfold pxOne
    split
    · exact gEw hi (by decide) (by decide)
    · exact gCmp hK hi o
  | f + 1, i, o, hi => by
    unfold pxOne
    by_cases c : K i = 263
    · rw [if_pos c]
      have := hK.2 i hi (by omega)
      exact gFin (by decide) (gOne hK f (i + 1) o (by omega)) (by omega) (by omega)
    · rw [if_neg c]
      by_cases d : K i = 40
      · rw [if_pos d]
        have := hK.2 i hi (by omega)
        refine pxG_B (gAny hK (fun i o hi => gOne hK f i o hi) (show i + 1 ≤ N by omega) o) (by omega) (by omega) (fun j o1 k1 k2 k3 => ?_)
        by_cases e : K j = 41
        · rw [if_pos e]
          have := hK.2 j k2 (by omega)
          exact ⟨by show i + 1 ≤ j + 1; omega, by show j + 1 ≤ N; omega, by show encL o1 + i ≤ encL o + (j + 1); omega⟩
        · rw [if_neg e]; exact gEw k2 (by decide) (by decide)
      · rw [if_neg d]; exact gCmp hK hi o
/-! the depth of the stack -/
theorem wfO_app : ∀ (a b : pxT) (d e f : Nat), wfO a d e → wfO b e f → wfO (a ++ b) d f
  | [], b, d, e, f, h1, h2 => by have h1 : d = e := h1; rw [h1]; exact h2
  | x :: a, b, d, e, f, ⟨m, h1, h3⟩, h2 => ⟨m, h1, wfO_app a b m e f h3 h2⟩
/-- what is new: at every depth up to D it leads from d + p to d + 1 -/
def pxW (p D : Nat) (o : pxT) (r : pxR) : Prop :=
  match r with
  | .inl _ => True
  | .inr q => ∃ t, q.2 = o ++ t ∧ ∀ d, d ≤ D → wfO t (d + p) (d + 1)
theorem pxW_m {p D D' : Nat} {o : pxT} {r : pxR} (h : pxW p D o r) (hD : D' ≤ D) : pxW p D' o r := by
  match r, h with
  | .inl e, _ => exact trivial
  | .inr q, ⟨t, e, ht⟩ => exact ⟨t, e, fun d hd => ht d (by omega)⟩
theorem pxW_n (D : Nat) (j : Nat) (o : pxT) : pxW 1 D o (.inr (j, o)) := ⟨[], (List.append_nil o).symm, fun _ _ => rfl⟩
theorem pxW_s {p D : Nat} {o t : pxT} {r : pxR} (ht : ∀ d, d ≤ D → wfO t (d + p) (d + 1)) (h : pxW 1 D (o ++ t) r) : pxW p D o r := by
  match r, h with
  | .inl e, _ => exact trivial
  | .inr (j, o1), ⟨t2, e, h2⟩ =>
    have e : o1 = o ++ t ++ t2 := e
    exact ⟨t ++ t2, by show o1 = _; rw [e, List.append_assoc], fun d hd => wfO_app t t2 _ _ _ (ht d hd) (h2 d hd)⟩
theorem pxW_1 {p D : Nat} {o : pxT} {r : pxR} {g : Nat → pxT → pxR} (h : pxW p D o r) (hg : ∀ j o1, pxW 1 D o1 (g j o1)) : pxW p D o (pxB r g) := by
  match r, h with
  | .inl e, _ => exact trivial
  | .inr (j, o1), ⟨t, e, ht⟩ =>
    have e : o1 = o ++ t := e
    show pxW p D o (g j o1)
    rw [e]
    exact pxW_s ht (hg j (o ++ t))
def pxOp (s : Nat) : Prop := s = 23 ∨ s = 24 ∨ s = 25 ∨ s = 27 ∨ s = 28 ∨ s = 29 ∨ s = 31 ∨ s = 32
theorem pxW_2 {D : Nat} {o : pxT} {r : pxR} {s : Nat} {g : Nat → pxT → pxR} (hs : pxOp s) (hD : D ≤ 30) (h : pxW 0 (D + 1) o r) (hg : ∀ j o1, pxW 1 D o1 (g j o1)) : pxW 1 D o (pxB r (fun j o1 => g j (o1 ++ [(s, 0)]))) := by
  match r, h with
  | .inl e, _ => exact trivial
  | .inr (j, o1), ⟨t, e, ht⟩ =>
    have e : o1 = o ++ t := e
    show pxW 1 D o (g j (o1 ++ [(s, 0)]))
    rw [e, List.append_assoc]
    refine pxW_s (fun d hd => ?_) (hg j (o ++ (t ++ [(s, 0)])))
    refine wfO_app t _ _ _ _ (ht (d + 1) (by omega)) ⟨d + 1, ⟨by omega, ?_⟩, rfl⟩
    exact Or.inr (Or.inr (Or.inr (Or.inr ⟨hs, by omega, rfl⟩)))
theorem pxW_F {D : Nat} {o : pxT} {r : pxR} {s : Nat} (hs : pxOp s) (hD : D ≤ 30) (h : pxW 0 (D + 1) o r) : pxW 1 D o (pxFin s r) := pxW_2 (g := fun j o => .inr (j, o)) hs hD h (fun j o1 => pxW_n D j o1)
def pxV (K V : Nat → Nat) : Prop := ∀ i, K i = 1 → V i ≤ 9999
theorem wUnit {K V : Nat → Nat} (hV : pxV K V) (i : Nat) (o : pxT) : pxW 0 31 o (pxUnit K V i o) := by
  unfold pxUnit
  by_cases c : 264 ≤ K i ∧ K i ≤ 272
  · rw [if_pos c]
    exact ⟨_, rfl, fun d hd => ⟨d + 1, ⟨by omega, Or.inr (Or.inl ⟨by show 1 ≤ K i - 263; omega, by show K i - 263 ≤ 9; omega, by omega, rfl⟩)⟩, rfl⟩⟩
  · rw [if_neg c]
    by_cases d : K i = 1
    · rw [if_pos d]
      exact ⟨_, rfl, fun d' hd => ⟨d' + 1, ⟨by omega, Or.inl ⟨rfl, hV i d, by omega, rfl⟩⟩, rfl⟩⟩
    · rw [if_neg d]; exact trivial
theorem wMul {K V : Nat → Nat} (hV : pxV K V) : ∀ (l i : Nat) (o : pxT), pxW 1 30 o (pxMul K V l i o)
  | 0, i, o => pxW_n 30 i o
  | l + 1, i, o => by
    unfold pxMul
    by_cases c : K i = 42
    · rw [if_pos c]
      exact pxW_2 (g := fun j o => pxMul K V l j o) (by unfold pxOp; decide) (by decide) (wUnit hV (i + 1) o) (fun j o1 => wMul hV l j o1)
    · rw [if_neg c]
      by_cases d : K i = 47
      · rw [if_pos d]
        by_cases e : K (i + 1) = 1
        · rw [if_pos e]
          by_cases f : V (i + 1) = 0
          · rw [if_pos f]; exact trivial
          · rw [if_neg f]
            have hv := hV (i + 1) e
            refine pxW_s (fun d' hd => ?_) (wMul hV l (i + 2) _)
            exact ⟨d' + 1, ⟨by omega, Or.inr (Or.inr (Or.inl ⟨rfl, by show 1 ≤ V (i + 1); omega, hv, by omega, by omega, rfl⟩))⟩, rfl⟩
        · rw [if_neg e]; exact trivial
      · rw [if_neg d]; exact pxW_n 30 i o
theorem wProd {K V : Nat → Nat} (hV : pxV K V) (i : Nat) (o : pxT) : pxW 0 30 o (pxProd K V i o) := pxW_1 (pxW_m (wUnit hV i o) (by decide)) (fun j o1 => wMul hV 401 j o1)
theorem wAdd {K V : Nat → Nat} (hV : pxV K V) : ∀ (l i : Nat) (o : pxT), pxW 1 29 o (pxAdd K V l i o)
  | 0, i, o => pxW_n 29 i o
  | l + 1, i, o => by
    unfold pxAdd
    by_cases c : K i = 43
    · rw [if_pos c]
      exact pxW_2 (g := fun j o => pxAdd K V l j o) (by unfold pxOp; decide) (by decide) (wProd hV (i + 1) o) (fun j o1 => wAdd hV l j o1)
    · rw [if_neg c]
      by_cases d : K i = 45
      · rw [if_pos d]
        exact pxW_2 (g := fun j o => pxAdd K V l j o) (by unfold pxOp; decide) (by decide) (wProd hV (i + 1) o) (fun j o1 => wAdd hV l j o1)
      · rw [if_neg d]; exact pxW_n 29 i o
theorem wSum {K V : Nat → Nat} (hV : pxV K V) (i : Nat) (o : pxT) : pxW 0 29 o (pxSum K V i o) := pxW_1 (pxW_m (wProd hV i o) (by decide)) (fun j o1 => wAdd hV 401 j o1)
theorem wCmp {K V : Nat → Nat} (hV : pxV K V) (i : Nat) (o : pxT) : pxW 0 28 o (pxCmp K V i o) := by
  unfold pxCmp
  refine pxW_1 (pxW_m (wSum hV i o) (by decide)) (fun j o1 => ?_)
  by_cases c : K j = 60
  · rw [if_pos c]; exact pxW_F (by unfold pxOp; decide) (by decide) (wSum hV (j + 1) o1)
  · rw [if_neg c]
    by_cases d : K j = 61
    · rw [if_pos d]; exact pxW_F (by unfold pxOp; decide) (by decide) (wSum hV (j + 1) o1)
    · rw [if_neg d]
      by_cases e : K j = 62
      · rw [if_pos e]; exact pxW_F (by unfold pxOp; decide) (by decide) (wSum hV (j + 1) o1)
      · rw [if_neg e]; exact trivial
theorem wEvL {K : Nat → Nat} {one : Nat → pxT → pxR} {D : Nat} (hD : D ≤ 30) (h1 : ∀ i o, pxW 0 (D + 1) o (one i o)) : ∀ (l i : Nat) (o : pxT), pxW 1 D o (pxEvL K one l i o)
  | 0, i, o => pxW_n D i o
  | l + 1, i, o => by
    unfold pxEvL
    by_cases c : K i = 262
    · rw [if_pos c]
      exact pxW_2 (g := fun j o => pxEvL K one l j o) (by unfold pxOp; decide) hD (h1 (i + 1) o) (fun j o1 => wEvL hD h1 l j o1)
    · rw [if_neg c]; exact pxW_n D i o
theorem wEv {K : Nat → Nat} {one : Nat → pxT → pxR} {D : Nat} (hD : D ≤ 30) (h1 : ∀ i o, pxW 0 (D + 1) o (one i o)) (i : Nat) (o : pxT) : pxW 0 D o (pxEv K one i o) := pxW_1 (pxW_m (h1 i o) (by omega)) (fun j o1 => wEvL hD h1 401 j o1)
theorem wAnL {K : Nat → Nat} {one : Nat → pxT → pxR} {D : Nat} (hD : D ≤ 29) (h1 : ∀ i o, pxW 0 (D + 2) o (one i o)) : ∀ (l i : Nat) (o : pxT), pxW 1 D o (pxAnL K one l i o)
  | 0, i, o => pxW_n D i o
  | l + 1, i, o => by
    unfold pxAnL
    by_cases c : K i = 261
    · rw [if_pos c]
      exact pxW_2 (g := fun j o => pxAnL K one l j o) (by unfold pxOp; decide) (by omega) (wEv (by omega) h1 (i + 1) o) (fun j o1 => wAnL hD h1 l j o1)
    · rw [if_neg c]; exact pxW_n D i o
theorem wAny {K : Nat → Nat} {one : Nat → pxT → pxR} {D : Nat} (hD : D ≤ 29) (h1 : ∀ i o, pxW 0 (D + 2) o (one i o)) (i : Nat) (o : pxT) : pxW 0 D o (pxAny K one i o) := pxW_1 (wEv (by omega) (fun i o => pxW_m (h1 i o) (by omega)) i o) (fun j o1 => wAnL hD h1 401 j o1)
theorem wOne {K V : Nat → Nat} (hV : pxV K V) : ∀ (f i : Nat) (o : pxT), f ≤ 8 → pxW 0 (18 - 2 * f) o (pxOne K V f i o)
  | 0, i, o, _ => by
    unfold pxOne
    split
    · exact trivial
    · exact pxW_m (wCmp hV i o) (by decide)
  | f + 1, i, o, hf => by
    unfold pxOne
    by_cases c : K i = 263
    · rw [if_pos c]
      have h := wOne hV f (i + 1) o (by omega)
      unfold pxFin
      match pxOne K V f (i + 1) o, h with
      | .inl e, _ => exact trivial
      | .inr (j, o1), ⟨t, e, ht⟩ =>
        have e : o1 = o ++ t := e
        refine ⟨t ++ [(30, 0)], by show o1 ++ [(30, 0)] = _; rw [e, List.append_assoc], fun d hd => ?_⟩
        exact wfO_app t _ _ _ _ (ht d (by omega)) ⟨d + 1, ⟨by omega, Or.inr (Or.inr (Or.inr (Or.inl ⟨rfl, by omega, rfl⟩)))⟩, rfl⟩
    · rw [if_neg c]
      by_cases d : K i = 40
      · rw [if_pos d]
        refine pxW_1 (wAny (by omega) (fun i o => pxW_m (wOne hV f i o (by omega)) (by omega)) (i + 1) o) (fun j o1 => ?_)
        by_cases e : K j = 41
        · rw [if_pos e]; exact pxW_n _ _ _
        · rw [if_neg e]; exact trivial
      · rw [if_neg d]; exact pxW_m (wCmp hV i o) (by omega)

