/-! stands: numbers alone -/
def sdN (p : Nat → Bool) (m : Nat) : Nat := fo m (fun i s => s + if p i = true then 1 else 0) 0
theorem sdN_s (p : Nat → Bool) (m : Nat) : sdN p (m + 1) = sdN p m + if p m = true then 1 else 0 := rfl
theorem sdN_y {p : Nat → Bool} {m : Nat} (h : p m = true) : sdN p (m + 1) = sdN p m + 1 := by rw [sdN_s, if_pos h]
theorem sdN_n {p : Nat → Bool} {m : Nat} (h : ¬ p m = true) : sdN p (m + 1) = sdN p m := by rw [sdN_s, if_neg h]; rfl
theorem sdN_le (p : Nat → Bool) : ∀ m, sdN p m ≤ m
  | 0 => Nat.le_refl 0
  | m + 1 => by
    have := sdN_le p m
    rw [sdN_s]; split <;> omega
theorem sdN_up (p : Nat → Bool) (m : Nat) : ∀ k, sdN p m ≤ sdN p (m + k)
  | 0 => Nat.le_refl _
  | k + 1 => by
    have := sdN_up p m k
    rw [show m + (k + 1) = (m + k) + 1 by omega, sdN_s]; omega
theorem sdN_mono (p : Nat → Bool) {m m' : Nat} (h : m ≤ m') : sdN p m ≤ sdN p m' := by
  have := sdN_up p m (m' - m)
  rw [show m + (m' - m) = m' by omega] at this; exact this
theorem sdN_lt {p : Nat → Bool} {m m' : Nat} (h : m < m') (hp : p m = true) : sdN p m < sdN p m' := by
  have h1 := sdN_y hp
  have h2 := sdN_mono p (show m + 1 ≤ m' by omega)
  omega
theorem sdN_inj {p : Nat → Bool} {m m' : Nat} (hp : p m = true) (hp' : p m' = true) (e : sdN p m = sdN p m') : m = m' := by
  rcases Nat.lt_trichotomy m m' with h | h | h
  · have := sdN_lt h hp; omega
  · exact h
  · have := sdN_lt h hp'; omega
theorem sdN_ex (p : Nat → Bool) {i : Nat} : ∀ n, i < sdN p n → ∃ m, m < n ∧ p m = true ∧ sdN p m = i
  | 0, h => absurd h (Nat.not_lt_zero _)
  | n + 1, h => by
    by_cases c : p n = true
    · rw [sdN_y c] at h
      by_cases d : i < sdN p n
      · obtain ⟨m, a, b, e⟩ := sdN_ex p n d
        exact ⟨m, by omega, b, e⟩
      · exact ⟨n, by omega, c, by omega⟩
    · rw [sdN_n c] at h
      obtain ⟨m, a, b, e⟩ := sdN_ex p n h
      exact ⟨m, by omega, b, e⟩
theorem sdN_dj {p q : Nat → Bool} (h : ∀ x, p x = true → q x = true → False) : ∀ m, sdN p m + sdN q m ≤ m
  | 0 => Nat.le_refl 0
  | m + 1 => by
    have := sdN_dj h m
    rw [sdN_s, sdN_s]
    by_cases a : p m = true
    · by_cases b : q m = true
      · exact absurd b (h m a)
      · rw [if_pos a, if_neg b]; omega
    · rw [if_neg a]; split <;> omega
theorem sd_fo {α : Type} {p : Nat → Bool} {old : Nat → Nat} (F : Nat → α → α) (a : α) : ∀ n, (∀ m, m < n → p m = true → old (sdN p m) = m) → fo (sdN p n) (fun j s => F (old j) s) a = fo n (fun o s => if p o = true then F o s else s) a
  | 0, _ => rfl
  | n + 1, h => by
    have ih := sd_fo F a n (fun m hm => h m (by omega))
    rw [fo_s]
    by_cases c : p n = true
    · rw [sdN_y c, fo_s, ih, h n (by omega) c, if_pos c]
    · rw [sdN_n c, ih, if_neg c]
def sdU (s : Nat → Bool) (o : Nat) : Nat → Bool := fun x => if x = o then true else s x
def sdC (O : Nat → Bool) (ag : Nat → Nat) (m : Nat) (s : Nat → Bool) (o : Nat) : Bool := O o && (!(s o) && decide (ag m < ag o))
def sdW (ag : Nat → Nat) (m o : Nat) : Nat := 10000 - (ag o - ag m)
def sdV (Y O : Nat → Bool) (ag : Nat → Nat) (n : Nat) : Nat → (Nat → Bool) → Nat
  | 0, _ => 0
  | k + 1, s => if Y (n - (k + 1)) = true then fo n (fun o a => if sdC O ag (n - (k + 1)) s o = true then max a (sdW ag (n - (k + 1)) o + sdV Y O ag n k (sdU s o)) else a) (sdV Y O ag n k s) else sdV Y O ag n k s
theorem sdV_y {Y O : Nat → Bool} {ag : Nat → Nat} {n m k : Nat} (e : m + (k + 1) = n) (hy : Y m = true) (s : Nat → Bool) : sdV Y O ag n (k + 1) s = fo n (fun o a => if sdC O ag m s o = true then max a (sdW ag m o + sdV Y O ag n k (sdU s o)) else a) (sdV Y O ag n k s) := by
  have em : n - (k + 1) = m := by omega
  show (if Y (n - (k + 1)) = true then _ else _) = _
  rw [em, if_pos hy]
theorem sdV_n {Y O : Nat → Bool} {ag : Nat → Nat} {n m k : Nat} (e : m + (k + 1) = n) (hy : ¬ Y m = true) (s : Nat → Bool) : sdV Y O ag n (k + 1) s = sdV Y O ag n k s := by
  have em : n - (k + 1) = m := by omega
  show (if Y (n - (k + 1)) = true then _ else _) = _
  rw [em, if_neg hy]
theorem sdU_cg {O s s' : Nat → Bool} {n : Nat} (h : ∀ x, x < n → O x = true → s x = s' x) (o : Nat) : ∀ x, x < n → O x = true → sdU s o x = sdU s' o x := fun x hx hO => by
  unfold sdU; rw [h x hx hO]
theorem sdC_cg {O s s' : Nat → Bool} {ag : Nat → Nat} {n : Nat} (h : ∀ x, x < n → O x = true → s x = s' x) (m : Nat) {o : Nat} (ho : o < n) : sdC O ag m s o = sdC O ag m s' o := by
  unfold sdC
  cases e : O o with
  | false => rfl
  | true => rw [h o ho e]
theorem sdV_cg (Y O : Nat → Bool) (ag : Nat → Nat) (n : Nat) : ∀ (k : Nat) {s s' : Nat → Bool}, (∀ x, x < n → O x = true → s x = s' x) → sdV Y O ag n k s = sdV Y O ag n k s'
  | 0, _, _, _ => rfl
  | k + 1, s, s', h => by
    unfold sdV
    rw [sdV_cg Y O ag n k h]
    by_cases c : Y (n - (k + 1)) = true
    · rw [if_pos c, if_pos c]
      refine fo_congr (fun o a ho => ?_)
      rw [sdC_cg h _ ho, sdV_cg Y O ag n k (sdU_cg h o)]
    · rw [if_neg c, if_neg c]
theorem sdV_le (Y O : Nat → Bool) (ag : Nat → Nat) (n : Nat) : ∀ (k : Nat) (s : Nat → Bool), sdV Y O ag n k s ≤ 10000 * k
  | 0, _ => Nat.le_refl 0
  | k + 1, s => by
    have ih := sdV_le Y O ag n k
    unfold sdV
    split
    · refine fo_inv (fun _ a => a ≤ 10000 * (k + 1)) (by have := ih s; omega) n (fun o a _ h => ?_)
      show (if _ then _ else _) ≤ _
      split
      · have h1 : sdW ag (n - (k + 1)) o ≤ 10000 := Nat.sub_le _ _
        have h2 := ih (sdU s o)
        rw [Nat.max_le]; omega
      · exact h
    · have := ih s; omega
theorem sd_nx (Y O : Nat → Bool) (ag : Nat → Nat) (n : Nat) : ∀ (k m : Nat), m + k = n → (sdN Y n = sdN Y m ∧ ∀ s, sdV Y O ag n k s = 0) ∨ ∃ m', m ≤ m' ∧ m' < n ∧ Y m' = true ∧ sdN Y m' = sdN Y m ∧ ∀ s, sdV Y O ag n (n - m') s = sdV Y O ag n k s
  | 0, m, h => Or.inl ⟨by rw [show n = m by omega], fun _ => rfl⟩
  | k + 1, m, h => by
    by_cases c : Y m = true
    · exact Or.inr ⟨m, Nat.le_refl _, by omega, c, rfl, fun s => by rw [show n - m = k + 1 by omega]⟩
    · rcases sd_nx Y O ag n k (m + 1) (by omega) with ⟨a, b⟩ | ⟨m', a, b, d, e, f⟩
      · exact Or.inl ⟨by rw [a, sdN_n c], fun s => by rw [sdV_n h c, b]⟩
      · exact Or.inr ⟨m', by omega, b, d, by rw [e, sdN_n c], fun s => by rw [f, sdV_n h c]⟩
def sdF (p : Nat → Bool) : Nat → Nat → Option Nat
  | 0, _ => none
  | k + 1, i => if p i = true then some i else sdF p k (i + 1)
theorem sdF_some {p : Nat → Bool} : ∀ (k i o : Nat), sdF p k i = some o → o < i + k ∧ p o = true
  | 0, i, o, h => by cases h
  | k + 1, i, o, h => by
    unfold sdF at h
    by_cases c : p i = true
    · rw [if_pos c] at h; cases h; exact ⟨by omega, c⟩
    · rw [if_neg c] at h
      obtain ⟨a, b⟩ := sdF_some k (i + 1) o h
      exact ⟨by omega, b⟩
theorem sdF_none {p : Nat → Bool} : ∀ (k i : Nat), sdF p k i = none → ∀ o, i ≤ o → o < i + k → ¬ p o = true
  | 0, i, _, o, h1, h2 => by omega
  | k + 1, i, h, o, h1, h2 => by
    unfold sdF at h
    by_cases c : p i = true
    · rw [if_pos c] at h; cases h
    · rw [if_neg c] at h
      by_cases e : o = i
      · rw [e]; exact c
      · exact sdF_none k (i + 1) h o (by omega) (by omega)
theorem sdF_cg {p q : Nat → Bool} : ∀ (k i : Nat), (∀ o, i ≤ o → o < i + k → p o = q o) → sdF p k i = sdF q k i
  | 0, _, _ => rfl
  | k + 1, i, h => by
    unfold sdF
    rw [h i (by omega) (by omega), sdF_cg k (i + 1) (fun o h1 h2 => h o (by omega) (by omega))]
theorem sdF_old {O p : Nat → Bool} {old : Nat → Nat} {n : Nat} (ho : ∀ m, m < n → O m = true → old (sdN O m) = m) : ∀ (k i : Nat), i + k = n → sdF (fun j => p (old j)) (sdN O n - sdN O i) (sdN O i) = (sdF (fun o => O o && p o) k i).map (sdN O)
  | 0, i, h => by rw [show i = n by omega, Nat.sub_self]; rfl
  | k + 1, i, h => by
    have ih := sdF_old (p := p) ho k (i + 1) (by omega)
    by_cases c : O i = true
    · have h1 := sdN_y c
      have h2 := sdN_mono O (show i + 1 ≤ n by omega)
      rw [show sdN O n - sdN O i = (sdN O n - sdN O (i + 1)) + 1 by omega]
      unfold sdF
      rw [ho i (by omega) c]
      cases e : p i with
      | true => rw [if_pos rfl, if_pos (by rw [c]; rfl)]; rfl
      | false => rw [if_neg (by decide), if_neg (by rw [c]; decide), ← h1]; exact ih
    · rw [sdN_n c] at ih
      show _ = Option.map (sdN O) (if (O i && p i) = true then some i else sdF (fun o => O o && p o) k (i + 1))
      rw [if_neg (by rw [eq_false_of_ne_true c]; exact fun h => by cases h)]
      exact ih
def sdQ (Y O : Nat → Bool) (ag : Nat → Nat) (n m : Nat) (s : Nat → Bool) (o : Nat) : Bool := sdC O ag m s o && decide (sdW ag m o + sdV Y O ag n (n - (m + 1)) (sdU s o) = sdV Y O ag n (n - m) s)
def sdP (Y O : Nat → Bool) (ag : Nat → Nat) (n m : Nat) (s : Nat → Bool) : Option Nat := if Y m = true then sdF (sdQ Y O ag n m s) n 0 else none
def sdX (s : Nat → Bool) : Option Nat → Nat → Bool
  | none => s
  | some o => sdU s o
def sdS (Y O : Nat → Bool) (ag : Nat → Nat) (n : Nat) : Nat → Nat → Bool
  | 0 => fun _ => false
  | m + 1 => sdX (sdS Y O ag n m) (sdP Y O ag n m (sdS Y O ag n m))
def sdD (ag : Nat → Nat) (m : Nat) (a : Nat × Nat) : Option Nat → Nat × Nat
  | none => a
  | some o => (a.1 + 1, a.2 + (ag o - ag m))
def sdA (Y O : Nat → Bool) (ag : Nat → Nat) (n : Nat) : Nat → Nat × Nat
  | 0 => (0, 0)
  | m + 1 => sdD ag m (sdA Y O ag n m) (sdP Y O ag n m (sdS Y O ag n m))
theorem sd_max {p : Nat → Bool} {g : Nat → Nat} {b : Nat} : ∀ n, fo n (fun o a => if p o = true then max a (g o) else a) b = b ∨ ∃ o, o < n ∧ p o = true ∧ fo n (fun o a => if p o = true then max a (g o) else a) b = g o
  | 0 => Or.inl rfl
  | n + 1 => by
    rw [fo_s]
    have ih := sd_max (p := p) (g := g) (b := b) n
    generalize fo n (fun o a => if p o = true then max a (g o) else a) b = x at ih
    by_cases c : p n = true
    · rw [if_pos c]
      rcases Nat.le_total x (g n) with h | h
      · rw [Nat.max_eq_right h]; exact Or.inr ⟨n, by omega, c, rfl⟩
      · rw [Nat.max_eq_left h]
        rcases ih with e | ⟨o, a, b', d⟩
        · exact Or.inl e
        · exact Or.inr ⟨o, by omega, b', d⟩
    · rw [if_neg c]
      rcases ih with e | ⟨o, a, b', d⟩
      · exact Or.inl e
      · exact Or.inr ⟨o, by omega, b', d⟩
theorem sd_st {Y O : Nat → Bool} {ag : Nat → Nat} {n : Nat} (hag : ∀ x, x < n → ag x ≤ 120) {m : Nat} (hm : m < n) (s : Nat → Bool) (a : Nat × Nat) : (sdD ag m a (sdP Y O ag n m s)).2 + sdV Y O ag n (n - m) s + 10000 * a.1 = 10000 * (sdD ag m a (sdP Y O ag n m s)).1 + sdV Y O ag n (n - (m + 1)) (sdX s (sdP Y O ag n m s)) + a.2 := by
  have e1 : n - m = n - (m + 1) + 1 := by omega
  have e2 : m + (n - (m + 1) + 1) = n := by omega
  cases hp : sdP Y O ag n m s with
  | some o =>
    have hp1 := hp
    unfold sdP at hp1
    by_cases c : Y m = true
    · rw [if_pos c] at hp1
      obtain ⟨q1, q2⟩ := sdF_some _ _ _ hp1
      unfold sdQ at q2
      rw [Bool.and_eq_true, decide_eq_true_eq] at q2
      have q3 := q2.2
      have q4 : ag o - ag m ≤ 120 := by have := hag o (by omega); omega
      unfold sdW at q3
      show a.2 + (ag o - ag m) + _ + _ = 10000 * (a.1 + 1) + sdV Y O ag n (n - (m + 1)) (sdU s o) + a.2
      omega
    · rw [if_neg c] at hp1; cases hp1
  | none =>
    show a.2 + sdV Y O ag n (n - m) s + 10000 * a.1 = 10000 * a.1 + sdV Y O ag n (n - (m + 1)) s + a.2
    have key : sdV Y O ag n (n - m) s = sdV Y O ag n (n - (m + 1)) s := by
      by_cases c : Y m = true
      · unfold sdP at hp
        rw [if_pos c] at hp
        rcases sd_max (p := sdC O ag m s) (g := fun o => sdW ag m o + sdV Y O ag n (n - (m + 1)) (sdU s o)) (b := sdV Y O ag n (n - (m + 1)) s) n with h | ⟨o, h1, h2, h3⟩
        · rw [e1, sdV_y e2 c, h]
        · refine absurd ?_ (sdF_none _ _ hp o (Nat.zero_le _) (by omega))
          unfold sdQ
          rw [h2, Bool.true_and, decide_eq_true_eq, e1, sdV_y e2 c, h3]
      · rw [e1, sdV_n e2 c]
    omega
theorem sd_sum {Y O : Nat → Bool} {ag : Nat → Nat} {n : Nat} (hag : ∀ x, x < n → ag x ≤ 120) : ∀ m, m ≤ n → sdV Y O ag n n (fun _ => false) + (sdA Y O ag n m).2 = 10000 * (sdA Y O ag n m).1 + sdV Y O ag n (n - m) (sdS Y O ag n m)
  | 0, _ => by show sdV Y O ag n n (fun _ => false) + 0 = 10000 * 0 + sdV Y O ag n (n - 0) (fun _ => false); rw [Nat.sub_zero]; omega
  | m + 1, h => by
    have ih := sd_sum (Y := Y) (O := O) hag m (by omega)
    have st := sd_st (Y := Y) (O := O) hag (show m < n by omega) (sdS Y O ag n m) (sdA Y O ag n m)
    show sdV Y O ag n n (fun _ => false) + (sdD ag m (sdA Y O ag n m) (sdP Y O ag n m (sdS Y O ag n m))).2 = 10000 * (sdD ag m (sdA Y O ag n m) (sdP Y O ag n m (sdS Y O ag n m))).1 + sdV Y O ag n (n - (m + 1)) (sdX (sdS Y O ag n m) (sdP Y O ag n m (sdS Y O ag n m)))
    omega
theorem sd_b {Y O : Nat → Bool} {ag : Nat → Nat} {n : Nat} (hag : ∀ x, x < n → ag x ≤ 120) : ∀ m, m ≤ n → (sdA Y O ag n m).1 ≤ m ∧ (sdA Y O ag n m).2 ≤ 120 * m ∧ ((sdA Y O ag n m).1 = 0 → (sdA Y O ag n m).2 = 0)
  | 0, _ => ⟨Nat.le_refl 0, Nat.le_refl 0, fun _ => rfl⟩
  | m + 1, h => by
    obtain ⟨h1, h2, h3⟩ := sd_b (Y := Y) (O := O) hag m (by omega)
    show (sdD ag m (sdA Y O ag n m) (sdP Y O ag n m (sdS Y O ag n m))).1 ≤ m + 1 ∧ (sdD ag m (sdA Y O ag n m) (sdP Y O ag n m (sdS Y O ag n m))).2 ≤ 120 * (m + 1) ∧ ((sdD ag m (sdA Y O ag n m) (sdP Y O ag n m (sdS Y O ag n m))).1 = 0 → (sdD ag m (sdA Y O ag n m) (sdP Y O ag n m (sdS Y O ag n m))).2 = 0)
    cases hp : sdP Y O ag n m (sdS Y O ag n m) with
    | none => exact ⟨by show (sdA Y O ag n m).1 ≤ m + 1; omega, by show (sdA Y O ag n m).2 ≤ 120 * (m + 1); omega, h3⟩
    | some o =>
      unfold sdP at hp
      by_cases c : Y m = true
      · rw [if_pos c] at hp
        obtain ⟨q1, -⟩ := sdF_some _ _ _ hp
        have := hag o (by omega)
        exact ⟨by show (sdA Y O ag n m).1 + 1 ≤ m + 1; omega, by show (sdA Y O ag n m).2 + (ag o - ag m) ≤ 120 * (m + 1); omega, fun e => by have e : (sdA Y O ag n m).1 + 1 = 0 := e; omega⟩
      · rw [if_neg c] at hp; cases hp
theorem sd_adv {Y O : Nat → Bool} {ag : Nat → Nat} {n : Nat} : ∀ (k m : Nat), sdN Y (m + k) = sdN Y m → sdS Y O ag n (m + k) = sdS Y O ag n m ∧ sdA Y O ag n (m + k) = sdA Y O ag n m
  | 0, _, _ => ⟨rfl, rfl⟩
  | k + 1, m, h => by
    have h1 := sdN_mono Y (show m ≤ m + k by omega)
    have h2 := sdN_s Y (m + k)
    have c : ¬ Y (m + k) = true := fun c => by rw [sdN_y c] at h2; rw [show m + (k + 1) = m + k + 1 by omega, sdN_y c] at h; omega
    rw [show m + (k + 1) = m + k + 1 by omega, sdN_n c] at h
    obtain ⟨a, b⟩ := sd_adv (O := O) (ag := ag) (n := n) k m h
    have hp : sdP Y O ag n (m + k) (sdS Y O ag n (m + k)) = none := by unfold sdP; rw [if_neg c]
    show sdX (sdS Y O ag n (m + k)) (sdP Y O ag n (m + k) (sdS Y O ag n (m + k))) = _ ∧ sdD ag (m + k) (sdA Y O ag n (m + k)) (sdP Y O ag n (m + k) (sdS Y O ag n (m + k))) = _
    rw [hp]
    exact ⟨a, b⟩
