/-! runs over worlds -/
theorem u_bd {α β : Type} (m : Dm α) (k : α → Dm β) (w : Wd) : (dbind m k).1 w = (m.1 w).bind fun p => (k p.1).1 p.2 := rfl
theorem u_rd {α : Type} (f : Wd → Option α) (w : Wd) : (dread f).1 w = (f w).map fun x => (x, w) := rfl
theorem u_lf {α : Type} (o : Option α) (w : Wd) : (dlift o).1 w = o.map fun x => (x, w) := rfl
theorem u_pt (f : Wd → Option (Rf × Mem)) (w : Wd) : (dput f).1 w = (f w).map fun q => ((), (w.1, q)) := rfl
theorem u_rt {α : Type} (x : α) (w : Wd) : (dret x).1 w = some (x, w) := rfl
theorem u_no {α : Type} (w : Wd) : (dno : Dm α).1 w = none := rfl
theorem u_it {α : Type} (c : Prop) [Decidable c] (a b : Dm α) (w : Wd) : (if c then a else b).1 w = if c then a.1 w else b.1 w := by split <;> rfl
theorem u_on {α β : Type} (a : Dm β) (b : α → Dm β) : dopt none a b = a := rfl
theorem u_os {α β : Type} (x : α) (a : Dm β) (b : α → Dm β) : dopt (some x) a b = b x := rfl
theorem mp_some {α β : Type} (a : α) (f : α → β) : (some a).map f = some (f a) := rfl
/-- a read, then the rest -/
theorem b_rd {α β : Type} {f : Wd → Option α} {k : α → Dm β} {w : Wd} {x : α} (h : f w = some x) : (dbind (dread f) k).1 w = (k x).1 w := by
  rw [u_bd, u_rd, h]
  rfl
theorem b_lf {α β : Type} {o : Option α} {k : α → Dm β} {w : Wd} {x : α} (h : o = some x) : (dbind (dlift o) k).1 w = (k x).1 w := by
  rw [u_bd, u_lf, h]
  rfl
theorem b_pt {β : Type} {f : Wd → Option (Rf × Mem)} {k : Unit → Dm β} {w : Wd} {q : Rf × Mem} (h : f w = some q) : (dbind (dput f) k).1 w = (k ()).1 (w.1, q) := by
  rw [u_bd, u_pt, h]
  rfl
theorem b_ok {α β : Type} {m : Dm α} {k : α → Dm β} {w w1 : Wd} {x : α} (h : m.1 w = some (x, w1)) : (dbind m k).1 w = (k x).1 w1 := by
  rw [u_bd, h]
  rfl
theorem i_t {α : Type} {c : Prop} [Decidable c] {a b : Dm α} {w : Wd} (h : c) : (if c then a else b).1 w = a.1 w := by rw [if_pos h]
theorem i_f {α : Type} {c : Prop} [Decidable c] {a b : Dm α} {w : Wd} (h : ¬ c) : (if c then a else b).1 w = b.1 w := by rw [if_neg h]
theorem dclR_ok {f : Mem → Option Int32} {w : Wd} {x : Int32} (ho : OKs w) (h : f w.2.2 = some x) : (dclR f).1 w = some (x, w) := by
  unfold dclR dcl
  show (@ite _ (OKs w) (Classical.propDecidable _) _ _) = _
  rw [if_pos ho]
  show Option.map _ ((f w.2.2).map _) = _
  rw [h]
  rfl
theorem dclW_ok {f : Mem → Option (Int32 × Mem)} {w : Wd} {x : Int32} {v : Mem} (ho : OKs w) (h : f w.2.2 = some (x, v)) : (dclW f).1 w = some (x, (w.1, w.2.1, v)) := by
  unfold dclW dcl
  show (@ite _ (OKs w) (Classical.propDecidable _) _ _) = _
  rw [if_pos ho, h]
  rfl
theorem dclV_ok {f : Mem → Option Mem} {w : Wd} {v : Mem} (ho : OKs w) (h : f w.2.2 = some v) : (dclV f).1 w = some ((), (w.1, w.2.1, v)) := by
  unfold dclV dcl
  show (@ite _ (OKs w) (Classical.propDecidable _) _ _) = _
  rw [if_pos ho]
  show Option.map _ ((f w.2.2).map _) = _
  rw [h]
  rfl
/-! the law's four words, of the row -/
def hld (v lo hi : Int32) : Int32 := if lo < (if v < hi then v else hi) then (if v < hi then v else hi) else lo
theorem r_held (v lo hi : Int32) (w : Wd) : (DL_held v lo hi).1 w = some (hld v lo hi, w) := rfl
abbrev hbt (W : Wt) (m : Nat) : Prop := W (40 + m) = 1 ∧ ((sHills W >>> (W (52 + m) &&& 31)) &&& 1) = 1
def sayS (d : Nat → Int32) (W : Wt) (wd m : Nat) : Int32 :=
  if wd = 0 then (if W (102 + m) ≤ d 0 ∨ 3 < nI (pc (W (16 + m))) ∨ (W (90 + m) = 1 ∧ 5 < W 80) then hld (W (102 + m) / 9 - d 1) 0 120 else hld ((W (102 + m) - d 0) + W (114 + m)) 0 120)
  else if wd = 1 then (if W 80 ≤ d 2 ∧ ¬ hbt W m then hld ((W (114 + m) + d 3) - 3) 0 9 else hld (W (114 + m) / 2) 0 9)
  else if wd = 2 then (if d 4 ≤ W (4 + m) ∨ ¬ W 0 - W 0 / 2 * 2 = 0 then 0 else hld (d 5) 0 99)
  else hld (d 6 + (if W (40 + m) = 1 then W (52 + m) else 0) * 3) 0 1000
def sayN (W : Wt) (wd m : Nat) : Int32 := if wd = 0 then hld (W (102 + m) - 59) 0 120 else if wd = 1 then W (114 + m) else if wd = 2 then 0 else 50
def sayF (d : Option (Nat → Int32)) (W : Wt) (wd m : Nat) : Int32 := match d with
  | none => sayN W wd m
  | some d => sayS d W wd m
/-- the law that is told is the one of these numbers -/
def Lq (d : Option (Nat → Int32)) (W : Wt) : Prop := ∀ V : Wt, (∀ k, k = 84 ∨ 900 ≤ k → V k = W k) → WO V → ∀ wd m, wd < 4 → m < nmen V → sayF d V wd m = dAsk V wd m
/-! a War in the world, and the row that it stands for: its arrays, men's rows, the book's rows, the orders' rows, the law's numbers -/
abbrev Lay : Type := (Nat → Nat) × (Nat → Nat) × (Nat → Nat) × (Nat → Nat) × Option Nat
def WAi (w : Wd) (a : Nat) (W : Wt) : Prop := w.2.2 a 0 = W 2 ∧ w.2.2 a 1 = W 0 ∧ w.2.2 a 2 = W 1 ∧ w.2.2 a 3 = W 79 ∧ w.2.2 a 4 = W 80 ∧ w.2.2 a 5 = W 81 ∧ w.2.2 a 6 = W 78 ∧ w.2.2 a 7 = W 3 ∧ w.2.2 a 8 = sHills W ∧ w.2.2 a 9 = W 85 ∧ w.2.2 a 10 = W 87 ∧ w.2.2 a 11 = 0
def WAr (w : Wd) (a : Nat) (L : Lay) : Prop := w.1[a]? = some (.inr (.inl 12)) ∧ (∀ j, 13 ≤ j → j ≤ 18 → w.2.1 a j = some (L.1 j)) ∧ w.2.1 a 19 = L.2.2.2.2
def WAs (w : Wd) (L : Lay) (W : Wt) : Prop := w.1[L.1 13]? = some (.inl 2) ∧ w.1[L.1 14]? = some (.inl 12) ∧ w.1[L.1 15]? = some (.inl 8) ∧ w.1[L.1 16]? = some (.inr (.inr (2, 12))) ∧ w.1[L.1 17]? = some (.inr (.inr (2, 150))) ∧ w.1[L.1 18]? = some (.inr (.inr (2, nt (W 87))))
def WAv (w : Wd) (L : Lay) (W : Wt) : Prop := (∀ c, c < 2 → w.2.2 (L.1 13) c = W (82 + c)) ∧ (∀ m, m < 12 → w.2.2 (L.1 14) m = sTold W (nI m)) ∧ (∀ f, f < 8 → w.2.2 (L.1 15) f = sWt1 W (nI f))
def WA1 (w : Wd) (L : Lay) (W : Wt) (m : Nat) : Prop := w.2.1 (L.1 16) m = some (L.2.1 m) ∧ w.1[L.2.1 m]? = some (.inl 9) ∧ w.2.2 (L.2.1 m) 0 = W (90 + m) ∧ w.2.2 (L.2.1 m) 1 = W (102 + m) ∧ w.2.2 (L.2.1 m) 2 = W (114 + m) ∧ w.2.2 (L.2.1 m) 3 = W (4 + m) ∧ w.2.2 (L.2.1 m) 4 = W (16 + m) ∧ w.2.2 (L.2.1 m) 5 = W (28 + m) ∧ w.2.2 (L.2.1 m) 6 = W (40 + m) ∧ (W (40 + m) = 1 → w.2.2 (L.2.1 m) 7 = W (52 + m)) ∧ (W (40 + m) = 2 → w.2.2 (L.2.1 m) 8 = W (64 + m))
def WAm (w : Wd) (L : Lay) (W : Wt) : Prop := (∀ m, m < nmen W → WA1 w L W m) ∧ ∀ m k, m < nmen W → k < nmen W → L.2.1 m = L.2.1 k → m = k
def WAl (w : Wd) (L : Lay) (W : Wt) : Prop := ∀ i, i < nt (W 3) → w.2.1 (L.1 17) i = some (L.2.2.1 i) ∧ w.1[L.2.2.1 i]? = some (.inl 4) ∧ ∀ k, k < 4 → w.2.2 (L.2.2.1 i) k = W (300 + 4 * i + k)
def WAo (w : Wd) (L : Lay) (W : Wt) : Prop := ∀ i, i < nt (W 87) → w.2.1 (L.1 18) i = some (L.2.2.2.1 i) ∧ w.1[L.2.2.2.1 i]? = some (.inl 3) ∧ w.2.2 (L.2.2.2.1 i) 0 = W (222 + 3 * i) ∧ w.2.2 (L.2.2.2.1 i) 1 = (if W (222 + 3 * i + 1) = 11 then 1 else 0) ∧ w.2.2 (L.2.2.2.1 i) 2 = W (222 + 3 * i + 2)
def WAd (w : Wd) (L : Lay) (W : Wt) : Prop := match L.2.2.2.2 with
  | none => Lq none W
  | some q => w.1[q]? = some (.inl 7) ∧ Lq (some (w.2.2 q)) W
def WA (w : Wd) (a : Nat) (L : Lay) (W : Wt) : Prop := WAi w a W ∧ WAr w a L ∧ WAs w L W ∧ WAv w L W ∧ WAm w L W ∧ WAl w L W ∧ WAo w L W ∧ WAd w L W
theorem WA_i {w : Wd} {a : Nat} {L : Lay} {W : Wt} (h : WA w a L W) : WAi w a W := h.1
theorem WA_r {w : Wd} {a : Nat} {L : Lay} {W : Wt} (h : WA w a L W) : WAr w a L := h.2.1
theorem WA_s {w : Wd} {a : Nat} {L : Lay} {W : Wt} (h : WA w a L W) : WAs w L W := h.2.2.1
theorem WA_v {w : Wd} {a : Nat} {L : Lay} {W : Wt} (h : WA w a L W) : WAv w L W := h.2.2.2.1
theorem WA_m {w : Wd} {a : Nat} {L : Lay} {W : Wt} (h : WA w a L W) : WAm w L W := h.2.2.2.2.1
theorem WA_l {w : Wd} {a : Nat} {L : Lay} {W : Wt} (h : WA w a L W) : WAl w L W := h.2.2.2.2.2.1
theorem WA_o {w : Wd} {a : Nat} {L : Lay} {W : Wt} (h : WA w a L W) : WAo w L W := h.2.2.2.2.2.2.1
theorem WA_d {w : Wd} {a : Nat} {L : Lay} {W : Wt} (h : WA w a L W) : WAd w L W := h.2.2.2.2.2.2.2
/-! reads of it -/
theorem g_C {w : Wd} {a : Nat} {L : Lay} {W : Wt} (h : WA w a L W) : isC a 12 w = some () := if_pos (WA_r h).1
theorem g_I {w : Wd} {a : Nat} {L : Lay} {W : Wt} (h : WA w a L W) (j : Nat) : gfI a 12 j w = some (w.2.2 a j) := if_pos (WA_r h).1
theorem g_0 {w : Wd} {a : Nat} {L : Lay} {W : Wt} (h : WA w a L W) : gfI a 12 0 w = some (W 2) := by rw [g_I h, (WA_i h).1]
theorem g_1 {w : Wd} {a : Nat} {L : Lay} {W : Wt} (h : WA w a L W) : gfI a 12 1 w = some (W 0) := by rw [g_I h, (WA_i h).2.1]
theorem g_2 {w : Wd} {a : Nat} {L : Lay} {W : Wt} (h : WA w a L W) : gfI a 12 2 w = some (W 1) := by rw [g_I h, (WA_i h).2.2.1]
theorem g_3 {w : Wd} {a : Nat} {L : Lay} {W : Wt} (h : WA w a L W) : gfI a 12 3 w = some (W 79) := by rw [g_I h, (WA_i h).2.2.2.1]
theorem g_4 {w : Wd} {a : Nat} {L : Lay} {W : Wt} (h : WA w a L W) : gfI a 12 4 w = some (W 80) := by rw [g_I h, (WA_i h).2.2.2.2.1]
theorem g_5 {w : Wd} {a : Nat} {L : Lay} {W : Wt} (h : WA w a L W) : gfI a 12 5 w = some (W 81) := by rw [g_I h, (WA_i h).2.2.2.2.2.1]
theorem g_6 {w : Wd} {a : Nat} {L : Lay} {W : Wt} (h : WA w a L W) : gfI a 12 6 w = some (W 78) := by rw [g_I h, (WA_i h).2.2.2.2.2.2.1]
theorem g_7 {w : Wd} {a : Nat} {L : Lay} {W : Wt} (h : WA w a L W) : gfI a 12 7 w = some (W 3) := by rw [g_I h, (WA_i h).2.2.2.2.2.2.2.1]
theorem g_8 {w : Wd} {a : Nat} {L : Lay} {W : Wt} (h : WA w a L W) : gfI a 12 8 w = some (sHills W) := by rw [g_I h, (WA_i h).2.2.2.2.2.2.2.2.1]
theorem g_9 {w : Wd} {a : Nat} {L : Lay} {W : Wt} (h : WA w a L W) : gfI a 12 9 w = some (W 85) := by rw [g_I h, (WA_i h).2.2.2.2.2.2.2.2.2.1]
theorem g_10 {w : Wd} {a : Nat} {L : Lay} {W : Wt} (h : WA w a L W) : gfI a 12 10 w = some (W 87) := by rw [g_I h, (WA_i h).2.2.2.2.2.2.2.2.2.2.1]
theorem g_11 {w : Wd} {a : Nat} {L : Lay} {W : Wt} (h : WA w a L W) : gfI a 12 11 w = some 0 := by rw [g_I h, (WA_i h).2.2.2.2.2.2.2.2.2.2.2]
theorem g_R {w : Wd} {a : Nat} {L : Lay} {W : Wt} (h : WA w a L W) (j : Nat) (h1 : 13 ≤ j) (h2 : j ≤ 18) : gfR a 12 j w = some (L.1 j) := by
  rw [gfR, if_pos (WA_r h).1, (WA_r h).2.1 j h1 h2]
theorem g_O {w : Wd} {a : Nat} {L : Lay} {W : Wt} (h : WA w a L W) : gfO a 12 19 w = some L.2.2.2.2 := by
  rw [gfO, if_pos (WA_r h).1, (WA_r h).2.2]
theorem ia_k {w : Wd} {a n : Nat} (hs : w.1[a]? = some (.inl n)) (j : Nat) (i : Int32) (e : i = nI j) (h : j < n) (hn : n < 2147483648) : iald a i w = some (w.2.2 a j) := by
  unfold iald
  rw [hs]
  exact rdK j i e h hn
theorem aa_k {w : Wd} {a n q : Nat} (hs : w.1[a]? = some (.inr (.inr (2, n)))) (j : Nat) (h : j < n) (hn : n < 2147483648) (hr : w.2.1 a j = some q) : aald a (nI j) w = some q := by
  unfold aald
  rw [hs]
  show (if nI j < 0 ∨ n ≤ (nI j).toNatClampNeg then none else w.2.1 a (nI j).toNatClampNeg) = _
  rw [if_neg (nI_in h hn), nI_clamp (by omega), hr]
theorem g_man {w : Wd} {a : Nat} {L : Lay} {W : Wt} (h : WA w a L W) (hT : OkT W) {m : Nat} (hm : m < nmen W) : aald (L.1 16) (nI m) w = some (L.2.1 m) :=
  aa_k (WA_s h).2.2.2.1 m (Nat.lt_of_lt_of_le hm (OkT_n hT).2) (by decide) ((WA_m h).1 m hm).1
theorem g_m0 {w : Wd} {a : Nat} {L : Lay} {W : Wt} (h : WA w a L W) {m : Nat} (hm : m < nmen W) : iald (L.2.1 m) 0 w = some (W (90 + m)) := by
  have q := (WA_m h).1 m hm
  rw [ia_k q.2.1 0 0 (by decide) (by decide) (by decide), q.2.2.1]
theorem g_m1 {w : Wd} {a : Nat} {L : Lay} {W : Wt} (h : WA w a L W) {m : Nat} (hm : m < nmen W) : iald (L.2.1 m) 1 w = some (W (102 + m)) := by
  have q := (WA_m h).1 m hm
  rw [ia_k q.2.1 1 1 (by decide) (by decide) (by decide), q.2.2.2.1]
theorem g_m2 {w : Wd} {a : Nat} {L : Lay} {W : Wt} (h : WA w a L W) {m : Nat} (hm : m < nmen W) : iald (L.2.1 m) 2 w = some (W (114 + m)) := by
  have q := (WA_m h).1 m hm
  rw [ia_k q.2.1 2 2 (by decide) (by decide) (by decide), q.2.2.2.2.1]
theorem g_m3 {w : Wd} {a : Nat} {L : Lay} {W : Wt} (h : WA w a L W) {m : Nat} (hm : m < nmen W) : iald (L.2.1 m) 3 w = some (W (4 + m)) := by
  have q := (WA_m h).1 m hm
  rw [ia_k q.2.1 3 3 (by decide) (by decide) (by decide), q.2.2.2.2.2.1]
theorem g_m4 {w : Wd} {a : Nat} {L : Lay} {W : Wt} (h : WA w a L W) {m : Nat} (hm : m < nmen W) : iald (L.2.1 m) 4 w = some (W (16 + m)) := by
  have q := (WA_m h).1 m hm
  rw [ia_k q.2.1 4 4 (by decide) (by decide) (by decide), q.2.2.2.2.2.2.1]
theorem g_m5 {w : Wd} {a : Nat} {L : Lay} {W : Wt} (h : WA w a L W) {m : Nat} (hm : m < nmen W) : iald (L.2.1 m) 5 w = some (W (28 + m)) := by
  have q := (WA_m h).1 m hm
  rw [ia_k q.2.1 5 5 (by decide) (by decide) (by decide), q.2.2.2.2.2.2.2.1]
theorem g_m6 {w : Wd} {a : Nat} {L : Lay} {W : Wt} (h : WA w a L W) {m : Nat} (hm : m < nmen W) : iald (L.2.1 m) 6 w = some (W (40 + m)) := by
  have q := (WA_m h).1 m hm
  rw [ia_k q.2.1 6 6 (by decide) (by decide) (by decide), q.2.2.2.2.2.2.2.2.1]
theorem g_m7 {w : Wd} {a : Nat} {L : Lay} {W : Wt} (h : WA w a L W) {m : Nat} (hm : m < nmen W) (h1 : W (40 + m) = 1) : iald (L.2.1 m) 7 w = some (W (52 + m)) := by
  have q := (WA_m h).1 m hm
  rw [ia_k q.2.1 7 7 (by decide) (by decide) (by decide), q.2.2.2.2.2.2.2.2.2.1 h1]
theorem g_m8 {w : Wd} {a : Nat} {L : Lay} {W : Wt} (h : WA w a L W) {m : Nat} (hm : m < nmen W) (h1 : W (40 + m) = 2) : iald (L.2.1 m) 8 w = some (W (64 + m)) := by
  have q := (WA_m h).1 m hm
  rw [ia_k q.2.1 8 8 (by decide) (by decide) (by decide), q.2.2.2.2.2.2.2.2.2.2 h1]
theorem r_is {w : Wd} {a : Nat} {L : Lay} {W : Wt} (h : WA w a L W) (hT : OkT W) {m : Nat} (hm : m < nmen W) (c x : Int32) : (DX12_is a (nI m) c x).1 w = some (if W (90 + m) = c ∧ W (40 + m) = x then 1 else 0, w) := by
  unfold DX12_is
  rw [b_rd (g_R h 16 (by decide) (by decide)), b_rd (g_man h hT hm), b_rd (g_m0 h hm)]
  by_cases c1 : W (90 + m) = c
  · rw [i_t c1, b_rd (g_R h 16 (by decide) (by decide)), b_rd (g_man h hT hm), b_rd (g_m6 h hm)]
    by_cases c2 : W (40 + m) = x
    · rw [i_t c2, if_pos ⟨c1, c2⟩, u_rt]
    · rw [i_f c2, if_neg (fun q => c2 q.2), u_rt]
  · rw [i_f c1, if_neg (fun q => c1 q.1), u_rt]
