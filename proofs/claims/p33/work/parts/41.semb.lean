/-! what the numbers of the row mean; the same of the class's cells -/
def nt (x : Int32) : Nat := x.toNatClampNeg
theorem nt_nI {k : Nat} (h : k < 2147483648) : nt (nI k) = k := nI_clamp (by omega)
def nmen (W : Wt) : Nat := nt (W 78)
def sIn (W : Wt) (c : Int32) : Int32 := fo (nmen W) (fun m s => s + if W (90 + m) = c ∧ W (40 + m) = 1 then 1 else 0) 0
def sKn (W : Wt) (c : Int32) : Int32 := fo (nmen W) (fun m s => s ||| if W (90 + m) = c then W (16 + m) else 0) 0
def sBr (W : Wt) (c : Int32) : Int32 := fo (nmen W) (fun m s => s + if W (90 + m) = c then W (4 + m) else 0) 0
def sWt1 (W : Wt) (f : Int32) : Int32 := fo (nt (W 86)) (fun i s => if W (190 + 2 * i) = f then W (190 + 2 * i + 1) else s) 1
def sWt (W : Wt) (z : Int32) : Int32 := fo 8 (fun f s => s + if tb z f = true then sWt1 W (nI f) else 0) 0
def sTold (W : Wt) (m : Int32) : Int32 := fo (nt (W 85)) (fun i s => if W (158 + 2 * i) = m then s ||| W (158 + 2 * i + 1) else s) 0
def sRest (W : Wt) (c : Int32) : Int32 := fo (nt (W 87)) (fun i s => if W (222 + 3 * i) = W 0 ∧ W (222 + 3 * i + 2) = c then (if W (222 + 3 * i + 1) = 11 then 1 else 0) else s) 0
def sHills (W : Wt) : Int32 := fo 16 (fun c s => s ||| (W (126 + c) <<< (nI c &&& 31))) 0
def sAt (W : Wt) (c cell : Int32) : Int32 := fo (nmen W) (fun m s => s + if W (90 + m) = c ∧ W (40 + m) = 1 ∧ W (52 + m) = cell then W (4 + m) else 0) 0
def sHeld (W : Wt) (c cell : Int32) : Bool := fo (nmen W) (fun m s => s || decide (W (90 + m) = c ∧ W (40 + m) = 1 ∧ W (52 + m) = cell)) false
def sCells (W : Wt) (c : Int32) : Int32 := fo (nmen W) (fun m s => s ||| if W (90 + m) = c ∧ W (40 + m) = 1 then 1 <<< (W (52 + m) &&& 31) else 0) 0
theorem rest_01 (W : Wt) (c : Int32) : sRest W c = 0 ∨ sRest W c = 1 := by
  refine fo_inv (fun _ s => s = 0 ∨ s = 1) (Or.inl rfl) _ (fun i s _ h => ?_)
  show (if _ then _ else s) = 0 ∨ (if _ then _ else s) = 1
  split
  · split <;> simp
  · exact h
theorem bchk_rest (W : Wt) (c : Int32) : bchk (sRest W c) = some (sRest W c) := by
  unfold bchk; rw [if_pos (rest_01 W c)]
def OkT (W : Wt) : Prop := (W 78 = nI (nmen W) ∧ nmen W ≤ 12) ∧ (∀ m, m < 12 → W (90 + m) = 0 ∨ W (90 + m) = 1) ∧ (∀ m, m < 12 → ∃ j, j ≤ 120 ∧ W (102 + m) = nI j) ∧ (∀ m, m < 12 → ∃ j, j ≤ 9 ∧ (m < nmen W → 0 < j) ∧ W (114 + m) = nI j) ∧ (∃ j, j ≤ 99 ∧ W 79 = nI j) ∧ (∃ j, j ≤ 9 ∧ W 80 = nI j) ∧ (∃ j, j ≤ 99 ∧ W 81 = nI j) ∧ (∀ c, c < 2 → ∃ j, j ≤ 9 ∧ W (82 + c) = nI j) ∧ (∀ c, c < 16 → W (126 + c) = 0 ∨ W (126 + c) = 1) ∧ (W 85 = nI (nt (W 85)) ∧ nt (W 85) ≤ 16) ∧ (W 86 = nI (nt (W 86)) ∧ nt (W 86) ≤ 16) ∧ (W 87 = nI (nt (W 87)) ∧ nt (W 87) ≤ 16) ∧ (W 88 = nI (nt (W 88)) ∧ nt (W 88) ≤ 10) ∧ (∀ i, i < nt (W 85) → ∃ k j, k < nmen W ∧ j < 2 ^ nmen W ∧ W (158 + 2 * i) = nI k ∧ W (158 + 2 * i + 1) = nI j) ∧ (∀ i, i < nt (W 86) → ∃ k j, k < 8 ∧ j ≤ 99 ∧ W (190 + 2 * i) = nI k ∧ W (190 + 2 * i + 1) = nI j) ∧ (∀ i, i < nt (W 88) → ∃ j, j ≤ 9 ∧ W (270 + 3 * i + 2) = nI j)
theorem OkT_n {W : Wt} (h : OkT W) : W 78 = nI (nmen W) ∧ nmen W ≤ 12 := h.1
theorem OkT_co {W : Wt} (h : OkT W) : ∀ m, m < 12 → W (90 + m) = 0 ∨ W (90 + m) = 1 := h.2.1
theorem OkT_ag {W : Wt} (h : OkT W) : ∀ m, m < 12 → ∃ j, j ≤ 120 ∧ W (102 + m) = nI j := h.2.2.1
theorem OkT_le {W : Wt} (h : OkT W) : ∀ m, m < 12 → ∃ j, j ≤ 9 ∧ (m < nmen W → 0 < j) ∧ W (114 + m) = nI j := h.2.2.2.1
theorem OkT_keep {W : Wt} (h : OkT W) : ∃ j, j ≤ 99 ∧ W 79 = nI j := h.2.2.2.2.1
theorem OkT_rain {W : Wt} (h : OkT W) : ∃ j, j ≤ 9 ∧ W 80 = nI j := h.2.2.2.2.2.1
theorem OkT_tea {W : Wt} (h : OkT W) : ∃ j, j ≤ 99 ∧ W 81 = nI j := h.2.2.2.2.2.2.1
theorem OkT_wa {W : Wt} (h : OkT W) : ∀ c, c < 2 → ∃ j, j ≤ 9 ∧ W (82 + c) = nI j := h.2.2.2.2.2.2.2.1
theorem OkT_hi {W : Wt} (h : OkT W) : ∀ c, c < 16 → W (126 + c) = 0 ∨ W (126 + c) = 1 := h.2.2.2.2.2.2.2.2.1
theorem OkT_tn {W : Wt} (h : OkT W) : W 85 = nI (nt (W 85)) ∧ nt (W 85) ≤ 16 := h.2.2.2.2.2.2.2.2.2.1
theorem OkT_wn {W : Wt} (h : OkT W) : W 86 = nI (nt (W 86)) ∧ nt (W 86) ≤ 16 := h.2.2.2.2.2.2.2.2.2.2.1
theorem OkT_on {W : Wt} (h : OkT W) : W 87 = nI (nt (W 87)) ∧ nt (W 87) ≤ 16 := h.2.2.2.2.2.2.2.2.2.2.2.1
theorem OkT_sn {W : Wt} (h : OkT W) : W 88 = nI (nt (W 88)) ∧ nt (W 88) ≤ 10 := h.2.2.2.2.2.2.2.2.2.2.2.2.1
theorem OkT_te {W : Wt} (h : OkT W) : ∀ i, i < nt (W 85) → ∃ k j, k < nmen W ∧ j < 2 ^ nmen W ∧ W (158 + 2 * i) = nI k ∧ W (158 + 2 * i + 1) = nI j := h.2.2.2.2.2.2.2.2.2.2.2.2.2.1
theorem OkT_we {W : Wt} (h : OkT W) : ∀ i, i < nt (W 86) → ∃ k j, k < 8 ∧ j ≤ 99 ∧ W (190 + 2 * i) = nI k ∧ W (190 + 2 * i + 1) = nI j := h.2.2.2.2.2.2.2.2.2.2.2.2.2.2.1
theorem OkT_sg {W : Wt} (h : OkT W) : ∀ i, i < nt (W 88) → ∃ j, j ≤ 9 ∧ W (270 + 3 * i + 2) = nI j := h.2.2.2.2.2.2.2.2.2.2.2.2.2.2.2
def OkD (W : Wt) : Prop := (∀ m, m < 12 → ∃ j, j ≤ 99 ∧ W (4 + m) = nI j) ∧ (∀ m, m < 12 → ∃ j, j < 256 ∧ W (16 + m) = nI j) ∧ (∀ m, m < 12 → ∃ j, j ≤ 999 ∧ W (28 + m) = nI j) ∧ (∀ m, m < 12 → ∃ j, j < 3 ∧ W (40 + m) = nI j) ∧ (∀ m, m < 12 → ∃ j, j < 16 ∧ W (52 + m) = nI j) ∧ (W 1 = 0 ∨ W 1 = 1) ∧ (∃ j, j ≤ 150 ∧ W 3 = nI j) ∧ (∀ m, m < 12 → nmen W ≤ m → W (40 + m) = 0)
theorem OkD_br {W : Wt} (h : OkD W) : ∀ m, m < 12 → ∃ j, j ≤ 99 ∧ W (4 + m) = nI j := h.1
theorem OkD_kn {W : Wt} (h : OkD W) : ∀ m, m < 12 → ∃ j, j < 256 ∧ W (16 + m) = nI j := h.2.1
theorem OkD_cn {W : Wt} (h : OkD W) : ∀ m, m < 12 → ∃ j, j ≤ 999 ∧ W (28 + m) = nI j := h.2.2.1
theorem OkD_wh {W : Wt} (h : OkD W) : ∀ m, m < 12 → ∃ j, j < 3 ∧ W (40 + m) = nI j := h.2.2.2.1
theorem OkD_ce {W : Wt} (h : OkD W) : ∀ m, m < 12 → ∃ j, j < 16 ∧ W (52 + m) = nI j := h.2.2.2.2.1
theorem OkD_war {W : Wt} (h : OkD W) : W 1 = 0 ∨ W 1 = 1 := h.2.2.2.2.2.1
theorem OkD_ln {W : Wt} (h : OkD W) : ∃ j, j ≤ 150 ∧ W 3 = nI j := h.2.2.2.2.2.2.1
theorem OkD_hm {W : Wt} (h : OkD W) : ∀ m, m < 12 → nmen W ≤ m → W (40 + m) = 0 := h.2.2.2.2.2.2.2
def TR (t : Nat) (u : Mem) (W : Wt) : Prop := (u t 0 = W 78) ∧ (u t 7 = W 79) ∧ (u t 8 = W 80) ∧ (u t 9 = W 81) ∧ (u t 10 = sHills W) ∧ (u t 11 = W 85) ∧ (u t 12 = W 86) ∧ (∀ m, m < 12 → u (t + 1) m = W (90 + m)) ∧ (∀ m, m < 12 → u (t + 2) m = W (102 + m)) ∧ (∀ m, m < 12 → u (t + 3) m = W (114 + m)) ∧ (∀ m, m < 12 → u (t + 4) m = sTold W (nI m)) ∧ (∀ c, c < 2 → u (t + 5) c = W (82 + c)) ∧ (∀ f, f < 8 → u (t + 6) f = sWt1 W (nI f)) ∧ (u (t + 14) 3 = W 87) ∧ (∀ i, i < nt (W 87) → u (t + 15) i = W (222 + 3 * i)) ∧ (∀ i, i < nt (W 87) → u (t + 16) i = W (222 + 3 * i + 2)) ∧ (∀ i, i < nt (W 87) → u (t + 17) i = if W (222 + 3 * i + 1) = 11 then 1 else 0) ∧ (u (t + 18) 3 = W 88) ∧ (∀ i, i < nt (W 88) → u (t + 19) i = W (270 + 3 * i)) ∧ (∀ i, i < nt (W 88) → u (t + 20) i = W (270 + 3 * i + 1)) ∧ (∀ i, i < nt (W 88) → u (t + 21) i = W (270 + 3 * i + 2))
theorem TR_men {t : Nat} {u : Mem} {W : Wt} (h : TR t u W) : u t 0 = W 78 := h.1
theorem TR_keep {t : Nat} {u : Mem} {W : Wt} (h : TR t u W) : u t 7 = W 79 := h.2.1
theorem TR_rain {t : Nat} {u : Mem} {W : Wt} (h : TR t u W) : u t 8 = W 80 := h.2.2.1
theorem TR_tea {t : Nat} {u : Mem} {W : Wt} (h : TR t u W) : u t 9 = W 81 := h.2.2.2.1
theorem TR_hi {t : Nat} {u : Mem} {W : Wt} (h : TR t u W) : u t 10 = sHills W := h.2.2.2.2.1
theorem TR_tl {t : Nat} {u : Mem} {W : Wt} (h : TR t u W) : u t 11 = W 85 := h.2.2.2.2.2.1
theorem TR_wl {t : Nat} {u : Mem} {W : Wt} (h : TR t u W) : u t 12 = W 86 := h.2.2.2.2.2.2.1
theorem TR_co {t : Nat} {u : Mem} {W : Wt} (h : TR t u W) : ∀ m, m < 12 → u (t + 1) m = W (90 + m) := h.2.2.2.2.2.2.2.1
theorem TR_ag {t : Nat} {u : Mem} {W : Wt} (h : TR t u W) : ∀ m, m < 12 → u (t + 2) m = W (102 + m) := h.2.2.2.2.2.2.2.2.1
theorem TR_le {t : Nat} {u : Mem} {W : Wt} (h : TR t u W) : ∀ m, m < 12 → u (t + 3) m = W (114 + m) := h.2.2.2.2.2.2.2.2.2.1
theorem TR_te {t : Nat} {u : Mem} {W : Wt} (h : TR t u W) : ∀ m, m < 12 → u (t + 4) m = sTold W (nI m) := h.2.2.2.2.2.2.2.2.2.2.1
theorem TR_wa {t : Nat} {u : Mem} {W : Wt} (h : TR t u W) : ∀ c, c < 2 → u (t + 5) c = W (82 + c) := h.2.2.2.2.2.2.2.2.2.2.2.1
theorem TR_we {t : Nat} {u : Mem} {W : Wt} (h : TR t u W) : ∀ f, f < 8 → u (t + 6) f = sWt1 W (nI f) := h.2.2.2.2.2.2.2.2.2.2.2.2.1
theorem TR_ol {t : Nat} {u : Mem} {W : Wt} (h : TR t u W) : u (t + 14) 3 = W 87 := h.2.2.2.2.2.2.2.2.2.2.2.2.2.1
theorem TR_od {t : Nat} {u : Mem} {W : Wt} (h : TR t u W) : ∀ i, i < nt (W 87) → u (t + 15) i = W (222 + 3 * i) := h.2.2.2.2.2.2.2.2.2.2.2.2.2.2.1
theorem TR_oc {t : Nat} {u : Mem} {W : Wt} (h : TR t u W) : ∀ i, i < nt (W 87) → u (t + 16) i = W (222 + 3 * i + 2) := h.2.2.2.2.2.2.2.2.2.2.2.2.2.2.2.1
theorem TR_or {t : Nat} {u : Mem} {W : Wt} (h : TR t u W) : ∀ i, i < nt (W 87) → u (t + 17) i = if W (222 + 3 * i + 1) = 11 then 1 else 0 := h.2.2.2.2.2.2.2.2.2.2.2.2.2.2.2.2.1
theorem TR_sl {t : Nat} {u : Mem} {W : Wt} (h : TR t u W) : u (t + 18) 3 = W 88 := h.2.2.2.2.2.2.2.2.2.2.2.2.2.2.2.2.2.1
theorem TR_sd {t : Nat} {u : Mem} {W : Wt} (h : TR t u W) : ∀ i, i < nt (W 88) → u (t + 19) i = W (270 + 3 * i) := h.2.2.2.2.2.2.2.2.2.2.2.2.2.2.2.2.2.2.1
theorem TR_sc {t : Nat} {u : Mem} {W : Wt} (h : TR t u W) : ∀ i, i < nt (W 88) → u (t + 20) i = W (270 + 3 * i + 1) := h.2.2.2.2.2.2.2.2.2.2.2.2.2.2.2.2.2.2.2.1
theorem TR_sg {t : Nat} {u : Mem} {W : Wt} (h : TR t u W) : ∀ i, i < nt (W 88) → u (t + 21) i = W (270 + 3 * i + 2) := h.2.2.2.2.2.2.2.2.2.2.2.2.2.2.2.2.2.2.2.2
def BR (b : Nat) (u : Mem) (W : Wt) : Prop := (u b 6 = W 1) ∧ (u b 7 = W 0) ∧ (u b 8 = W 2) ∧ (u b 9 = W 3) ∧ (∀ j m, j < 6 → m < 12 → u (b + 1 + j) m = W (4 + 12 * j + m))
theorem BR_war {b : Nat} {u : Mem} {W : Wt} (h : BR b u W) : u b 6 = W 1 := h.1
theorem BR_day {b : Nat} {u : Mem} {W : Wt} (h : BR b u W) : u b 7 = W 0 := h.2.1
theorem BR_dr {b : Nat} {u : Mem} {W : Wt} (h : BR b u W) : u b 8 = W 2 := h.2.2.1
theorem BR_ln {b : Nat} {u : Mem} {W : Wt} (h : BR b u W) : u b 9 = W 3 := h.2.2.2.1
theorem BR_ar {b : Nat} {u : Mem} {W : Wt} (h : BR b u W) : ∀ j m, j < 6 → m < 12 → u (b + 1 + j) m = W (4 + 12 * j + m) := h.2.2.2.2
theorem BR_br {b : Nat} {u : Mem} {W : Wt} (h : BR b u W) : ∀ m, m < 12 → u (b + 1) m = W (4 + m) := fun m hm => BR_ar h 0 m (by omega) hm
theorem BR_kn {b : Nat} {u : Mem} {W : Wt} (h : BR b u W) : ∀ m, m < 12 → u (b + 2) m = W (16 + m) := fun m hm => BR_ar h 1 m (by omega) hm
theorem BR_cn {b : Nat} {u : Mem} {W : Wt} (h : BR b u W) : ∀ m, m < 12 → u (b + 3) m = W (28 + m) := fun m hm => BR_ar h 2 m (by omega) hm
theorem BR_wh {b : Nat} {u : Mem} {W : Wt} (h : BR b u W) : ∀ m, m < 12 → u (b + 4) m = W (40 + m) := fun m hm => BR_ar h 3 m (by omega) hm
theorem BR_ce {b : Nat} {u : Mem} {W : Wt} (h : BR b u W) : ∀ m, m < 12 → u (b + 5) m = W (52 + m) := fun m hm => BR_ar h 4 m (by omega) hm
theorem BR_si {b : Nat} {u : Mem} {W : Wt} (h : BR b u W) : ∀ m, m < 12 → u (b + 6) m = W (64 + m) := fun m hm => BR_ar h 5 m (by omega) hm
theorem rd_co {u : Mem} {W : Wt} (h : TR 1 u W) {m : Nat} (hm : m < 12) : rdA u 2 12 (nI m) = some (W (90 + m)) := by rw [r_ok hm (by omega)]; exact congrArg some (TR_co h m hm)
theorem rd_ag {u : Mem} {W : Wt} (h : TR 1 u W) {m : Nat} (hm : m < 12) : rdA u 3 12 (nI m) = some (W (102 + m)) := by rw [r_ok hm (by omega)]; exact congrArg some (TR_ag h m hm)
theorem rd_le {u : Mem} {W : Wt} (h : TR 1 u W) {m : Nat} (hm : m < 12) : rdA u 4 12 (nI m) = some (W (114 + m)) := by rw [r_ok hm (by omega)]; exact congrArg some (TR_le h m hm)
theorem rd_te {u : Mem} {W : Wt} (h : TR 1 u W) {m : Nat} (hm : m < 12) : rdA u 5 12 (nI m) = some (sTold W (nI m)) := by rw [r_ok hm (by omega)]; exact congrArg some (TR_te h m hm)
theorem rd_wa {u : Mem} {W : Wt} (h : TR 1 u W) {m : Nat} (hm : m < 2) : rdA u 6 2 (nI m) = some (W (82 + m)) := by rw [r_ok hm (by omega)]; exact congrArg some (TR_wa h m hm)
theorem rd_we {u : Mem} {W : Wt} (h : TR 1 u W) {m : Nat} (hm : m < 8) : rdA u 7 8 (nI m) = some (sWt1 W (nI m)) := by rw [r_ok hm (by omega)]; exact congrArg some (TR_we h m hm)
theorem rd_od {u : Mem} {W : Wt} (h : TR 1 u W) {i : Nat} (hi : i < nt (W 87)) (h6 : i < 16) : rdA u 16 16 (nI i) = some (W (222 + 3 * i)) := by rw [r_ok h6 (by omega)]; exact congrArg some (TR_od h i hi)
theorem rd_oc {u : Mem} {W : Wt} (h : TR 1 u W) {i : Nat} (hi : i < nt (W 87)) (h6 : i < 16) : rdA u 17 16 (nI i) = some (W (222 + 3 * i + 2)) := by rw [r_ok h6 (by omega)]; exact congrArg some (TR_oc h i hi)
theorem rd_or {u : Mem} {W : Wt} (h : TR 1 u W) {i : Nat} (hi : i < nt (W 87)) (h6 : i < 16) : rdA u 18 16 (nI i) = some (if W (222 + 3 * i + 1) = 11 then 1 else 0) := by rw [r_ok h6 (by omega)]; exact congrArg some (TR_or h i hi)
theorem rd_sd {u : Mem} {W : Wt} (h : TR 1 u W) {i : Nat} (hi : i < nt (W 88)) (h6 : i < 10) : rdA u 20 10 (nI i) = some (W (270 + 3 * i)) := by rw [r_ok h6 (by omega)]; exact congrArg some (TR_sd h i hi)
theorem rd_sc {u : Mem} {W : Wt} (h : TR 1 u W) {i : Nat} (hi : i < nt (W 88)) (h6 : i < 10) : rdA u 21 10 (nI i) = some (W (270 + 3 * i + 1)) := by rw [r_ok h6 (by omega)]; exact congrArg some (TR_sc h i hi)
theorem rd_sg {u : Mem} {W : Wt} (h : TR 1 u W) {i : Nat} (hi : i < nt (W 88)) (h6 : i < 10) : rdA u 22 10 (nI i) = some (W (270 + 3 * i + 2)) := by rw [r_ok h6 (by omega)]; exact congrArg some (TR_sg h i hi)
theorem rd_br_23 {u : Mem} {W : Wt} (h : BR 23 u W) {m : Nat} (hm : m < 12) : rdA u 24 12 (nI m) = some (W (4 + m)) := by rw [r_ok hm (by omega)]; exact congrArg some (BR_br h m hm)
theorem rd_kn_23 {u : Mem} {W : Wt} (h : BR 23 u W) {m : Nat} (hm : m < 12) : rdA u 25 12 (nI m) = some (W (16 + m)) := by rw [r_ok hm (by omega)]; exact congrArg some (BR_kn h m hm)
theorem rd_cn_23 {u : Mem} {W : Wt} (h : BR 23 u W) {m : Nat} (hm : m < 12) : rdA u 26 12 (nI m) = some (W (28 + m)) := by rw [r_ok hm (by omega)]; exact congrArg some (BR_cn h m hm)
theorem rd_wh_23 {u : Mem} {W : Wt} (h : BR 23 u W) {m : Nat} (hm : m < 12) : rdA u 27 12 (nI m) = some (W (40 + m)) := by rw [r_ok hm (by omega)]; exact congrArg some (BR_wh h m hm)
theorem rd_ce_23 {u : Mem} {W : Wt} (h : BR 23 u W) {m : Nat} (hm : m < 12) : rdA u 28 12 (nI m) = some (W (52 + m)) := by rw [r_ok hm (by omega)]; exact congrArg some (BR_ce h m hm)
theorem rd_si_23 {u : Mem} {W : Wt} (h : BR 23 u W) {m : Nat} (hm : m < 12) : rdA u 29 12 (nI m) = some (W (64 + m)) := by rw [r_ok hm (by omega)]; exact congrArg some (BR_si h m hm)
theorem rd_br_97 {u : Mem} {W : Wt} (h : BR 97 u W) {m : Nat} (hm : m < 12) : rdA u 98 12 (nI m) = some (W (4 + m)) := by rw [r_ok hm (by omega)]; exact congrArg some (BR_br h m hm)
theorem rd_kn_97 {u : Mem} {W : Wt} (h : BR 97 u W) {m : Nat} (hm : m < 12) : rdA u 99 12 (nI m) = some (W (16 + m)) := by rw [r_ok hm (by omega)]; exact congrArg some (BR_kn h m hm)
theorem rd_cn_97 {u : Mem} {W : Wt} (h : BR 97 u W) {m : Nat} (hm : m < 12) : rdA u 100 12 (nI m) = some (W (28 + m)) := by rw [r_ok hm (by omega)]; exact congrArg some (BR_cn h m hm)
theorem rd_wh_97 {u : Mem} {W : Wt} (h : BR 97 u W) {m : Nat} (hm : m < 12) : rdA u 101 12 (nI m) = some (W (40 + m)) := by rw [r_ok hm (by omega)]; exact congrArg some (BR_wh h m hm)
theorem rd_ce_97 {u : Mem} {W : Wt} (h : BR 97 u W) {m : Nat} (hm : m < 12) : rdA u 102 12 (nI m) = some (W (52 + m)) := by rw [r_ok hm (by omega)]; exact congrArg some (BR_ce h m hm)
theorem rd_si_97 {u : Mem} {W : Wt} (h : BR 97 u W) {m : Nat} (hm : m < 12) : rdA u 103 12 (nI m) = some (W (64 + m)) := by rw [r_ok hm (by omega)]; exact congrArg some (BR_si h m hm)
theorem ru_men {u : Mem} {W : Wt} (h : TR 1 u W) : u 1 0 = W 78 := TR_men h
theorem ru_keep {u : Mem} {W : Wt} (h : TR 1 u W) : u 1 7 = W 79 := TR_keep h
theorem ru_rain {u : Mem} {W : Wt} (h : TR 1 u W) : u 1 8 = W 80 := TR_rain h
theorem ru_tea {u : Mem} {W : Wt} (h : TR 1 u W) : u 1 9 = W 81 := TR_tea h
theorem ru_tl {u : Mem} {W : Wt} (h : TR 1 u W) : u 1 11 = W 85 := TR_tl h
theorem ru_wl {u : Mem} {W : Wt} (h : TR 1 u W) : u 1 12 = W 86 := TR_wl h
theorem ru_hi {u : Mem} {W : Wt} (h : TR 1 u W) : u 1 10 = sHills W := TR_hi h
theorem ru_ol {u : Mem} {W : Wt} (h : TR 1 u W) : u 15 3 = W 87 := TR_ol h
theorem ru_sl {u : Mem} {W : Wt} (h : TR 1 u W) : u 19 3 = W 88 := TR_sl h

