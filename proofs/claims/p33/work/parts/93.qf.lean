/-! steps of the grammar -/
theorem pz_f {K V : Nat → Nat} {i : Nat} {o : pxT} (s : Nat) (h : K i = s + 263) (h1 : 1 ≤ s ∧ s ≤ 9) : pxUnit K V i o = .inr (i + 1, o ++ [(s, V i)]) := by
  unfold pxUnit
  rw [h, if_pos (by omega), Nat.add_sub_cancel]
theorem pz_n {K V : Nat → Nat} {i : Nat} {o : pxT} (h : K i = 1) : pxUnit K V i o = .inr (i + 1, o ++ [(0, V i)]) := by
  unfold pxUnit
  rw [if_neg (by omega), if_pos h]
theorem pz_me {K V : Nat → Nat} {i : Nat} {o : pxT} (c : Nat) (h : K i = c) (h1 : c ≠ 42 ∧ c ≠ 47) : ∀ l, pxMul K V l i o = .inr (i, o)
  | 0 => rfl
  | l + 1 => by
    unfold pxMul
    rw [if_neg (by omega), if_neg (by omega)]
theorem pz_md {K V : Nat → Nat} {i : Nat} {o : pxT} {r : pxR} (l : Nat) (h : K i = 47) (h1 : K (i + 1) = 1) (h2 : V (i + 1) ≠ 0) (hr : pxMul K V l (i + 2) (o ++ [(26, V (i + 1))]) = r) : pxMul K V (l + 1) i o = r := by
  unfold pxMul
  rw [if_neg (by omega), if_pos h, if_pos h1, if_neg h2, hr]
theorem pz_mt {K V : Nat → Nat} {i j : Nat} {o o1 : pxT} {r : pxR} (l : Nat) (h : K i = 42) (h1 : pxUnit K V (i + 1) o = .inr (j, o1)) (hr : pxMul K V l j (o1 ++ [(25, 0)]) = r) : pxMul K V (l + 1) i o = r := by
  unfold pxMul
  rw [if_pos h, h1]
  exact hr
theorem pz_pr {K V : Nat → Nat} {i j : Nat} {o o1 : pxT} {r : pxR} (h1 : pxUnit K V i o = .inr (j, o1)) (hr : pxMul K V 401 j o1 = r) : pxProd K V i o = r := by
  unfold pxProd
  rw [h1]
  exact hr
theorem pz_ae {K V : Nat → Nat} {i : Nat} {o : pxT} (c : Nat) (h : K i = c) (h1 : c ≠ 43 ∧ c ≠ 45) : ∀ l, pxAdd K V l i o = .inr (i, o)
  | 0 => rfl
  | l + 1 => by
    unfold pxAdd
    rw [if_neg (by omega), if_neg (by omega)]
theorem pz_ap {K V : Nat → Nat} {i j : Nat} {o o1 : pxT} {r : pxR} (l : Nat) (h : K i = 43) (h1 : pxProd K V (i + 1) o = .inr (j, o1)) (hr : pxAdd K V l j (o1 ++ [(23, 0)]) = r) : pxAdd K V (l + 1) i o = r := by
  unfold pxAdd
  rw [if_pos h, h1]
  exact hr
theorem pz_am {K V : Nat → Nat} {i j : Nat} {o o1 : pxT} {r : pxR} (l : Nat) (h : K i = 45) (h1 : pxProd K V (i + 1) o = .inr (j, o1)) (hr : pxAdd K V l j (o1 ++ [(24, 0)]) = r) : pxAdd K V (l + 1) i o = r := by
  unfold pxAdd
  rw [if_neg (by omega), if_pos h, h1]
  exact hr
theorem pz_su {K V : Nat → Nat} {i j : Nat} {o o1 : pxT} {r : pxR} (h1 : pxProd K V i o = .inr (j, o1)) (hr : pxAdd K V 401 j o1 = r) : pxSum K V i o = r := by
  unfold pxSum
  rw [h1]
  exact hr
theorem pz_c0 {K V : Nat → Nat} {i j j2 : Nat} {o o1 o2 : pxT} (h1 : pxSum K V i o = .inr (j, o1)) (h : K j = 60) (h2 : pxSum K V (j + 1) o1 = .inr (j2, o2)) : pxCmp K V i o = .inr (j2, o2 ++ [(27, 0)]) := by
  unfold pxCmp
  rw [h1]
  show (if K j = 60 then pxFin 27 (pxSum K V (j + 1) o1) else _) = _
  rw [if_pos h, h2]
  rfl
theorem pz_c1 {K V : Nat → Nat} {i j j2 : Nat} {o o1 o2 : pxT} (h1 : pxSum K V i o = .inr (j, o1)) (h : K j = 61) (h2 : pxSum K V (j + 1) o1 = .inr (j2, o2)) : pxCmp K V i o = .inr (j2, o2 ++ [(28, 0)]) := by
  unfold pxCmp
  rw [h1]
  show (if K j = 60 then _ else if K j = 61 then pxFin 28 (pxSum K V (j + 1) o1) else _) = _
  rw [if_neg (by omega), if_pos h, h2]
  rfl
theorem pz_c2 {K V : Nat → Nat} {i j j2 : Nat} {o o1 o2 : pxT} (h1 : pxSum K V i o = .inr (j, o1)) (h : K j = 62) (h2 : pxSum K V (j + 1) o1 = .inr (j2, o2)) : pxCmp K V i o = .inr (j2, o2 ++ [(29, 0)]) := by
  unfold pxCmp
  rw [h1]
  show (if K j = 60 then _ else if K j = 61 then _ else if K j = 62 then pxFin 29 (pxSum K V (j + 1) o1) else _) = _
  rw [if_neg (by omega), if_neg (by omega), if_pos h, h2]
  rfl
theorem pz_oc {K V : Nat → Nat} {i : Nat} {o : pxT} {r : pxR} (c : Nat) (h : K i = c) (h1 : c ≠ 263 ∧ c ≠ 40) (hr : pxCmp K V i o = r) : ∀ f, pxOne K V f i o = r
  | 0 => by
    unfold pxOne
    rw [if_neg (by omega)]
    exact hr
  | f + 1 => by
    unfold pxOne
    rw [if_neg (by omega), if_neg (by omega)]
    exact hr
theorem pz_on {K V : Nat → Nat} {i j : Nat} {o o1 : pxT} (f : Nat) (h : K i = 263) (h1 : pxOne K V f (i + 1) o = .inr (j, o1)) : pxOne K V (f + 1) i o = .inr (j, o1 ++ [(30, 0)]) := by
  unfold pxOne
  rw [if_pos h, h1]
  rfl
theorem pz_op {K V : Nat → Nat} {i j : Nat} {o o1 : pxT} (f : Nat) (h : K i = 40) (h1 : pxAny K (fun i o => pxOne K V f i o) (i + 1) o = .inr (j, o1)) (h2 : K j = 41) : pxOne K V (f + 1) i o = .inr (j + 1, o1) := by
  unfold pxOne
  rw [if_neg (by omega), if_pos h, h1]
  show (if K j = 41 then _ else _) = _
  rw [if_pos h2]
theorem pz_ee {K : Nat → Nat} {one : Nat → pxT → pxR} {i : Nat} {o : pxT} (c : Nat) (h : K i = c) (h1 : c ≠ 262) : ∀ l, pxEvL K one l i o = .inr (i, o)
  | 0 => rfl
  | l + 1 => by
    unfold pxEvL
    rw [if_neg (by omega)]
theorem pz_ea {K : Nat → Nat} {one : Nat → pxT → pxR} {i j : Nat} {o o1 : pxT} {r : pxR} (l : Nat) (h : K i = 262) (h1 : one (i + 1) o = .inr (j, o1)) (hr : pxEvL K one l j (o1 ++ [(31, 0)]) = r) : pxEvL K one (l + 1) i o = r := by
  unfold pxEvL
  rw [if_pos h, h1]
  exact hr
theorem pz_ev {K : Nat → Nat} {one : Nat → pxT → pxR} {i j : Nat} {o o1 : pxT} {r : pxR} (h1 : one i o = .inr (j, o1)) (hr : pxEvL K one 401 j o1 = r) : pxEv K one i o = r := by
  unfold pxEv
  rw [h1]
  exact hr
theorem pz_ne {K : Nat → Nat} {one : Nat → pxT → pxR} {i : Nat} {o : pxT} (c : Nat) (h : K i = c) (h1 : c ≠ 261) : ∀ l, pxAnL K one l i o = .inr (i, o)
  | 0 => rfl
  | l + 1 => by
    unfold pxAnL
    rw [if_neg (by omega)]
theorem pz_no {K : Nat → Nat} {one : Nat → pxT → pxR} {i j : Nat} {o o1 : pxT} {r : pxR} (l : Nat) (h : K i = 261) (h1 : pxEv K one (i + 1) o = .inr (j, o1)) (hr : pxAnL K one l j (o1 ++ [(32, 0)]) = r) : pxAnL K one (l + 1) i o = r := by
  unfold pxAnL
  rw [if_pos h, h1]
  exact hr
theorem pz_an {K : Nat → Nat} {one : Nat → pxT → pxR} {i j : Nat} {o o1 : pxT} {r : pxR} (h1 : pxEv K one i o = .inr (j, o1)) (hr : pxAnL K one 401 j o1 = r) : pxAny K one i o = r := by
  unfold pxAny
  rw [h1]
  exact hr
theorem pz_lv {K V : Nat → Nat} {L i j : Nat} {o o1 : pxT} (h : 256 ≤ K i ∧ K i ≤ 259) (hL : L ≠ 16) (h1 : pxSum K V (i + 1) o = .inr (j, o1)) (h2 : K j = 59) : pxLine K V L i o = .inr (j + 1, o1, o1) := by
  unfold pxLine
  rw [if_pos h, if_neg hL, h1]
  show pxWhen K V j o1 = _
  unfold pxWhen pxEnd
  rw [if_neg (by omega), if_pos h2]
theorem pz_lw {K V : Nat → Nat} {L i j j2 : Nat} {o o1 o2 : pxT} (h : 256 ≤ K i ∧ K i ≤ 259) (hL : L ≠ 16) (h1 : pxSum K V (i + 1) o = .inr (j, o1)) (h2 : K j = 260) (h3 : pxAny K (fun i o => pxOne K V 8 i o) (j + 1) o1 = .inr (j2, o2)) (h4 : K j2 = 59) : pxLine K V L i o = .inr (j2 + 1, o1, o2) := by
  unfold pxLine
  rw [if_pos h, if_neg hL, h1]
  show pxWhen K V j o1 = _
  unfold pxWhen
  rw [if_pos h2, h3]
  show pxEnd K j2 o1 o2 = _
  unfold pxEnd
  rw [if_pos h4]
/-! the six lines, read -/
def q0A (V : Nat → Nat) : pxT := [(2, V 1), (0, V 3), (24, 0), (3, V 5), (23, 0)]
def q0B (V : Nat → Nat) : pxT := [(2, V 7), (0, V 9), (29, 0), (5, V 13), (0, V 15), (29, 0), (1, V 17), (0, V 19), (28, 0), (8, V 21), (0, V 23), (29, 0), (31, 0), (32, 0), (30, 0), (31, 0)]
def q1A (V : Nat → Nat) : pxT := [(2, V 27), (26, V 29), (0, V 31), (24, 0)]
def q2A (V : Nat → Nat) : pxT := [(3, V 34), (26, V 36)]
def q2B (V : Nat → Nat) : pxT := [(9, V 38), (0, V 40), (28, 0), (8, V 42), (0, V 44), (29, 0), (32, 0)]
def q3A (V : Nat → Nat) : pxT := [(3, V 47), (0, V 49), (23, 0), (0, V 51), (24, 0)]
def q4A (V : Nat → Nat) : pxT := [(0, V 54)]
def q4B (V : Nat → Nat) : pxT := [(4, V 56), (0, V 58), (27, 0), (7, V 60), (7, V 62), (26, V 64), (0, V 66), (25, 0), (24, 0), (0, V 68), (28, 0), (31, 0)]
def q5A (V : Nat → Nat) : pxT := [(0, V 71), (6, V 73), (0, V 75), (25, 0), (23, 0)]
def ap1 (o : pxT) : List (Nat × Nat) → pxT
  | [] => o
  | a :: l => ap1 (o ++ [a]) l
theorem ap1_e : ∀ (l o : pxT), ap1 o l = o ++ l
  | [], o => (List.append_nil o).symm
  | a :: l, o => by
    show ap1 (o ++ [a]) l = _
    rw [ap1_e l (o ++ [a]), List.append_assoc]
    rfl
theorem pl_0 (V : Nat → Nat) (o : pxT) : pxLine kLw V 0 0 o = .inr (26, ap1 o (q0A V), ap1 (ap1 o (q0A V)) (q0B V)) :=
  pz_lw (by decide) (by decide) (pz_su (pz_pr (pz_f (K := kLw) (V := V) (i := 1) 2 rfl (by decide)) (pz_me (K := kLw) (V := V) (i := 2) 45 rfl (by decide) _)) (pz_am 400 rfl (pz_pr (pz_n (K := kLw) (V := V) (i := 3) rfl) (pz_me (K := kLw) (V := V) (i := 4) 43 rfl (by decide) _)) (pz_ap 399 rfl (pz_pr (pz_f (K := kLw) (V := V) (i := 5) 3 rfl (by decide)) (pz_me (K := kLw) (V := V) (i := 6) 260 rfl (by decide) _)) (pz_ae (K := kLw) (V := V) (i := 6) 260 rfl (by decide) _)))) rfl (pz_an (pz_ev (pz_oc (K := kLw) (V := V) (i := 7) 265 rfl (by decide) (pz_c2 (pz_su (pz_pr (pz_f (K := kLw) (V := V) (i := 7) 2 rfl (by decide)) (pz_me (K := kLw) (V := V) (i := 8) 62 rfl (by decide) _)) (pz_ae (K := kLw) (V := V) (i := 8) 62 rfl (by decide) _)) rfl (pz_su (pz_pr (pz_n (K := kLw) (V := V) (i := 9) rfl) (pz_me (K := kLw) (V := V) (i := 10) 262 rfl (by decide) _)) (pz_ae (K := kLw) (V := V) (i := 10) 262 rfl (by decide) _))) _) (pz_ea 400 rfl (pz_on 7 rfl (pz_op 6 rfl (pz_an (pz_ev (pz_oc (K := kLw) (V := V) (i := 13) 268 rfl (by decide) (pz_c2 (pz_su (pz_pr (pz_f (K := kLw) (V := V) (i := 13) 5 rfl (by decide)) (pz_me (K := kLw) (V := V) (i := 14) 62 rfl (by decide) _)) (pz_ae (K := kLw) (V := V) (i := 14) 62 rfl (by decide) _)) rfl (pz_su (pz_pr (pz_n (K := kLw) (V := V) (i := 15) rfl) (pz_me (K := kLw) (V := V) (i := 16) 261 rfl (by decide) _)) (pz_ae (K := kLw) (V := V) (i := 16) 261 rfl (by decide) _))) _) (pz_ee (K := kLw) (i := 16) 261 rfl (by decide) _)) (pz_no 400 rfl (pz_ev (pz_oc (K := kLw) (V := V) (i := 17) 264 rfl (by decide) (pz_c1 (pz_su (pz_pr (pz_f (K := kLw) (V := V) (i := 17) 1 rfl (by decide)) (pz_me (K := kLw) (V := V) (i := 18) 61 rfl (by decide) _)) (pz_ae (K := kLw) (V := V) (i := 18) 61 rfl (by decide) _)) rfl (pz_su (pz_pr (pz_n (K := kLw) (V := V) (i := 19) rfl) (pz_me (K := kLw) (V := V) (i := 20) 262 rfl (by decide) _)) (pz_ae (K := kLw) (V := V) (i := 20) 262 rfl (by decide) _))) _) (pz_ea 400 rfl (pz_oc (K := kLw) (V := V) (i := 21) 271 rfl (by decide) (pz_c2 (pz_su (pz_pr (pz_f (K := kLw) (V := V) (i := 21) 8 rfl (by decide)) (pz_me (K := kLw) (V := V) (i := 22) 62 rfl (by decide) _)) (pz_ae (K := kLw) (V := V) (i := 22) 62 rfl (by decide) _)) rfl (pz_su (pz_pr (pz_n (K := kLw) (V := V) (i := 23) rfl) (pz_me (K := kLw) (V := V) (i := 24) 41 rfl (by decide) _)) (pz_ae (K := kLw) (V := V) (i := 24) 41 rfl (by decide) _))) _) (pz_ee (K := kLw) (i := 24) 41 rfl (by decide) _))) (pz_ne (K := kLw) (i := 24) 41 rfl (by decide) _))) rfl)) (pz_ee (K := kLw) (i := 25) 59 rfl (by decide) _))) (pz_ne (K := kLw) (i := 25) 59 rfl (by decide) _)) rfl
theorem pl_1 (V : Nat → Nat) (h29 : V 29 ≠ 0) (o : pxT) : pxLine kLw V 1 26 o = .inr (33, ap1 o (q1A V), ap1 o (q1A V)) :=
  pz_lv (by decide) (by decide) (pz_su (pz_pr (pz_f (K := kLw) (V := V) (i := 27) 2 rfl (by decide)) (pz_md 400 rfl rfl h29 (pz_me (K := kLw) (V := V) (i := 30) 45 rfl (by decide) _))) (pz_am 400 rfl (pz_pr (pz_n (K := kLw) (V := V) (i := 31) rfl) (pz_me (K := kLw) (V := V) (i := 32) 59 rfl (by decide) _)) (pz_ae (K := kLw) (V := V) (i := 32) 59 rfl (by decide) _))) rfl
theorem pl_2 (V : Nat → Nat) (h36 : V 36 ≠ 0) (o : pxT) : pxLine kLw V 2 33 o = .inr (46, ap1 o (q2A V), ap1 (ap1 o (q2A V)) (q2B V)) :=
  pz_lw (by decide) (by decide) (pz_su (pz_pr (pz_f (K := kLw) (V := V) (i := 34) 3 rfl (by decide)) (pz_md 400 rfl rfl h36 (pz_me (K := kLw) (V := V) (i := 37) 260 rfl (by decide) _))) (pz_ae (K := kLw) (V := V) (i := 37) 260 rfl (by decide) _)) rfl (pz_an (pz_ev (pz_oc (K := kLw) (V := V) (i := 38) 272 rfl (by decide) (pz_c1 (pz_su (pz_pr (pz_f (K := kLw) (V := V) (i := 38) 9 rfl (by decide)) (pz_me (K := kLw) (V := V) (i := 39) 61 rfl (by decide) _)) (pz_ae (K := kLw) (V := V) (i := 39) 61 rfl (by decide) _)) rfl (pz_su (pz_pr (pz_n (K := kLw) (V := V) (i := 40) rfl) (pz_me (K := kLw) (V := V) (i := 41) 261 rfl (by decide) _)) (pz_ae (K := kLw) (V := V) (i := 41) 261 rfl (by decide) _))) _) (pz_ee (K := kLw) (i := 41) 261 rfl (by decide) _)) (pz_no 400 rfl (pz_ev (pz_oc (K := kLw) (V := V) (i := 42) 271 rfl (by decide) (pz_c2 (pz_su (pz_pr (pz_f (K := kLw) (V := V) (i := 42) 8 rfl (by decide)) (pz_me (K := kLw) (V := V) (i := 43) 62 rfl (by decide) _)) (pz_ae (K := kLw) (V := V) (i := 43) 62 rfl (by decide) _)) rfl (pz_su (pz_pr (pz_n (K := kLw) (V := V) (i := 44) rfl) (pz_me (K := kLw) (V := V) (i := 45) 59 rfl (by decide) _)) (pz_ae (K := kLw) (V := V) (i := 45) 59 rfl (by decide) _))) _) (pz_ee (K := kLw) (i := 45) 59 rfl (by decide) _)) (pz_ne (K := kLw) (i := 45) 59 rfl (by decide) _))) rfl
theorem pl_3 (V : Nat → Nat) (o : pxT) : pxLine kLw V 3 46 o = .inr (53, ap1 o (q3A V), ap1 o (q3A V)) :=
  pz_lv (by decide) (by decide) (pz_su (pz_pr (pz_f (K := kLw) (V := V) (i := 47) 3 rfl (by decide)) (pz_me (K := kLw) (V := V) (i := 48) 43 rfl (by decide) _)) (pz_ap 400 rfl (pz_pr (pz_n (K := kLw) (V := V) (i := 49) rfl) (pz_me (K := kLw) (V := V) (i := 50) 45 rfl (by decide) _)) (pz_am 399 rfl (pz_pr (pz_n (K := kLw) (V := V) (i := 51) rfl) (pz_me (K := kLw) (V := V) (i := 52) 59 rfl (by decide) _)) (pz_ae (K := kLw) (V := V) (i := 52) 59 rfl (by decide) _)))) rfl
theorem pl_4 (V : Nat → Nat) (h64 : V 64 ≠ 0) (o : pxT) : pxLine kLw V 4 53 o = .inr (70, ap1 o (q4A V), ap1 (ap1 o (q4A V)) (q4B V)) :=
  pz_lw (by decide) (by decide) (pz_su (pz_pr (pz_n (K := kLw) (V := V) (i := 54) rfl) (pz_me (K := kLw) (V := V) (i := 55) 260 rfl (by decide) _)) (pz_ae (K := kLw) (V := V) (i := 55) 260 rfl (by decide) _)) rfl (pz_an (pz_ev (pz_oc (K := kLw) (V := V) (i := 56) 267 rfl (by decide) (pz_c0 (pz_su (pz_pr (pz_f (K := kLw) (V := V) (i := 56) 4 rfl (by decide)) (pz_me (K := kLw) (V := V) (i := 57) 60 rfl (by decide) _)) (pz_ae (K := kLw) (V := V) (i := 57) 60 rfl (by decide) _)) rfl (pz_su (pz_pr (pz_n (K := kLw) (V := V) (i := 58) rfl) (pz_me (K := kLw) (V := V) (i := 59) 262 rfl (by decide) _)) (pz_ae (K := kLw) (V := V) (i := 59) 262 rfl (by decide) _))) _) (pz_ea 400 rfl (pz_oc (K := kLw) (V := V) (i := 60) 270 rfl (by decide) (pz_c1 (pz_su (pz_pr (pz_f (K := kLw) (V := V) (i := 60) 7 rfl (by decide)) (pz_me (K := kLw) (V := V) (i := 61) 45 rfl (by decide) _)) (pz_am 400 rfl (pz_pr (pz_f (K := kLw) (V := V) (i := 62) 7 rfl (by decide)) (pz_md 400 rfl rfl h64 (pz_mt 399 rfl (pz_n (K := kLw) (V := V) (i := 66) rfl) (pz_me (K := kLw) (V := V) (i := 67) 61 rfl (by decide) _)))) (pz_ae (K := kLw) (V := V) (i := 67) 61 rfl (by decide) _))) rfl (pz_su (pz_pr (pz_n (K := kLw) (V := V) (i := 68) rfl) (pz_me (K := kLw) (V := V) (i := 69) 59 rfl (by decide) _)) (pz_ae (K := kLw) (V := V) (i := 69) 59 rfl (by decide) _))) _) (pz_ee (K := kLw) (i := 69) 59 rfl (by decide) _))) (pz_ne (K := kLw) (i := 69) 59 rfl (by decide) _)) rfl
theorem pl_5 (V : Nat → Nat) (o : pxT) : pxLine kLw V 5 70 o = .inr (77, ap1 o (q5A V), ap1 o (q5A V)) :=
  pz_lv (by decide) (by decide) (pz_su (pz_pr (pz_n (K := kLw) (V := V) (i := 71) rfl) (pz_me (K := kLw) (V := V) (i := 72) 43 rfl (by decide) _)) (pz_ap 400 rfl (pz_pr (pz_f (K := kLw) (V := V) (i := 73) 6 rfl (by decide)) (pz_mt 400 rfl (pz_n (K := kLw) (V := V) (i := 75) rfl) (pz_me (K := kLw) (V := V) (i := 76) 59 rfl (by decide) _))) (pz_ae (K := kLw) (V := V) (i := 76) 59 rfl (by decide) _))) rfl
/-- the whole program -/
def qO0 (V : Nat → Nat) : pxT := q0A V ++ q0B V
def qO1 (V : Nat → Nat) : pxT := qO0 V ++ q1A V
def qO2 (V : Nat → Nat) : pxT := qO1 V ++ (q2A V ++ q2B V)
def qO3 (V : Nat → Nat) : pxT := qO2 V ++ q3A V
def qO4 (V : Nat → Nat) : pxT := qO3 V ++ (q4A V ++ q4B V)
def qO5 (V : Nat → Nat) : pxT := qO4 V ++ q5A V
/-- where each line's value and condition begin and end, its word -/
def qT (y : Nat) : Nat := ([0, 5, 21, 20, 21, 25, 25, 20, 25, 27, 34, 21, 34, 39, 39, 21, 39, 40, 52, 22, 52, 57, 57, 23] : List Nat).getD y 0
theorem qp_0 (V : Nat → Nat) : pxLine kLw V 0 0 [] = .inr (26, q0A V, qO0 V) := by rw [pl_0, ap1_e, ap1_e]; rfl
theorem qp_1 (V : Nat → Nat) (h : V 29 ≠ 0) : pxLine kLw V 1 26 (qO0 V) = .inr (33, qO1 V, qO1 V) := by rw [pl_1 V h, ap1_e]; rfl
theorem qp_2 (V : Nat → Nat) (h : V 36 ≠ 0) : pxLine kLw V 2 33 (qO1 V) = .inr (46, qO1 V ++ q2A V, qO2 V) := by rw [pl_2 V h, ap1_e, ap1_e, List.append_assoc]; rfl
theorem qp_3 (V : Nat → Nat) : pxLine kLw V 3 46 (qO2 V) = .inr (53, qO3 V, qO3 V) := by rw [pl_3, ap1_e]; rfl
theorem qp_4 (V : Nat → Nat) (h : V 64 ≠ 0) : pxLine kLw V 4 53 (qO3 V) = .inr (70, qO3 V ++ q4A V, qO4 V) := by rw [pl_4 V h, ap1_e, ap1_e, List.append_assoc]; rfl
theorem qp_5 (V : Nat → Nat) : pxLine kLw V 5 70 (qO4 V) = .inr (77, qO5 V, qO5 V) := by rw [pl_5, ap1_e]; rfl
/-! the reference reads them -/
def Lz (b : Nat → Nat) (n : Nat) (v0 : Int32) (N : Nat) (g0 : Mem) (i : Nat) (o : pxT) (L : Nat) (w : Mem) : Prop := myT 0 b n v0 i w ∧ myC o w ∧ encL o ≤ i ∧ i ≤ N ∧ w 146 13 = nI L ∧ (∀ y, y < 4 * L → w 151 y = nI (qT y)) ∧ (∀ c, c ≠ 146 → c ≠ 151 → c ≠ 152 → w c = g0 c) ∧ w 146 4 = g0 146 4
theorem lz_step {b : Nat → Nat} {n : Nat} {v0 : Int32} {N : Nat} {g0 : Mem} (hY : myZ b n v0 N) {i j L : Nat} {o o1 o2 : pxT} {w : Mem} (h : Lz b n v0 N g0 i o L w) (hL : L < 16) (hp : pxLine (kk 0 b n) (vv b n v0) L i o = .inr (j, o1, o2)) (hk : kk 0 b n i ≠ 0) (t0 : qT (4 * L) = o.length) (t1 : qT (4 * L + 1) = o1.length) (t2 : qT (4 * L + 2) = o2.length) (t3 : qT (4 * L + 3) = 20 + (kk 0 b n i - 256)) : ∃ w', (∀ F, FX12_readsLaw_146_L12 (F + 1) 1 w = FX12_readsLaw_146_L12 F 1 w') ∧ Lz b n v0 N g0 j o2 (L + 1) w' := by
  obtain ⟨a1, a2, a3, a4, a5, a6, a7, a8⟩ := h
  have hm := m_line hY (by omega) a4 a1 a2 a3 a5
  rw [hp] at hm
  obtain ⟨x, w1, k1, k2, k3, k4, k5, k6, k7, k8, k9, k10, k11, k12⟩ := hm
  dsimp only at k4 k5 k6 k7 k8 k9 k10 k11
  have w13 : w1 146 13 = nI L := by rw [k2.2 13 (by decide)]; exact a5
  have hM' : myC o2 (mupd w1 146 13 (nI (L + 1))) := by
    unfold myC
    rw [m_eq, up_ne (by decide), m_ne (by decide)]; exact k5
  have hT' : myT 0 b n v0 j (mupd w1 146 13 (nI (L + 1))) := by
    unfold myT txS
    rw [m_eq, up_ne (by decide), up_ne (by decide), up_ne (by decide), up_ne (by decide), up_ne (by decide), up_ne (by decide), m_ne (by decide)]
    exact k4
  refine ⟨mupd w1 146 13 (nI (L + 1)), fun F => ?_, hT', hM', k7, k6, by rw [m_eq, up_eq], fun y hy => ?_, fun c c1 c2 c3 => by rw [m_ne c1, k2.1 c c1 c2 c3]; exact a7 c c1 c2 c3, by rw [m_eq, up_ne (by decide), k2.2 4 (by decide)]; exact a8⟩
  · show FX12_readsLaw_146_b12 _ _ _ = _
    unfold FX12_readsLaw_146_b12
    rw [if_neg z1, if_neg (show ¬ w 146 18 = 0 by rw [a1.2.2.2.1]; exact tN_0 (kk_v 0 b n i) hk), k1, b2_some, k3, if_neg z1]
    unfold FX12_readsLaw_146_b42
    rw [b_some, w13, nI_1]
  · rw [m_ne (by decide)]
    by_cases c : y < 4 * L
    · rw [k12 y (Or.inl c)]
      exact a6 y c
    · rcases (by omega : y = 4 * L ∨ y = 4 * L + 1 ∨ y = 4 * L + 2 ∨ y = 4 * L + 3) with rfl | rfl | rfl | rfl
      · rw [k8, t0]
      · rw [k9, t1]
      · rw [k10, t2]
      · rw [k11, t3]
theorem lz_end {b : Nat → Nat} {n : Nat} {v0 : Int32} {N : Nat} {g0 : Mem} {i L : Nat} {o : pxT} {w : Mem} (h : Lz b n v0 N g0 i o L w) (hk : kk 0 b n i = 0) (F : Nat) : FX12_readsLaw_146_L12 (F + 1) 1 w = some (1, w) := by
  show FX12_readsLaw_146_b12 _ _ _ = _
  unfold FX12_readsLaw_146_b12 FX12_readsLaw_146_b49
  rw [if_neg z1, if_pos (show w 146 18 = 0 by rw [h.1.2.2.2.1]; exact tY_0 hk), bchk_1, b_some]
/-- the law's text, whole -/
theorem ge_text0 {g : Mem} {W : Wt} {d : Nat → Nat} {bs : List Nat} (hD : ∀ k, d k < 1000) (e : bs = tkX (VF d) KZ 0) (h : GT g W [] (chF bs) bs.length) : ∃ g' W' V, FX12_text_146 0 g = some (6, g') ∧ GS g' W' [] ∧ l9 W W' ∧ W' 84 = nI 6 ∧ (∀ l, l < 6 → W' (900 + l) = nI (qT (4 * l)) ∧ W' (916 + l) = nI (qT (4 * l + 1)) ∧ W' (932 + l) = nI (qT (4 * l + 2)) ∧ W' (948 + l) = nI (qT (4 * l + 3))) ∧ opsW W' 0 57 = qO5 V ∧ ∀ i, kLw i = 1 → V i = VF d i := by
  obtain ⟨h1, ⟨h2, h3, h4⟩, h5, h6, h7⟩ := h
  obtain ⟨w1, e1, ⟨b1, b2, b3, b4, b5⟩⟩ := m_begin (k := 0) (by decide) (b := chF bs) (n := bs.length) (w := g) ⟨h6, h7⟩ h5
  rw [if_pos (show nI 0 = 0 by decide)] at e1
  obtain ⟨eK, eV, eN, eL, eA⟩ := kk_law hD e (g 146 20)
  have hY := kk_Y (v0 := g 146 20) h6 eA eN eL
  have z0 : Lz (chF bs) bs.length (g 146 20) 77 g 0 [] 0 (mupd (mupd w1 146 13 0) 146 14 0) := by
    refine ⟨?_, ⟨by rw [m_eq, up_eq]; exact nI_0.symm, rfl, fun j hj => by cases hj⟩, Nat.le_refl _, by omega, by rw [m_eq, up_ne (by decide), m_eq, up_eq]; exact nI_0.symm, fun y hy => by omega, fun c c1 _ _ => by rw [m_ne c1, m_ne c1]; exact b4 c c1, by rw [m_eq, up_ne (by decide), m_eq, up_ne (by decide), b5 4 (by omega)]⟩
    unfold myT txS
    rw [m_eq, up_ne (by decide), up_ne (by decide), up_ne (by decide), up_ne (by decide), up_ne (by decide), up_ne (by decide), m_eq, up_ne (by decide), up_ne (by decide), up_ne (by decide), up_ne (by decide), up_ne (by decide), up_ne (by decide), m_ne (by decide), m_ne (by decide)]
    exact b1
  obtain ⟨V, hV⟩ : ∃ V, V = vv (chF bs) bs.length (g 146 20) := ⟨_, rfl⟩
  rw [← hV] at eV
  obtain ⟨x1, r1, z1'⟩ := lz_step (j := 26) (o1 := q0A V) (o2 := qO0 V) hY z0 (by decide) (by rw [eK, ← hV]; exact qp_0 V) (by rw [eK]; decide) rfl rfl rfl (by rw [eK]; rfl)
  obtain ⟨x2, r2, z2⟩ := lz_step (j := 33) (o1 := qO1 V) (o2 := qO1 V) hY z1' (by decide) (by rw [eK, ← hV]; exact qp_1 V (by rw [eV 29 rfl]; exact (by decide : (9 : Nat) ≠ 0))) (by rw [eK]; decide) rfl rfl rfl (by rw [eK]; rfl)
  obtain ⟨x3, r3, z3⟩ := lz_step (j := 46) (o1 := qO1 V ++ q2A V) (o2 := qO2 V) hY z2 (by decide) (by rw [eK, ← hV]; exact qp_2 V (by rw [eV 36 rfl]; exact (by decide : (2 : Nat) ≠ 0))) (by rw [eK]; decide) rfl rfl rfl (by rw [eK]; rfl)
  obtain ⟨x4, r4, z4⟩ := lz_step (j := 53) (o1 := qO3 V) (o2 := qO3 V) hY z3 (by decide) (by rw [eK, ← hV]; exact qp_3 V) (by rw [eK]; decide) rfl rfl rfl (by rw [eK]; rfl)
  obtain ⟨x5, r5, z5⟩ := lz_step (j := 70) (o1 := qO3 V ++ q4A V) (o2 := qO4 V) hY z4 (by decide) (by rw [eK, ← hV]; exact qp_4 V (by rw [eV 64 rfl]; exact (by decide : (2 : Nat) ≠ 0))) (by rw [eK]; decide) rfl rfl rfl (by rw [eK]; rfl)
  obtain ⟨x6, r6, z6⟩ := lz_step (j := 77) (o1 := qO5 V) (o2 := qO5 V) hY z5 (by decide) (by rw [eK, ← hV]; exact qp_5 V) (by rw [eK]; decide) rfl rfl rfl (by rw [eK]; rfl)
  have er : FX12_readsLaw_146 w1 = some (1, x6) := by
    unfold FX12_readsLaw_146
    rw [b_some, b_some]
    show FX12_readsLaw_146_L12 (9993 + 1 + 1 + 1 + 1 + 1 + 1 + 1) 1 _ = _
    rw [r1, r2, r3, r4, r5, r6]
    exact lz_end z6 (by rw [eK]; rfl) 9993
  obtain ⟨c1, c2, c3, c4, c5, c6, c7, c8⟩ := z6
  have hs14 : (mupd x6 146 16 0) 146 14 = nI 57 := by rw [m_eq, up_ne (by decide)]; exact c2.1
  obtain ⟨w6, s1, s2, s3, s4, s5, s6⟩ := m_putsLaw (w := mupd x6 146 16 0) (L := 6) (s := 57) (by decide) (by decide) (by rw [m_eq, up_ne (by decide)]; exact c5) hs14
  rw [m_ne (show 147 ≠ 146 by decide), c7 147 (by decide) (by decide) (by decide), h1] at s3
  rw [m_ne (show 151 ≠ 146 by decide)] at s5
  rw [m_ne (show 152 ≠ 146 by decide)] at s6
  refine ⟨w6, w6 147, V, ?_, ⟨rfl, ⟨by decide, by rw [s2 146 (by decide), m_eq, up_ne (by omega), c8]; exact h3, fun j R hj => by cases hj⟩, by rw [s2 146 (by decide), m_eq, up_eq]⟩, s3, s4, fun l hl => ?_, ?_, eV⟩
  · have e1' : FX12_text_146 0 g = _ := e1
    rw [e1', er, b2_some]
    unfold FX12_text_146_b60 FX12_putsText_146
    rw [b_some, if_neg z1, show nI 0 = 0 by decide, if_pos rfl, s1, b2_some, b2_some]
    rfl
  · obtain ⟨q1, q2, q3, q4⟩ := s5 l hl
    rw [q1, q2, q3, q4, c6 _ (by omega), c6 _ (by omega), c6 _ (by omega), c6 _ (by omega)]
    exact ⟨rfl, rfl, rfl, rfl⟩
  · have ag : ∀ x, 966 ≤ x → x < 966 + 2 * (0 + 57) → (w6 147) x = myS (x6 152) x := fun x hx1 hx2 => by
      obtain ⟨y, rfl⟩ : ∃ y, x = 966 + y := ⟨x - 966, by omega⟩
      unfold myS
      rw [if_neg (by omega), s6 y (by omega), Nat.add_sub_cancel_left]
    rw [opsW_ge _ _ ag]
    exact c2.2.1
