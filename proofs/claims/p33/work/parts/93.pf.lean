/-! a War that stands for a row; from one to the next, all else kept -/
theorem ne_sh {w : Wd} {c c' : Nat} {s s' : Shp} (h : w.1[c]? = some s) (h' : w.1[c']? = some s') (d : s ≠ s') : c ≠ c' := by
  rintro rfl
  rw [h] at h'
  exact d (Option.some.inj h')
theorem Lq_W {d : Option (Nat → Int32)} {W W' : Wt} (s : same78 W W') (h : Lq d W) : Lq d W' := by
  intro V e hV wd m hwd hm
  refine h V (fun k hk => ?_) hV wd m hwd hm
  rw [e k hk]
  exact s k (by omega) (by omega)
def wr (w : Wd) (q : Nat) (P : Wt) : Wd := (w.1, w.2.1, mset w.2.2 q P)
theorem wr_self (w : Wd) (q : Nat) : wr w q (w.2.2 q) = w := by
  unfold wr
  have e : mset w.2.2 q (w.2.2 q) = w.2.2 := by
    funext c
    unfold mset
    split
    · rename_i h; rw [h]
    · rfl
  rw [e]
theorem b_row {β : Type} {k : Unit → Dm β} {w : Wd} {q n : Nat} {P : Wt} (hs : w.1[q]? = some (.inl n)) (j : Nat) (i x : Int32) (ei : i = nI j) (hj : j < n) (hn : n < 2147483648) : (dbind (dput (iast q i x)) k).1 (wr w q P) = (k ()).1 (wr w q (upd P j x)) := by
  subst ei
  refine b_pt ?_
  unfold iast
  have hs' : (wr w q P).1[q]? = some (.inl n) := hs
  rw [hs']
  show (wrA (mset w.2.2 q P) q n (nI j) x).map _ = _
  rw [w_ok hj hn, mu_ms]
  rfl
theorem b_row0 {β : Type} {k : Unit → Dm β} {w : Wd} {q n : Nat} (hs : w.1[q]? = some (.inl n)) (j : Nat) (i x : Int32) (ei : i = nI j) (hj : j < n) (hn : n < 2147483648) : (dbind (dput (iast q i x)) k).1 w = (k ()).1 (wr w q (upd (w.2.2 q) j x)) := by
  have q1 := b_row (k := k) (P := w.2.2 q) hs j i x ei hj hn
  rw [wr_self] at q1
  exact q1
theorem b_fld {β : Type} {k : Unit → Dm β} {w : Wd} {a ci : Nat} {P : Wt} (hs : w.1[a]? = some (.inr (.inl ci))) (j : Nat) (x : Int32) : (dbind (dput (pfI a ci j x)) k).1 (wr w a P) = (k ()).1 (wr w a (upd P j x)) := by
  refine b_pt ?_
  unfold pfI
  have hs' : (wr w a P).1[a]? = some (.inr (.inl ci)) := hs
  rw [if_pos hs']
  show some (w.2.1, mupd (mset w.2.2 a P) a j x) = _
  rw [mu_ms]
theorem b_fld0 {β : Type} {k : Unit → Dm β} {w : Wd} {a ci : Nat} (hs : w.1[a]? = some (.inr (.inl ci))) (j : Nat) (x : Int32) : (dbind (dput (pfI a ci j x)) k).1 w = (k ()).1 (wr w a (upd (w.2.2 a) j x)) := by
  have q1 := b_fld (k := k) (P := w.2.2 a) hs j x
  rw [wr_self] at q1
  exact q1
def MW (a : Nat) (L : Lay) (n c : Nat) : Prop := c = a ∨ c = L.1 13 ∨ c = L.1 17 ∨ ∃ m, m < n ∧ c = L.2.1 m
theorem MW_RS {a : Nat} {L : Lay} {W : Wt} {c : Nat} (h : MW a L (nmen W) c) : RS a L W c := by
  rcases h with rfl | rfl | rfl | ⟨m, hm, rfl⟩
  · exact RS_a
  · exact RS_j (by decide) (by decide)
  · exact RS_j (by decide) (by decide)
  · exact RS_m hm
def Wv (w : Wd) (a : Nat) (L : Lay) (W : Wt) : Prop := WA w a L W ∧ OKs w ∧ WO W ∧ WAb a L W
def Go (w : Wd) (a : Nat) (L : Lay) (W : Wt) (w' : Wd) (L' : Lay) (W' : Wt) : Prop := Wv w' a L' W' ∧ Kp (MW a L (nmen W)) w w' ∧ (L'.1 = L.1 ∧ L'.2.1 = L.2.1 ∧ L'.2.2.2 = L.2.2.2) ∧ (∀ i, i < nt (W' 3) → (i < nt (W 3) ∧ L'.2.2.1 i = L.2.2.1 i) ∨ w.1.length ≤ L'.2.2.1 i) ∧ (nmen W' = nmen W ∧ W' 87 = W 87)
theorem Go_rf {w : Wd} {a : Nat} {L : Lay} {W : Wt} (h : Wv w a L W) : Go w a L W w L W := ⟨h, Kp_rf _ _, ⟨rfl, rfl, rfl⟩, fun i hi => Or.inl ⟨hi, rfl⟩, rfl, rfl⟩
theorem Go_tr {w w1 w2 : Wd} {a : Nat} {L L1 L2 : Lay} {W W1 W2 : Wt} (h : Go w a L W w1 L1 W1) (k : Go w1 a L1 W1 w2 L2 W2) : Go w a L W w2 L2 W2 := by
  obtain ⟨h1, h2, ⟨h3, h4, h5⟩, h6, h7, h8⟩ := h
  obtain ⟨k1, k2, ⟨k3, k4, k5⟩, k6, k7, k8⟩ := k
  have hl := Kp_len h2
  refine ⟨k1, Kp_tr h2 k2 (fun c _ hc => ?_), ⟨k3.trans h3, k4.trans h4, k5.trans h5⟩, fun i hi => ?_, k7.trans h7, k8.trans h8⟩
  · unfold MW at hc ⊢
    rw [h3, h4, h7] at hc
    exact hc
  · rcases k6 i hi with ⟨q1, q2⟩ | q
    · rcases h6 i q1 with ⟨p1, p2⟩ | p
      · exact Or.inl ⟨p1, q2.trans p2⟩
      · exact Or.inr (by rw [q2]; exact p)
    · exact Or.inr (by omega)
theorem Go_RS {w w' : Wd} {a : Nat} {L L' : Lay} {W W' : Wt} (h : Go w a L W w' L' W') {c : Nat} (hc : RS a L' W' c) : RS a L W c ∨ w.1.length ≤ c := by
  obtain ⟨h1, h2, ⟨h3, h4, h5⟩, h6, h7, h8⟩ := h
  rcases hc with rfl | ⟨j, j1, j2, rfl⟩ | ⟨m, hm, rfl⟩ | ⟨i, hi, rfl⟩ | ⟨i, hi, rfl⟩ | hq
  · exact Or.inl RS_a
  · rw [h3]; exact Or.inl (RS_j j1 j2)
  · rw [h4]; exact Or.inl (RS_m (by omega))
  · rcases h6 i hi with ⟨q1, q2⟩ | q
    · rw [q2]; exact Or.inl (RS_l q1)
    · exact Or.inr q
  · rw [h5]; exact Or.inl (RS_o (by rw [← h8]; exact hi))
  · rw [h5] at hq; exact Or.inl (RS_d hq)
theorem WA_len {w : Wd} {a : Nat} {L : Lay} {W : Wt} (h : WA w a L W) : a < w.1.length := RS_lt h RS_a
/-- one row of a man is written -/
theorem WA_row {w : Wd} {a : Nat} {L : Lay} {W W' : Wt} (h : WA w a L W) (hT : OkT W) {m : Nat} (hm : m < nmen W) {P : Wt} (lo : ∀ k, k ≠ 4 + m → k ≠ 16 + m → k ≠ 28 + m → k ≠ 40 + m → k ≠ 52 + m → k ≠ 64 + m → W' k = W k) (hp : P 0 = W (90 + m) ∧ P 1 = W (102 + m) ∧ P 2 = W (114 + m) ∧ P 3 = W' (4 + m) ∧ P 4 = W' (16 + m) ∧ P 5 = W' (28 + m) ∧ P 6 = W' (40 + m) ∧ (W' (40 + m) = 1 → P 7 = W' (52 + m)) ∧ (W' (40 + m) = 2 → P 8 = W' (64 + m))) : WA (wr w (L.2.1 m) P) a L W' := by
  have h12 := (OkT_n hT).2
  have s : same78 W W' := fun k h1 h2 => lo k (by omega) (by omega) (by omega) (by omega) (by omega) (by omega)
  have e0 : W' 0 = W 0 := lo 0 (by omega) (by omega) (by omega) (by omega) (by omega) (by omega)
  have e1 : W' 1 = W 1 := lo 1 (by omega) (by omega) (by omega) (by omega) (by omega) (by omega)
  have e2 : W' 2 = W 2 := lo 2 (by omega) (by omega) (by omega) (by omega) (by omega) (by omega)
  have e3 : W' 3 = W 3 := lo 3 (by omega) (by omega) (by omega) (by omega) (by omega) (by omega)
  have en := s78_n s
  obtain ⟨h1, h2, h3, h4, h5, h6, h7, h8⟩ := h
  obtain ⟨r1, r2, r3, r4, r5, r6⟩ := id h3
  have hr := (h5.1 m hm).2.1
  have nsh : ∀ {c : Nat} {s : Shp}, w.1[c]? = some s → s ≠ .inl 9 → (wr w (L.2.1 m) P).2.2 c = w.2.2 c := fun hc hd => ms_ne (ne_sh hc hr hd)
  have n87 : W' 87 = W 87 := s 87 (by omega) (by omega)
  refine ⟨?_, h2, ?_, ?_, ?_, ?_, ?_, ?_⟩
  · unfold WAi
    rw [nsh h2.1 (by decide), e0, e1, e2, e3, sHills_W s, s 79 (by omega) (by omega), s 80 (by omega) (by omega), s 81 (by omega) (by omega), s 78 (by omega) (by omega), s 85 (by omega) (by omega), n87]
    exact h1
  · unfold WAs
    rw [n87]
    exact h3
  · unfold WAv
    rw [nsh r1 (by decide), nsh r2 (by decide), nsh r3 (by decide)]
    refine ⟨fun c hc => by rw [s (82 + c) (by omega) (by omega)]; exact h4.1 c hc, fun i hi => by rw [sTold_W s hT]; exact h4.2.1 i hi, fun f hf => by rw [sWt1_W s hT]; exact h4.2.2 f hf⟩
  · refine ⟨fun j hj => ?_, fun i j hi hj => h5.2 i j (by omega) (by omega)⟩
    rw [en] at hj
    have q := h5.1 j hj
    unfold WA1 at q ⊢
    refine ⟨q.1, q.2.1, ?_⟩
    by_cases c : j = m
    · subst c
      have e : (wr w (L.2.1 j) P).2.2 (L.2.1 j) = P := ms_eq _ _ _
      rw [e, s (90 + j) (by omega) (by omega), s (102 + j) (by omega) (by omega), s (114 + j) (by omega) (by omega)]
      exact hp
    · have e : (wr w (L.2.1 m) P).2.2 (L.2.1 j) = w.2.2 (L.2.1 j) := ms_ne (fun z => c (h5.2 j m hj hm z))
      rw [e, s (90 + j) (by omega) (by omega), s (102 + j) (by omega) (by omega), s (114 + j) (by omega) (by omega), lo (4 + j) (by omega) (by omega) (by omega) (by omega) (by omega) (by omega), lo (16 + j) (by omega) (by omega) (by omega) (by omega) (by omega) (by omega), lo (28 + j) (by omega) (by omega) (by omega) (by omega) (by omega) (by omega), lo (40 + j) (by omega) (by omega) (by omega) (by omega) (by omega) (by omega), lo (52 + j) (by omega) (by omega) (by omega) (by omega) (by omega) (by omega), lo (64 + j) (by omega) (by omega) (by omega) (by omega) (by omega) (by omega)]
      exact q.2.2
  · intro i hi
    rw [e3] at hi
    have q := h6 i hi
    rw [nsh q.2.1 (by decide)]
    refine ⟨q.1, q.2.1, fun k hk => ?_⟩
    rw [lo (300 + 4 * i + k) (by omega) (by omega) (by omega) (by omega) (by omega) (by omega)]
    exact q.2.2 k hk
  · intro i hi
    rw [n87] at hi
    have q := h7 i hi
    have h16 := (OkT_on hT).2
    rw [nsh q.2.1 (by decide), s (222 + 3 * i) (by omega) (by omega), s (222 + 3 * i + 1) (by omega) (by omega), s (222 + 3 * i + 2) (by omega) (by omega)]
    exact q
  · unfold WAd at h8 ⊢
    cases eq : L.2.2.2.2 with
    | none =>
      rw [eq] at h8
      exact Lq_W s h8
    | some q =>
      rw [eq] at h8
      show w.1[q]? = _ ∧ Lq (some ((wr w (L.2.1 m) P).2.2 q)) W'
      rw [nsh h8.1 (by decide)]
      exact ⟨h8.1, Lq_W s h8.2⟩
theorem WAb_W {a : Nat} {L : Lay} {W W' : Wt} (h : WAb a L W) (e1 : nmen W' = nmen W) (e2 : W' 3 = W 3) (e3 : W' 87 = W 87) : WAb a L W' := by
  intro c hc
  refine h c ?_
  unfold RS at hc ⊢
  rw [e1, e2, e3] at hc
  exact hc
theorem Kp_wr (w : Wd) (q : Nat) (P : Wt) : Kp (fun c => c = q) w (wr w q P) := ⟨⟨[], by simp [wr]⟩, fun c _ hs => ⟨rfl, ms_ne hs⟩⟩
theorem Go_row {w : Wd} {a : Nat} {L : Lay} {W W' : Wt} (h : Wv w a L W) {m : Nat} (hm : m < nmen W) {P : Wt} (hW' : WO W') (lo : ∀ k, k ≠ 4 + m → k ≠ 16 + m → k ≠ 28 + m → k ≠ 40 + m → k ≠ 52 + m → k ≠ 64 + m → W' k = W k) (hp : P 0 = W (90 + m) ∧ P 1 = W (102 + m) ∧ P 2 = W (114 + m) ∧ P 3 = W' (4 + m) ∧ P 4 = W' (16 + m) ∧ P 5 = W' (28 + m) ∧ P 6 = W' (40 + m) ∧ (W' (40 + m) = 1 → P 7 = W' (52 + m)) ∧ (W' (40 + m) = 2 → P 8 = W' (64 + m))) : Go w a L W (wr w (L.2.1 m) P) L W' := by
  obtain ⟨hA, ho, hW, hb⟩ := h
  have h12 := (OkT_n hW.1).2
  have e3 : W' 3 = W 3 := lo 3 (by omega) (by omega) (by omega) (by omega) (by omega) (by omega)
  have e87 : W' 87 = W 87 := lo 87 (by omega) (by omega) (by omega) (by omega) (by omega) (by omega)
  have en : nmen W' = nmen W := by
    unfold nmen
    rw [lo 78 (by omega) (by omega) (by omega) (by omega) (by omega) (by omega)]
  have k := Kp_wr w (L.2.1 m) P
  refine ⟨⟨WA_row hA hW.1 hm lo hp, Kp_OKs k ho (fun c _ => Or.inr rfl), hW', WAb_W hb en e3 e87⟩, Kp_mono k (fun c _ hc => ?_), ⟨rfl, rfl, rfl⟩, fun i hi => Or.inl ⟨by rw [← e3]; exact hi, rfl⟩, en, e87⟩
  exact Or.inr (Or.inr (Or.inr ⟨m, hm, hc⟩))
theorem row_of {w : Wd} {a : Nat} {L : Lay} {W : Wt} (h : WA w a L W) {m : Nat} (hm : m < nmen W) : w.1[L.2.1 m]? = some (.inl 9) := ((WA_m h).1 m hm).2.1
/-- single fields -/
theorem Go_br {w : Wd} {a : Nat} {L : Lay} {W : Wt} (h : Wv w a L W) {m : Nat} (hm : m < nmen W) {x : Int32} (hW' : WO (upd W (4 + m) x)) : Go w a L W (wr w (L.2.1 m) (upd (w.2.2 (L.2.1 m)) 3 x)) L (upd W (4 + m) x) := by
  obtain ⟨-, -, q0, q1, q2, q3, q4, q5, q6, q7, q8⟩ := (WA_m h.1).1 m hm
  have h12 := (OkT_n h.2.2.1.1).2
  refine Go_row h hm hW' (fun k c1 _ _ _ _ _ => up_ne c1) ?_
  have n4 : (upd W (4 + m) x) (4 + m) = x := by rw [up_eq]
  have n16 : (upd W (4 + m) x) (16 + m) = W (16 + m) := by rw [up_ne (by omega)]
  have n28 : (upd W (4 + m) x) (28 + m) = W (28 + m) := by rw [up_ne (by omega)]
  have n40 : (upd W (4 + m) x) (40 + m) = W (40 + m) := by rw [up_ne (by omega)]
  have n52 : (upd W (4 + m) x) (52 + m) = W (52 + m) := by rw [up_ne (by omega)]
  have n64 : (upd W (4 + m) x) (64 + m) = W (64 + m) := by rw [up_ne (by omega)]
  exact ⟨q0, q1, q2, n4.symm, q4.trans n16.symm, q5.trans n28.symm, q6.trans n40.symm, fun z => (q7 (n40.symm.trans z)).trans n52.symm, fun z => (q8 (n40.symm.trans z)).trans n64.symm⟩
theorem Go_kn {w : Wd} {a : Nat} {L : Lay} {W : Wt} (h : Wv w a L W) {m : Nat} (hm : m < nmen W) {x : Int32} (hW' : WO (upd W (16 + m) x)) : Go w a L W (wr w (L.2.1 m) (upd (w.2.2 (L.2.1 m)) 4 x)) L (upd W (16 + m) x) := by
  obtain ⟨-, -, q0, q1, q2, q3, q4, q5, q6, q7, q8⟩ := (WA_m h.1).1 m hm
  have h12 := (OkT_n h.2.2.1.1).2
  refine Go_row h hm hW' (fun k _ c1 _ _ _ _ => up_ne c1) ?_
  have n4 : (upd W (16 + m) x) (4 + m) = W (4 + m) := by rw [up_ne (by omega)]
  have n16 : (upd W (16 + m) x) (16 + m) = x := by rw [up_eq]
  have n28 : (upd W (16 + m) x) (28 + m) = W (28 + m) := by rw [up_ne (by omega)]
  have n40 : (upd W (16 + m) x) (40 + m) = W (40 + m) := by rw [up_ne (by omega)]
  have n52 : (upd W (16 + m) x) (52 + m) = W (52 + m) := by rw [up_ne (by omega)]
  have n64 : (upd W (16 + m) x) (64 + m) = W (64 + m) := by rw [up_ne (by omega)]
  exact ⟨q0, q1, q2, q3.trans n4.symm, n16.symm, q5.trans n28.symm, q6.trans n40.symm, fun z => (q7 (n40.symm.trans z)).trans n52.symm, fun z => (q8 (n40.symm.trans z)).trans n64.symm⟩
theorem Go_ce {w : Wd} {a : Nat} {L : Lay} {W : Wt} (h : Wv w a L W) {m : Nat} (hm : m < nmen W) {x : Int32} (hW' : WO (upd W (52 + m) x)) : Go w a L W (wr w (L.2.1 m) (upd (w.2.2 (L.2.1 m)) 7 x)) L (upd W (52 + m) x) := by
  obtain ⟨-, -, q0, q1, q2, q3, q4, q5, q6, q7, q8⟩ := (WA_m h.1).1 m hm
  have h12 := (OkT_n h.2.2.1.1).2
  refine Go_row h hm hW' (fun k _ _ _ _ c1 _ => up_ne c1) ?_
  have n4 : (upd W (52 + m) x) (4 + m) = W (4 + m) := by rw [up_ne (by omega)]
  have n16 : (upd W (52 + m) x) (16 + m) = W (16 + m) := by rw [up_ne (by omega)]
  have n28 : (upd W (52 + m) x) (28 + m) = W (28 + m) := by rw [up_ne (by omega)]
  have n40 : (upd W (52 + m) x) (40 + m) = W (40 + m) := by rw [up_ne (by omega)]
  have n52 : (upd W (52 + m) x) (52 + m) = x := by rw [up_eq]
  have n64 : (upd W (52 + m) x) (64 + m) = W (64 + m) := by rw [up_ne (by omega)]
  exact ⟨q0, q1, q2, q3.trans n4.symm, q4.trans n16.symm, q5.trans n28.symm, q6.trans n40.symm, fun _ => n52.symm, fun z => (q8 (n40.symm.trans z)).trans n64.symm⟩
theorem Go_home {w : Wd} {a : Nat} {L : Lay} {W : Wt} (h : Wv w a L W) {m : Nat} (hm : m < nmen W) (hW' : WO (upd W (40 + m) 0)) : Go w a L W (wr w (L.2.1 m) (upd (w.2.2 (L.2.1 m)) 6 0)) L (upd W (40 + m) 0) := by
  obtain ⟨-, -, q0, q1, q2, q3, q4, q5, q6, q7, q8⟩ := (WA_m h.1).1 m hm
  have h12 := (OkT_n h.2.2.1.1).2
  refine Go_row h hm hW' (fun k _ _ _ c1 _ _ => up_ne c1) ?_
  have n4 : (upd W (40 + m) 0) (4 + m) = W (4 + m) := by rw [up_ne (by omega)]
  have n16 : (upd W (40 + m) 0) (16 + m) = W (16 + m) := by rw [up_ne (by omega)]
  have n28 : (upd W (40 + m) 0) (28 + m) = W (28 + m) := by rw [up_ne (by omega)]
  have n40 : (upd W (40 + m) 0) (40 + m) = 0 := by rw [up_eq]
  have n52 : (upd W (40 + m) 0) (52 + m) = W (52 + m) := by rw [up_ne (by omega)]
  have n64 : (upd W (40 + m) 0) (64 + m) = W (64 + m) := by rw [up_ne (by omega)]
  exact ⟨q0, q1, q2, q3.trans n4.symm, q4.trans n16.symm, q5.trans n28.symm, n40.symm, fun z => absurd (n40.symm.trans z) (by decide), fun z => absurd (n40.symm.trans z) (by decide)⟩
theorem Go_half {w : Wd} {a : Nat} {L : Lay} {W : Wt} (h : Wv w a L W) {m : Nat} (hm : m < nmen W) {x : Int32} (hW' : WO (upd (upd W (40 + m) 0) (4 + m) x)) : Go w a L W (wr w (L.2.1 m) (upd (upd (w.2.2 (L.2.1 m)) 6 0) 3 x)) L (upd (upd W (40 + m) 0) (4 + m) x) := by
  obtain ⟨-, -, q0, q1, q2, q3, q4, q5, q6, q7, q8⟩ := (WA_m h.1).1 m hm
  have h12 := (OkT_n h.2.2.1.1).2
  refine Go_row h hm hW' (fun k c1 _ _ c2 _ _ => by rw [up_ne c1, up_ne c2]) ?_
  have n4 : (upd (upd W (40 + m) 0) (4 + m) x) (4 + m) = x := by rw [up_eq]
  have n16 : (upd (upd W (40 + m) 0) (4 + m) x) (16 + m) = W (16 + m) := by rw [up_ne (by omega), up_ne (by omega)]
  have n28 : (upd (upd W (40 + m) 0) (4 + m) x) (28 + m) = W (28 + m) := by rw [up_ne (by omega), up_ne (by omega)]
  have n40 : (upd (upd W (40 + m) 0) (4 + m) x) (40 + m) = 0 := by rw [up_ne (by omega), up_eq]
  have n52 : (upd (upd W (40 + m) 0) (4 + m) x) (52 + m) = W (52 + m) := by rw [up_ne (by omega), up_ne (by omega)]
  have n64 : (upd (upd W (40 + m) 0) (4 + m) x) (64 + m) = W (64 + m) := by rw [up_ne (by omega), up_ne (by omega)]
  exact ⟨q0, q1, q2, n4.symm, q4.trans n16.symm, q5.trans n28.symm, n40.symm, fun z => absurd (n40.symm.trans z) (by decide), fun z => absurd (n40.symm.trans z) (by decide)⟩
theorem Go_take {w : Wd} {a : Nat} {L : Lay} {W : Wt} (h : Wv w a L W) {m : Nat} (hm : m < nmen W) {x : Int32} (hW' : WO (upd (upd W (40 + m) 1) (52 + m) x)) : Go w a L W (wr w (L.2.1 m) (upd (upd (w.2.2 (L.2.1 m)) 6 1) 7 x)) L (upd (upd W (40 + m) 1) (52 + m) x) := by
  obtain ⟨-, -, q0, q1, q2, q3, q4, q5, q6, q7, q8⟩ := (WA_m h.1).1 m hm
  have h12 := (OkT_n h.2.2.1.1).2
  refine Go_row h hm hW' (fun k _ _ _ c2 c1 _ => by rw [up_ne c1, up_ne c2]) ?_
  have n4 : (upd (upd W (40 + m) 1) (52 + m) x) (4 + m) = W (4 + m) := by rw [up_ne (by omega), up_ne (by omega)]
  have n16 : (upd (upd W (40 + m) 1) (52 + m) x) (16 + m) = W (16 + m) := by rw [up_ne (by omega), up_ne (by omega)]
  have n28 : (upd (upd W (40 + m) 1) (52 + m) x) (28 + m) = W (28 + m) := by rw [up_ne (by omega), up_ne (by omega)]
  have n40 : (upd (upd W (40 + m) 1) (52 + m) x) (40 + m) = 1 := by rw [up_ne (by omega), up_eq]
  have n52 : (upd (upd W (40 + m) 1) (52 + m) x) (52 + m) = x := by rw [up_eq]
  have n64 : (upd (upd W (40 + m) 1) (52 + m) x) (64 + m) = W (64 + m) := by rw [up_ne (by omega), up_ne (by omega)]
  exact ⟨q0, q1, q2, q3.trans n4.symm, q4.trans n16.symm, q5.trans n28.symm, n40.symm, fun _ => n52.symm, fun z => absurd (n40.symm.trans z) (by decide)⟩
theorem Go_caught {w : Wd} {a : Nat} {L : Lay} {W : Wt} (h : Wv w a L W) {m : Nat} (hm : m < nmen W) {x : Int32} (hW' : WO (upd (upd W (40 + m) 2) (64 + m) x)) : Go w a L W (wr w (L.2.1 m) (upd (upd (w.2.2 (L.2.1 m)) 6 2) 8 x)) L (upd (upd W (40 + m) 2) (64 + m) x) := by
  obtain ⟨-, -, q0, q1, q2, q3, q4, q5, q6, q7, q8⟩ := (WA_m h.1).1 m hm
  have h12 := (OkT_n h.2.2.1.1).2
  refine Go_row h hm hW' (fun k _ _ _ c2 _ c1 => by rw [up_ne c1, up_ne c2]) ?_
  have n4 : (upd (upd W (40 + m) 2) (64 + m) x) (4 + m) = W (4 + m) := by rw [up_ne (by omega), up_ne (by omega)]
  have n16 : (upd (upd W (40 + m) 2) (64 + m) x) (16 + m) = W (16 + m) := by rw [up_ne (by omega), up_ne (by omega)]
  have n28 : (upd (upd W (40 + m) 2) (64 + m) x) (28 + m) = W (28 + m) := by rw [up_ne (by omega), up_ne (by omega)]
  have n40 : (upd (upd W (40 + m) 2) (64 + m) x) (40 + m) = 2 := by rw [up_ne (by omega), up_eq]
  have n52 : (upd (upd W (40 + m) 2) (64 + m) x) (52 + m) = W (52 + m) := by rw [up_ne (by omega), up_ne (by omega)]
  have n64 : (upd (upd W (40 + m) 2) (64 + m) x) (64 + m) = x := by rw [up_eq]
  exact ⟨q0, q1, q2, q3.trans n4.symm, q4.trans n16.symm, q5.trans n28.symm, n40.symm, fun z => absurd (n40.symm.trans z) (by decide), fun _ => n64.symm⟩
/-- War's own numbers -/
theorem WA_int {w : Wd} {a : Nat} {L : Lay} {W W' : Wt} (h : WA w a L W) (hT : OkT W) {P : Wt} (lo : ∀ k, 3 ≤ k → W' k = W k) (hp : P 0 = W' 2 ∧ P 1 = W' 0 ∧ P 2 = W' 1 ∧ ∀ j, 3 ≤ j → j ≤ 11 → P j = w.2.2 a j) : WA (wr w a P) a L W' := by
  have h12 := (OkT_n hT).2
  have s : same78 W W' := fun k h1 h2 => lo k (by omega)
  have en := s78_n s
  obtain ⟨h1, h2, h3, h4, h5, h6, h7, h8⟩ := h
  obtain ⟨r1, r2, r3, r4, r5, r6⟩ := id h3
  have nsh : ∀ {c : Nat} {s : Shp}, w.1[c]? = some s → s ≠ .inr (.inl 12) → (wr w a P).2.2 c = w.2.2 c := fun hc hd => ms_ne (ne_sh hc h2.1 hd)
  refine ⟨?_, h2, ?_, ?_, ?_, ?_, ?_, ?_⟩
  · unfold WAi
    have e : (wr w a P).2.2 a = P := ms_eq _ _ _
    obtain ⟨p0, p1, p2, p3⟩ := hp
    obtain ⟨-, -, -, k3, k4, k5, k6, k7, k8, k9, k10, k11⟩ := h1
    rw [e, p3 3 (by omega) (by omega), p3 4 (by omega) (by omega), p3 5 (by omega) (by omega), p3 6 (by omega) (by omega), p3 7 (by omega) (by omega), p3 8 (by omega) (by omega), p3 9 (by omega) (by omega), p3 10 (by omega) (by omega), p3 11 (by omega) (by omega), sHills_W s, lo 79 (by omega), lo 80 (by omega), lo 81 (by omega), lo 78 (by omega), lo 3 (by omega), lo 85 (by omega), lo 87 (by omega)]
    exact ⟨p0, p1, p2, k3, k4, k5, k6, k7, k8, k9, k10, k11⟩
  · unfold WAs
    rw [lo 87 (by omega)]
    exact h3
  · unfold WAv
    rw [nsh r1 (by decide), nsh r2 (by decide), nsh r3 (by decide)]
    refine ⟨fun c hc => by rw [lo (82 + c) (by omega)]; exact h4.1 c hc, fun i hi => by rw [sTold_W s hT]; exact h4.2.1 i hi, fun f hf => by rw [sWt1_W s hT]; exact h4.2.2 f hf⟩
  · refine ⟨fun j hj => ?_, fun i j hi hj => h5.2 i j (by omega) (by omega)⟩
    rw [en] at hj
    have q := h5.1 j hj
    unfold WA1 at q ⊢
    refine ⟨q.1, q.2.1, ?_⟩
    rw [nsh q.2.1 (by decide), lo (90 + j) (by omega), lo (102 + j) (by omega), lo (114 + j) (by omega), lo (4 + j) (by omega), lo (16 + j) (by omega), lo (28 + j) (by omega), lo (40 + j) (by omega), lo (52 + j) (by omega), lo (64 + j) (by omega)]
    exact q.2.2
  · intro i hi
    rw [lo 3 (by omega)] at hi
    have q := h6 i hi
    rw [nsh q.2.1 (by decide)]
    refine ⟨q.1, q.2.1, fun k hk => ?_⟩
    rw [lo (300 + 4 * i + k) (by omega)]
    exact q.2.2 k hk
  · intro i hi
    rw [lo 87 (by omega)] at hi
    have q := h7 i hi
    rw [nsh q.2.1 (by decide), lo (222 + 3 * i) (by omega), lo (222 + 3 * i + 1) (by omega), lo (222 + 3 * i + 2) (by omega)]
    exact q
  · unfold WAd at h8 ⊢
    cases eq : L.2.2.2.2 with
    | none =>
      rw [eq] at h8
      exact Lq_W s h8
    | some q =>
      rw [eq] at h8
      show w.1[q]? = _ ∧ Lq (some ((wr w a P).2.2 q)) W'
      rw [nsh h8.1 (by decide)]
      exact ⟨h8.1, Lq_W s h8.2⟩
theorem Go_int {w : Wd} {a : Nat} {L : Lay} {W W' : Wt} (h : Wv w a L W) {P : Wt} (hW' : WO W') (lo : ∀ k, 3 ≤ k → W' k = W k) (hp : P 0 = W' 2 ∧ P 1 = W' 0 ∧ P 2 = W' 1 ∧ ∀ j, 3 ≤ j → j ≤ 11 → P j = w.2.2 a j) : Go w a L W (wr w a P) L W' := by
  obtain ⟨hA, ho, hW, hb⟩ := h
  have e3 : W' 3 = W 3 := lo 3 (by omega)
  have e87 : W' 87 = W 87 := lo 87 (by omega)
  have en : nmen W' = nmen W := by
    unfold nmen
    rw [lo 78 (by omega)]
  have k := Kp_wr w a P
  exact ⟨⟨WA_int hA hW.1 lo hp, Kp_OKs k ho (fun c _ => Or.inr rfl), hW', WAb_W hb en e3 e87⟩, Kp_mono k (fun c _ hc => Or.inl hc), ⟨rfl, rfl, rfl⟩, fun i hi => Or.inl ⟨by rw [← e3]; exact hi, rfl⟩, en, e87⟩
theorem Go_day {w : Wd} {a : Nat} {L : Lay} {W : Wt} (h : Wv w a L W) {x : Int32} (hW' : WO (upd W 0 x)) : Go w a L W (wr w a (upd (w.2.2 a) 1 x)) L (upd W 0 x) := by
  obtain ⟨k0, k1, k2, -⟩ := WA_i h.1
  exact Go_int h hW' (fun k hk => up_ne (by omega)) ⟨k0, rfl, k2, fun j h1 _ => up_ne (by omega)⟩
theorem Go_war {w : Wd} {a : Nat} {L : Lay} {W : Wt} (h : Wv w a L W) {x : Int32} (hW' : WO (upd W 1 x)) : Go w a L W (wr w a (upd (w.2.2 a) 2 x)) L (upd W 1 x) := by
  obtain ⟨k0, k1, k2, -⟩ := WA_i h.1
  exact Go_int h hW' (fun k hk => up_ne (by omega)) ⟨k0, k1, rfl, fun j h1 _ => up_ne (by omega)⟩
theorem Go_state {w : Wd} {a : Nat} {L : Lay} {W : Wt} (h : Wv w a L W) {x : Int32} (hW' : WO (upd W 2 x)) : Go w a L W (wr w a (upd (w.2.2 a) 0 x)) L (upd W 2 x) := by
  obtain ⟨k0, k1, k2, -⟩ := WA_i h.1
  exact Go_int h hW' (fun k hk => up_ne (by omega)) ⟨rfl, k1, k2, fun j h1 _ => up_ne (by omega)⟩
theorem Go_made {w : Wd} {a : Nat} {L : Lay} {W : Wt} (h : Wv w a L W) {x : Int32} : Go w a L W (wr w a (upd (w.2.2 a) 12 x)) L W := by
  obtain ⟨k0, k1, k2, -⟩ := WA_i h.1
  exact Go_int h h.2.2.1 (fun k hk => rfl) ⟨k0, k1, k2, fun j _ h2 => up_ne (by omega)⟩
theorem Go_nq {w : Wd} {a : Nat} {L : Lay} {W : Wt} (h : Wv w a L W) (s : Shp) (ρ : Nat → Option Nat) (P : Wt) : Go w a L W (nq w s ρ P) L W := by
  have k := Kp_nq (fun _ => False) w s ρ P
  have hl := OKs_len h.2.1
  exact ⟨⟨Kp_WA k h.1 (fun _ _ z => z), Kp_OKs k h.2.1 (fun c _ => Or.inl (fun z => z)), h.2.2.1, h.2.2.2⟩, Kp_nq _ _ _ _ _, ⟨rfl, rfl, rfl⟩, fun i hi => Or.inl ⟨hi, rfl⟩, rfl, rfl⟩
