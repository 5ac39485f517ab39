/-! which cells are read; worlds that agree there -/
def RS (a : Nat) (L : Lay) (W : Wt) (c : Nat) : Prop := c = a ∨ (∃ j, 13 ≤ j ∧ j ≤ 18 ∧ c = L.1 j) ∨ (∃ m, m < nmen W ∧ c = L.2.1 m) ∨ (∃ i, i < nt (W 3) ∧ c = L.2.2.1 i) ∨ (∃ i, i < nt (W 87) ∧ c = L.2.2.2.1 i) ∨ L.2.2.2.2 = some c
theorem RS_a {a : Nat} {L : Lay} {W : Wt} : RS a L W a := Or.inl rfl
theorem RS_j {a : Nat} {L : Lay} {W : Wt} {j : Nat} (h1 : 13 ≤ j) (h2 : j ≤ 18) : RS a L W (L.1 j) := Or.inr (Or.inl ⟨j, h1, h2, rfl⟩)
theorem RS_m {a : Nat} {L : Lay} {W : Wt} {m : Nat} (h : m < nmen W) : RS a L W (L.2.1 m) := Or.inr (Or.inr (Or.inl ⟨m, h, rfl⟩))
theorem RS_l {a : Nat} {L : Lay} {W : Wt} {i : Nat} (h : i < nt (W 3)) : RS a L W (L.2.2.1 i) := Or.inr (Or.inr (Or.inr (Or.inl ⟨i, h, rfl⟩)))
theorem RS_o {a : Nat} {L : Lay} {W : Wt} {i : Nat} (h : i < nt (W 87)) : RS a L W (L.2.2.2.1 i) := Or.inr (Or.inr (Or.inr (Or.inr (Or.inl ⟨i, h, rfl⟩))))
theorem RS_d {a : Nat} {L : Lay} {W : Wt} {q : Nat} (h : L.2.2.2.2 = some q) : RS a L W q := Or.inr (Or.inr (Or.inr (Or.inr (Or.inr h))))
def agr (w w' : Wd) (c : Nat) : Prop := w'.1[c]? = w.1[c]? ∧ w'.2.1 c = w.2.1 c ∧ w'.2.2 c = w.2.2 c
theorem WA_cg {w w' : Wd} {a : Nat} {L : Lay} {W : Wt} (h : WA w a L W) (e : ∀ c, RS a L W c → agr w w' c) : WA w' a L W := by
  obtain ⟨h1, h2, h3, h4, h5, h6, h7, h8⟩ := h
  have ea := e a RS_a
  have e13 := e _ (RS_j (L := L) (W := W) (a := a) (show 13 ≤ 13 by decide) (by decide))
  have e14 := e _ (RS_j (L := L) (W := W) (a := a) (show 13 ≤ 14 by decide) (by decide))
  have e15 := e _ (RS_j (L := L) (W := W) (a := a) (show 13 ≤ 15 by decide) (by decide))
  have e16 := e _ (RS_j (L := L) (W := W) (a := a) (show 13 ≤ 16 by decide) (by decide))
  have e17 := e _ (RS_j (L := L) (W := W) (a := a) (show 13 ≤ 17 by decide) (by decide))
  have e18 := e _ (RS_j (L := L) (W := W) (a := a) (show 13 ≤ 18 by decide) (by decide))
  refine ⟨?_, ?_, ?_, ?_, ?_, ?_, ?_, ?_⟩
  · unfold WAi
    rw [ea.2.2]
    exact h1
  · unfold WAr
    rw [ea.1, ea.2.1]
    exact h2
  · unfold WAs
    rw [e13.1, e14.1, e15.1, e16.1, e17.1, e18.1]
    exact h3
  · unfold WAv
    rw [e13.2.2, e14.2.2, e15.2.2]
    exact h4
  · refine ⟨fun m hm => ?_, h5.2⟩
    have em := e _ (RS_m (a := a) (L := L) hm)
    unfold WA1
    rw [e16.2.1, em.1, em.2.2]
    exact h5.1 m hm
  · intro i hi
    have ei := e _ (RS_l (a := a) (L := L) hi)
    rw [e17.2.1, ei.1, ei.2.2]
    exact h6 i hi
  · intro i hi
    have ei := e _ (RS_o (a := a) (L := L) hi)
    rw [e18.2.1, ei.1, ei.2.2]
    exact h7 i hi
  · unfold WAd at h8 ⊢
    cases eq : L.2.2.2.2 with
    | none => rw [eq] at h8; exact h8
    | some q =>
      rw [eq] at h8
      have ed := e q (RS_d eq)
      show w'.1[q]? = _ ∧ Lq (some (w'.2.2 q)) W
      rw [ed.1, ed.2.2]
      exact h8
theorem RS_lt {w : Wd} {a : Nat} {L : Lay} {W : Wt} (h : WA w a L W) {c : Nat} (hc : RS a L W c) : c < w.1.length := by
  have key : ∀ {s : Shp}, w.1[c]? = some s → c < w.1.length := fun h => (List.getElem?_eq_some_iff.mp h).1
  rcases hc with rfl | ⟨j, h1, h2, rfl⟩ | ⟨m, hm, rfl⟩ | ⟨i, hi, rfl⟩ | ⟨i, hi, rfl⟩ | hq
  · exact key (WA_r h).1
  · obtain ⟨s1, s2, s3, s4, s5, s6⟩ := WA_s h
    rcases (by omega : j = 13 ∨ j = 14 ∨ j = 15 ∨ j = 16 ∨ j = 17 ∨ j = 18) with rfl | rfl | rfl | rfl | rfl | rfl
    · exact key s1
    · exact key s2
    · exact key s3
    · exact key s4
    · exact key s5
    · exact key s6
  · exact key ((WA_m h).1 m hm).2.1
  · exact key ((WA_l h) i hi).2.1
  · exact key ((WA_o h) i hi).2.1
  · have h8 := WA_d h
    unfold WAd at h8
    rw [hq] at h8
    exact key h8.1
/-- all of it lies behind the system's cells -/
def WAb (a : Nat) (L : Lay) (W : Wt) : Prop := ∀ c, RS a L W c → 146 ≤ c
/-- what holds of the system and of a War between two calls -/
def St (w : Wd) (g : Mem) (a : Nat) (L : Lay) : Prop := OKs w ∧ SP w.2.2 g ∧ WA w a L (g 147) ∧ WAb a L (g 147)
/-- the same cells, and new ones behind them; but in S the old cells keep what they hold -/
def Kp (S : Nat → Prop) (w w' : Wd) : Prop := (∃ e, w'.1 = w.1 ++ e) ∧ ∀ c, c < w.1.length → ¬ S c → w'.2.1 c = w.2.1 c ∧ w'.2.2 c = w.2.2 c
theorem Kp_rf (S : Nat → Prop) (w : Wd) : Kp S w w := ⟨⟨[], by simp⟩, fun _ _ _ => ⟨rfl, rfl⟩⟩
theorem Kp_len {S : Nat → Prop} {w w' : Wd} (h : Kp S w w') : w.1.length ≤ w'.1.length := by
  obtain ⟨⟨e, he⟩, -⟩ := h
  rw [he, List.length_append]
  omega
theorem Kp_tr {S S' : Nat → Prop} {w w' w'' : Wd} (h : Kp S w w') (k : Kp S' w' w'') (hS : ∀ c, c < w.1.length → S' c → S c) : Kp S w w'' := by
  have hl := Kp_len h
  obtain ⟨⟨e, he⟩, h2⟩ := h
  obtain ⟨⟨e', he'⟩, k2⟩ := k
  refine ⟨⟨e ++ e', by rw [he', he, List.append_assoc]⟩, fun c hc hs => ?_⟩
  have q1 := h2 c hc hs
  have q2 := k2 c (by omega) (fun z => hs (hS c hc z))
  exact ⟨q2.1.trans q1.1, q2.2.trans q1.2⟩
theorem Kp_mono {S S' : Nat → Prop} {w w' : Wd} (h : Kp S w w') (hS : ∀ c, c < w.1.length → S c → S' c) : Kp S' w w' :=
  ⟨h.1, fun c hc hs => h.2 c hc (fun z => hs (hS c hc z))⟩
theorem Kp_agr {S : Nat → Prop} {w w' : Wd} (h : Kp S w w') {c : Nat} (hc : c < w.1.length) (hs : ¬ S c) : agr w w' c := by
  refine ⟨?_, h.2 c hc hs⟩
  obtain ⟨⟨e, he⟩, -⟩ := h
  rw [he, List.getElem?_append_left hc]
theorem Kp_WA {S : Nat → Prop} {w w' : Wd} {a : Nat} {L : Lay} {W : Wt} (h : Kp S w w') (hA : WA w a L W) (hs : ∀ c, RS a L W c → ¬ S c) : WA w' a L W :=
  WA_cg hA (fun c hc => Kp_agr h (RS_lt hA hc) (hs c hc))
theorem Kp_OKs {S : Nat → Prop} {w w' : Wd} (h : Kp S w w') (ho : OKs w) (hs : ∀ c, c < 146 → ¬ S c ∨ w'.2.1 c = w.2.1 c) : OKs w' := by
  have hl : 146 ≤ w.1.length := by
    have q := congrArg List.length ho.1
    rw [List.length_take, SH_len] at q
    omega
  refine ⟨?_, fun a ha => ?_⟩
  · obtain ⟨⟨e, he⟩, -⟩ := h
    rw [he, List.take_append_of_le_length hl]
    exact ho.1
  · rw [← ho.2 a ha]
    rcases hs a ha with q | q
    · exact (h.2 a (by omega) q).1
    · exact q
theorem OKs_len {w : Wd} (ho : OKs w) : 146 ≤ w.1.length := by
  have q := congrArg List.length ho.1
  rw [List.length_take, SH_len] at q
  omega
/-- the system's memory alone changes -/
theorem Kp_cl (w : Wd) (v : Mem) (hv : ∀ c, 146 ≤ c → v c = w.2.2 c) : Kp (fun c => c < 146) w (w.1, w.2.1, v) := ⟨⟨[], by simp⟩, fun c _ hs => ⟨rfl, hv c (by omega)⟩⟩
theorem St_cl {w : Wd} {g g' : Mem} {a : Nat} {L : Lay} {v : Mem} (h : St w g a L) (hv : ∀ c, 146 ≤ c → v c = w.2.2 c) (hS : SP v g') (e : g' 147 = g 147) : St (w.1, w.2.1, v) g' a L := by
  have k := Kp_cl w v hv
  refine ⟨Kp_OKs k h.1 (fun c hc => Or.inr rfl), hS, ?_, ?_⟩
  · rw [e]
    exact Kp_WA k h.2.2.1 (fun c hc => by have := h.2.2.2 c hc; omega)
  · rw [e]
    exact h.2.2.2
