/-! objects in the making -/
def Kn (w : Wd) (c : Nat) (s : Shp) (ρ : Nat → Option Nat) (P : Wt) : Prop := w.1[c]? = some s ∧ w.2.1 c = ρ ∧ w.2.2 c = P
theorem Kn_lt {w : Wd} {c : Nat} {s : Shp} {ρ : Nat → Option Nat} {P : Wt} (h : Kn w c s ρ P) : c < w.1.length := (List.getElem?_eq_some_iff.mp h.1).1
theorem Kn_kp {S : Nat → Prop} {w w' : Wd} {c : Nat} {s : Shp} {ρ : Nat → Option Nat} {P : Wt} (h : Kn w c s ρ P) (k : Kp S w w') (hs : ¬ S c) : Kn w' c s ρ P := by
  have q := Kp_agr k (Kn_lt h) hs
  exact ⟨q.1.trans h.1, q.2.1.trans h.2.1, q.2.2.trans h.2.2⟩
theorem Kn_nq (w : Wd) (s : Shp) (ρ : Nat → Option Nat) (P : Wt) : Kn (nq w s ρ P) w.1.length s ρ P := ⟨nq_s w s ρ P, if_pos rfl, ms_eq _ _ _⟩
theorem Kn_wr {w : Wd} {c : Nat} {s : Shp} {ρ : Nat → Option Nat} {P : Wt} (h : Kn w c s ρ P) (Q : Wt) : Kn (wr w c Q) c s ρ Q := ⟨h.1, h.2.1, ms_eq _ _ _⟩
def oupd (ρ : Nat → Option Nat) (j : Nat) (o : Option Nat) : Nat → Option Nat := fun i => if i = j then o else ρ i
theorem ou_eq (ρ : Nat → Option Nat) (j : Nat) (o : Option Nat) : oupd ρ j o j = o := if_pos rfl
theorem ou_ne {ρ : Nat → Option Nat} {j i : Nat} {o : Option Nat} (h : i ≠ j) : oupd ρ j o i = ρ i := if_neg h
def wo (w : Wd) (q : Nat) (ρ : Nat → Option Nat) : Wd := (w.1, rrow w.2.1 q ρ, w.2.2)
theorem Kp_wo (w : Wd) (q : Nat) (ρ : Nat → Option Nat) : Kp (fun c => c = q) w (wo w q ρ) := ⟨⟨[], by simp [wo]⟩, fun c _ hs => ⟨if_neg hs, rfl⟩⟩
theorem Kn_wo {w : Wd} {c : Nat} {s : Shp} {ρ : Nat → Option Nat} {P : Wt} (h : Kn w c s ρ P) (ρ' : Nat → Option Nat) : Kn (wo w c ρ') c s ρ' P := ⟨h.1, if_pos rfl, h.2.2⟩
theorem b_po {β : Type} {k : Unit → Dm β} {w : Wd} {q ci : Nat} {ρ : Nat → Option Nat} {P : Wt} (h : Kn w q (.inr (.inl ci)) ρ P) (j : Nat) (o : Option Nat) : (dbind (dput (pfO q ci j o)) k).1 w = (k ()).1 (wo w q (oupd ρ j o)) := by
  refine b_pt ?_
  unfold pfO
  rw [if_pos h.1]
  have e : roset w.2.1 q j o = rrow w.2.1 q (oupd ρ j o) := by
    funext b i
    unfold roset rrow oupd
    by_cases c : b = q
    · subst c
      rw [if_pos rfl]
      by_cases d : i = j
      · rw [if_pos ⟨rfl, d⟩, if_pos d]
      · rw [if_neg (fun z => d z.2), if_neg d, h.2.1]
    · rw [if_neg (fun z => c z.1), if_neg c]
  rw [e]
theorem b_ps {β : Type} {k : Unit → Dm β} {w : Wd} {q : Nat} {κ m n z : Nat} {ρ : Nat → Option Nat} {P : Wt} (h : Kn w q (.inr (.inr (κ, m))) ρ P) (hz : (κ = 1 ∧ w.1[z]? = some (.inr (.inl 12))) ∨ (κ = 2 ∧ w.1[z]? = some (.inl n))) (j : Nat) (i : Int32) (ei : i = nI j) (hj : j < m) (hm : m < 2147483648) : (dbind (dput (aast q i z)) k).1 w = (k ()).1 (wo w q (oupd ρ j (some z))) := by
  subst ei
  refine b_pt ?_
  have e : roset w.2.1 q j (some z) = rrow w.2.1 q (oupd ρ j (some z)) := by
    funext b i
    unfold roset rrow oupd
    by_cases c : b = q
    · subst c
      rw [if_pos rfl]
      by_cases d : i = j
      · rw [if_pos ⟨rfl, d⟩, if_pos d]
      · rw [if_neg (fun z => d z.2), if_neg d, h.2.1]
    · rw [if_neg (fun z => c z.1), if_neg c]
  unfold aast
  rcases hz with ⟨rfl, hz⟩ | ⟨rfl, hz⟩
  · rw [h.1, hz]
    show (if _ ∨ _ then none else some (_, _)) = _
    rw [if_neg (nI_in hj hm), nI_clamp (by omega), e]
  · rw [h.1, hz]
    show (if _ ∨ _ then none else some (_, _)) = _
    rw [if_neg (nI_in hj hm), nI_clamp (by omega), e]
theorem b_fi {β : Type} {k : Unit → Dm β} {w : Wd} {a ci : Nat} {ρ : Nat → Option Nat} {P : Wt} (h : Kn w a (.inr (.inl ci)) ρ P) (j : Nat) (x : Int32) : (dbind (dput (pfI a ci j x)) k).1 w = (k ()).1 (wr w a (upd P j x)) := by
  rw [b_fld0 h.1 j x, h.2.2]
theorem nwA_n {κ n : Nat} (h : n < 2147483648) (w : Wd) : nwA κ (nI n) w = some (.inr (.inr (κ, n)), fun _ => none, fun _ => 0) := by
  unfold nwA
  rw [if_neg (nI_pos (by omega)), nI_clamp (by omega)]
/-- a fresh War: its numbers, its cells -/
def iP : Wt := upd (upd (upd (fun _ => 0) 2 1) 3 1) 5 3
def iR (N : Nat) : Nat → Option Nat := oupd (oupd (oupd (oupd (oupd (oupd (fun _ => none) 13 (some N)) 14 (some (N + 1))) 15 (some (N + 2))) 16 (some (N + 3))) 17 (some (N + 4))) 18 (some (N + 5))
def w22 : Wt := upd (upd (fun _ => 0) 0 2) 1 2
def w18 : Wt := upd (upd (upd (upd (upd (upd (upd (upd (fun _ => 0) 0 1) 1 1) 2 1) 3 1) 4 1) 5 1) 6 1) 7 1
theorem len_nq (w : Wd) (s : Shp) (ρ : Nat → Option Nat) (P : Wt) : (nq w s ρ P).1.length = w.1.length + 1 := by
  show (w.1 ++ [s]).length = _
  rw [List.length_append]
  rfl
theorem Rm_wo {w : Wd} {n q : Nat} {ρ : Nat → Option Nat} (h : Rm w n) : Rm (wo w q ρ) n := h
/-- a new cell, and the object's word for it -/
theorem mk_c {w : Wd} {q n c : Nat} {s : Shp} {ρ : Nat → Option Nat} {P Q : Wt} (h : Kn w q (.inr (.inl 12)) ρ P) (hR : Rm w (n + c)) (h1 : 1 ≤ c) (hs : ssz s ≤ 12 * c) (j : Nat) : ∃ w', (∀ (β : Type) (k : Unit → Dm β), (dbind (dput (pfO q 12 j (some w.1.length))) k).1 (nq w s (fun _ => none) Q) = (k ()).1 w') ∧ Kn w' q (.inr (.inl 12)) (oupd ρ j (some w.1.length)) P ∧ Kn w' w.1.length s (fun _ => none) Q ∧ Kp (fun c => c = q) w w' ∧ Rm w' n ∧ w'.1.length = w.1.length + 1 := by
  have hq := Kn_lt h
  have k1 := Kp_nq (fun c => c = q) w s (fun _ => none) Q
  have h2 := Kn_kp h (Kp_nq (fun _ => False) w s (fun _ => none) Q) (fun z => z)
  have k2 := Kp_wo (nq w s (fun _ => none) Q) q (oupd ρ j (some w.1.length))
  refine ⟨wo (nq w s (fun _ => none) Q) q (oupd ρ j (some w.1.length)), fun β k => b_po h2 j _, Kn_wo h2 _, Kn_kp (Kn_nq w s (fun _ => none) Q) k2 (by omega), Kp_tr k1 k2 (fun _ _ z => z), Rm_wo (Rm_nq hR h1 hs), len_nq w s (fun _ => none) Q⟩
theorem r_init {w : Wd} {q n : Nat} (h : Kn w q (.inr (.inl 12)) (fun _ => none) (fun _ => 0)) (hR : Rm w (n + 18)) : ∃ w', (DX12_init q).1 w = some ((), w') ∧ Kn w' q (.inr (.inl 12)) (iR w.1.length) iP ∧ Kn w' w.1.length (.inl 2) (fun _ => none) w22 ∧ Kn w' (w.1.length + 1) (.inl 12) (fun _ => none) (fun _ => 0) ∧ Kn w' (w.1.length + 2) (.inl 8) (fun _ => none) w18 ∧ Kn w' (w.1.length + 3) (.inr (.inr (2, 12))) (fun _ => none) (fun _ => 0) ∧ Kn w' (w.1.length + 4) (.inr (.inr (2, 150))) (fun _ => none) (fun _ => 0) ∧ Kn w' (w.1.length + 5) (.inr (.inr (2, 0))) (fun _ => none) (fun _ => 0) ∧ Kp (fun c => c = q) w w' ∧ Rm w' n ∧ w'.1.length = w.1.length + 6 := by
  have hq := Kn_lt h
  have h0 : Kn (wr w q iP) q (.inr (.inl 12)) (fun _ => none) iP := Kn_wr h iP
  have k0 := Kp_wr w q iP
  have hR0 : Rm (wr w q iP) (n + 18) := hR
  obtain ⟨w1, e1, a1, b1, c1, r1, l1⟩ := mk_c (s := .inl 2) (Q := w22) h0 (n := n + 17) (c := 1) hR0 (by decide) (by decide) 13
  obtain ⟨w2, e2, a2, b2, c2, r2, l2⟩ := mk_c (s := .inl 12) (Q := fun _ => 0) a1 (n := n + 16) (c := 1) r1 (by decide) (by decide) 14
  obtain ⟨w3, e3, a3, b3, c3, r3, l3⟩ := mk_c (s := .inl 8) (Q := w18) a2 (n := n + 15) (c := 1) r2 (by decide) (by decide) 15
  obtain ⟨w4, e4, a4, b4, c4, r4, l4⟩ := mk_c (s := .inr (.inr (2, 12))) (Q := fun _ => 0) a3 (n := n + 14) (c := 1) r3 (by decide) (by decide) 16
  obtain ⟨w5, e5, a5, b5, c5, r5, l5⟩ := mk_c (s := .inr (.inr (2, 150))) (Q := fun _ => 0) a4 (n := n + 1) (c := 13) r4 (by decide) (by decide) 17
  obtain ⟨w6, e6, a6, b6, c6, r6, l6⟩ := mk_c (s := .inr (.inr (2, 0))) (Q := fun _ => 0) a5 (n := n) (c := 1) r5 (by decide) (by decide) 18
  have z0 : (wr w q iP).1.length = w.1.length := rfl
  rw [z0] at e1 a1 b1 l1
  rw [l1] at e2 a2 b2 l2
  rw [l2] at e3 a3 b3 l3
  rw [l3] at e4 a4 b4 l4
  rw [l4] at e5 a5 b5 l5
  rw [l5] at e6 a6 b6 l6
  have n0 : q ≠ w.1.length := by omega
  have n1 : w.1.length ≠ q := by omega
  have t1 : ∀ i, w.1.length + i ≠ q := fun i => by omega
  have a6' : Kn w6 q (.inr (.inl 12)) (iR w.1.length) iP := by
    have z := a6
    rw [l4, l3, l2, l1, z0] at z
    exact z
  refine ⟨w6, ?_, a6', ?_, ?_, ?_, ?_, ?_, b6, ?_, r6, l6⟩
  · unfold DX12_init
    rw [b_fi h 2, b_fi (Kn_wr h _) 3, b_fi (Kn_wr (Kn_wr h _) _) 5]
    have ww : wr (wr (wr w q (upd (fun _ => 0) 2 1)) q (upd (upd (fun _ => 0) 2 1) 3 1)) q (upd (upd (upd (fun _ => 0) 2 1) 3 1) 5 3) = wr w q iP := by
      unfold wr
      have ms2 : ∀ (u : Mem) (A B : Wt), mset (mset u q A) q B = mset u q B := fun u A B => by
        funext c
        unfold mset
        split <;> rfl
      rw [ms2, ms2]
      rfl
    rw [ww, b_nw (show nwI 2 _ = _ from nwI_n (n := 2) (by decide) _) (n := n + 17) (c := 1) hR0 (by decide) (by decide), ia_nq rfl 0 0 _ (by decide) (by decide) (by decide), ia_nq rfl 1 1 _ (by decide) (by decide) (by decide)]
    have e1' := e1 Unit
    have e2' := e2 Unit
    have e3' := e3 Unit
    have e4' := e4 Unit
    have e5' := e5 Unit
    have e6' := e6 Unit
    rw [z0]
    unfold w22 at e1'
    rw [e1', b_nw (show nwI 12 _ = _ from nwI_n (n := 12) (by decide) _) (n := n + 16) (c := 1) r1 (by decide) (by decide), l1, e2', b_nw (show nwI 8 _ = _ from nwI_n (n := 8) (by decide) _) (n := n + 15) (c := 1) r2 (by decide) (by decide)]
    rw [ia_nq rfl 0 0 _ (by decide) (by decide) (by decide), ia_nq rfl 1 1 _ (by decide) (by decide) (by decide), ia_nq rfl 2 2 _ (by decide) (by decide) (by decide), ia_nq rfl 3 3 _ (by decide) (by decide) (by decide), ia_nq rfl 4 4 _ (by decide) (by decide) (by decide), ia_nq rfl 5 5 _ (by decide) (by decide) (by decide), ia_nq rfl 6 6 _ (by decide) (by decide) (by decide), ia_nq rfl 7 7 _ (by decide) (by decide) (by decide)]
    unfold w18 at e3'
    rw [l2, e3', b_nw (show nwA 2 12 _ = _ from nwA_n (n := 12) (by decide) _) (n := n + 14) (c := 1) r3 (by decide) (by decide), l3, e4', b_nw (show nwA 2 150 _ = _ from nwA_n (n := 150) (by decide) _) (n := n + 1) (c := 13) r4 (by decide) (by decide), l4, e5', b_nw (show nwA 2 0 _ = _ from nwA_n (n := 0) (by decide) _) (n := n) (c := 1) r5 (by decide) (by decide), l5, e6', u_rt]
  · exact Kn_kp (Kn_kp (Kn_kp (Kn_kp (Kn_kp b1 c2 n1) c3 n1) c4 n1) c5 n1) c6 n1
  · exact Kn_kp (Kn_kp (Kn_kp (Kn_kp b2 c3 (t1 1)) c4 (t1 1)) c5 (t1 1)) c6 (t1 1)
  · exact Kn_kp (Kn_kp (Kn_kp b3 c4 (t1 2)) c5 (t1 2)) c6 (t1 2)
  · exact Kn_kp (Kn_kp b4 c5 (t1 3)) c6 (t1 3)
  · exact Kn_kp b5 c6 (t1 4)
  · exact Kp_tr k0 (Kp_tr c1 (Kp_tr c2 (Kp_tr c3 (Kp_tr c4 (Kp_tr c5 c6 (fun _ _ z => z)) (fun _ _ z => z)) (fun _ _ z => z)) (fun _ _ z => z)) (fun _ _ z => z)) (fun _ _ z => z)
