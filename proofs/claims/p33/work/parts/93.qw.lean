/-! the Wars that are kept, in the law's array -/
def ArW (w : Wd) (l3 : Nat) (B : List WrT) : Prop := w.1[l3]? = some (.inr (.inr (1, 6))) ∧ 146 ≤ l3 ∧ B.length ≤ 6 ∧ ∀ j x, B[j]? = some x → w.2.1 l3 j = some x.1
theorem AR_kp {S : Nat → Prop} {w w' : Wd} {l3 : Nat} {B : List WrT} (h : ArW w l3 B) (k : Kp S w w') (hS : ¬ S l3) : ArW w' l3 B := by
  obtain ⟨h1, h2, h3, h4⟩ := h
  obtain ⟨a1, a2, a3⟩ := Kp_agr k (sh_len h1) hS
  exact ⟨a1.trans h1, h2, h3, fun j x hx => by rw [a2]; exact h4 j x hx⟩
theorem RS_l3 {w : Wd} {a l3 c : Nat} {L : Lay} {W : Wt} (h : WA w a L W) (hl : w.1[l3]? = some (.inr (.inr (1, 6)))) (hc : RS a L W c) : c ≠ l3 := by
  obtain ⟨s13, s14, s15, s16, s17, s18⟩ := WA_s h
  rcases hc with rfl | ⟨j, j1, j2, rfl⟩ | ⟨m, hm, rfl⟩ | ⟨i, hi, rfl⟩ | ⟨i, hi, rfl⟩ | hq
  · exact ne_sh (WA_r h).1 hl (by simp)
  · rcases (by omega : j = 13 ∨ j = 14 ∨ j = 15 ∨ j = 16 ∨ j = 17 ∨ j = 18) with rfl | rfl | rfl | rfl | rfl | rfl
    · exact ne_sh s13 hl (by simp)
    · exact ne_sh s14 hl (by simp)
    · exact ne_sh s15 hl (by simp)
    · exact ne_sh s16 hl (by simp)
    · exact ne_sh s17 hl (by simp)
    · exact ne_sh s18 hl (by simp)
  · exact ne_sh ((WA_m h).1 m hm).2.1 hl (by simp)
  · exact ne_sh ((WA_l h) i hi).2.1 hl (by simp)
  · exact ne_sh ((WA_o h) i hi).2.1 hl (by simp)
  · have h8 := WA_d h
    unfold WAd at h8
    rw [hq] at h8
    exact ne_sh h8.1 hl (by simp)
theorem WJ_ar {w w' : Wd} {W : Wt} {l : List WrT} {D l3 : Nat} (h : WJ w W l D) (hl : w.1[l3]? = some (.inr (.inr (1, 6)))) (k : Kp (fun c => c = l3) w w') (ho : OKs w') : WJ w' W l D := WJ_kp h k ho (fun x hx c hc z => RS_l3 (h.1 x hx).1.1 hl hc z)
/-- all but the first move on -/
def shR (ρ : Nat → Option Nat) (j : Nat) : Nat → Option Nat := fun i => if i + 1 < j then ρ (i + 1) else ρ i
theorem shR_s (ρ : Nat → Option Nat) (j : Nat) : oupd (shR ρ (j + 1)) j (ρ (j + 1)) = shR ρ (j + 2) := by
  funext i
  unfold oupd shR
  by_cases c : i = j
  · subst c
    rw [if_pos rfl, if_pos (by omega)]
  · rw [if_neg c]
    by_cases d : i + 1 < j + 1
    · rw [if_pos d, if_pos (by omega)]
    · rw [if_neg d, if_neg (by omega)]
theorem sh_loop {α : Type} {l3 : Nat} {ρ : Nat → Option Nat} {P : Wt} (T : Nat → Int32 → Dm α) (E : Dm α) (hT : ∀ F i, T (F + 1) i = (if 6 ≤ i then E else (dbind (dread (aald l3 i)) fun x2 => dbind (dput (aast l3 (i - 1) x2)) fun _ => T F (i + 1)))) (f : Nat → Nat) (hf : ∀ i, i < 6 → ρ i = some (f i)) : ∀ (d j F : Nat) (w : Wd), j + d = 5 → d < F → Kn w l3 (.inr (.inr (1, 6))) (shR ρ (j + 1)) P → (∀ i, i < 6 → w.1[f i]? = some (.inr (.inl 12))) → ∃ w', (T F (nI (j + 1))).1 w = E.1 w' ∧ Kn w' l3 (.inr (.inr (1, 6))) (shR ρ 6) P ∧ Kp (fun c => c = l3) w w' ∧ w'.1 = w.1 := by
  intro d
  induction d with
  | zero =>
    intro j F w hj hF hK hw
    obtain ⟨F, rfl⟩ : ∃ F', F = F' + 1 := ⟨F - 1, by omega⟩
    have e : j = 5 := by omega
    subst e
    exact ⟨w, by rw [hT, i_t (by decide)], hK, Kp_rf _ _, rfl⟩
  | succ d ih =>
    intro j F w hj hF hK hw
    obtain ⟨F, rfl⟩ : ∃ F', F = F' + 1 := ⟨F - 1, by omega⟩
    have rd : aald l3 (nI (j + 1)) w = some (f (j + 1)) := by
      unfold aald
      rw [hK.1]
      show (if nI (j + 1) < 0 ∨ 6 ≤ (nI (j + 1)).toNatClampNeg then none else w.2.1 l3 (nI (j + 1)).toNatClampNeg) = _
      rw [if_neg (nI_in (by omega) (by omega)), nI_clamp (by omega), hK.2.1]
      show (if j + 1 + 1 < j + 1 then _ else ρ (j + 1)) = _
      rw [if_neg (by omega), hf (j + 1) (by omega)]
    have e1 : nI (j + 1) - 1 = nI j := by rw [nI_succ, Int32.add_sub_cancel]
    have kw := Kp_wo w l3 (oupd (shR ρ (j + 1)) j (some (f (j + 1))))
    have K2 := Kn_wo hK (oupd (shR ρ (j + 1)) j (some (f (j + 1))))
    have es : oupd (shR ρ (j + 1)) j (some (f (j + 1))) = shR ρ (j + 1 + 1) := by rw [← hf (j + 1) (by omega)]; exact shR_s ρ j
    rw [es] at kw K2
    obtain ⟨w', q1, q2, q3, q4⟩ := ih (j + 1) F _ (by omega) (by omega) K2 hw
    refine ⟨w', ?_, q2, Kp_tr kw q3 (fun _ _ z => z), q4⟩
    rw [hT, i_f (by rw [show (6 : Int32) = nI 6 by decide, nn_le (by decide) (by omega)]; omega), b_rd rd, e1, b_ps hK (Or.inl ⟨rfl, hw (j + 1) (by omega)⟩) j (nI j) rfl (by omega) (by decide) (n := 0), es, ← nI_succ]
    exact q1
def pB (B : List WrT) (x : WrT) : List WrT := (if B.length = 6 then B.tail else B) ++ [x]
theorem pB_S (B : List WrT) (x : WrT) : (pB B x).map (fun y => y.2.2) = psh (B.map (fun y => y.2.2)) x.2.2 := by
  unfold pB psh
  rw [List.length_map]
  by_cases c : B.length = 6
  · rw [if_pos c, if_pos c, List.map_append, List.map_tail]
    rfl
  · rw [if_neg c, if_neg c, List.map_append]
    rfl
theorem pB_sub (B : List WrT) (x y : WrT) : (pB B x ++ [y]).Sublist (B ++ [x, y]) := by
  unfold pB
  rw [List.append_assoc]
  refine List.Sublist.append ?_ (List.Sublist.refl _)
  split
  · exact List.tail_sublist B
  · exact List.Sublist.refl _
theorem pB_len {B : List WrT} (h : B.length ≤ 6) (x : WrT) : (pB B x).length = (if B.length = 6 then 5 else B.length) + 1 ∧ (pB B x).length ≤ 6 := by
  unfold pB
  by_cases c : B.length = 6
  · rw [if_pos c, if_pos c, List.length_append, List.length_tail, c]
    exact ⟨rfl, by show 5 + 1 ≤ 6; omega⟩
  · rw [if_neg c, if_neg c, List.length_append]
    exact ⟨rfl, by show B.length + 1 ≤ 6; omega⟩
/-- addresses of what is kept -/
theorem AR_f {w : Wd} {l3 : Nat} {B : List WrT} (h : ArW w l3 B) : ∃ f : Nat → Nat, ∀ i, i < B.length → w.2.1 l3 i = some (f i) ∧ ∃ x, B[i]? = some x ∧ x.1 = f i := by
  refine ⟨fun i => ((w.2.1 l3 i).getD 0), fun i hi => ?_⟩
  have e : B[i]? = some B[i] := List.getElem?_eq_getElem hi
  have q := h.2.2.2 i _ e
  have e2 : ((w.2.1 l3 i).getD 0) = B[i].1 := by rw [q]; rfl
  exact ⟨by show w.2.1 l3 i = some ((w.2.1 l3 i).getD 0); rw [e2, q], B[i], e, e2.symm⟩
/-- one more is kept, after the shift -/
theorem AR_put {w : Wd} {l3 : Nat} {B' : List WrT} {x : WrT} {ρ : Nat → Option Nat} {P : Wt} (hK : Kn w l3 (.inr (.inr (1, 6))) ρ P) (h6 : B'.length + 1 ≤ 6) (hl : 146 ≤ l3) (hB : ∀ j y, B'[j]? = some y → ρ j = some y.1) (hx : w.1[x.1]? = some (.inr (.inl 12))) : ∃ w', (∀ (β : Type) (k : Unit → Dm β), (dbind (dput (aast l3 (nI B'.length) x.1)) k).1 w = (k ()).1 w') ∧ ArW w' l3 (B' ++ [x]) ∧ Kp (fun c => c = l3) w w' ∧ w'.1 = w.1 := by
  have kw := Kp_wo w l3 (oupd ρ B'.length (some x.1))
  have K2 := Kn_wo hK (oupd ρ B'.length (some x.1))
  refine ⟨wo w l3 (oupd ρ B'.length (some x.1)), fun β k => b_ps hK (Or.inl ⟨rfl, hx⟩) B'.length _ rfl (by omega) (by decide) (n := 0), ⟨K2.1, hl, by rw [List.length_append]; exact h6, fun j y hj => ?_⟩, kw, rfl⟩
  rw [K2.2.1]
  by_cases c : j < B'.length
  · rw [List.getElem?_append_left c] at hj
    rw [ou_ne (by omega)]
    exact hB j y hj
  · rw [List.getElem?_append_right (by omega)] at hj
    have e : j = B'.length := by
      have := (List.getElem?_eq_some_iff.mp hj).1
      simp at this
      omega
    subst e
    rw [Nat.sub_self] at hj
    have hj : x = y := Option.some.inj hj
    rw [ou_eq, hj]
/-- what holds between rounds -/
def LwI (w : Wd) (g : Mem) (a : Nat) (L : Lay) (W : Wt) (l3 : Nat) (B : List WrT) (D : Nat) : Prop := WJ w W (B ++ [(a, L, W)]) D ∧ ArW w l3 B ∧ Lw w g ∧ GS g W (B.map (fun y => y.2.2))
theorem LI_St {w : Wd} {g : Mem} {a l3 D : Nat} {L : Lay} {W : Wt} {B : List WrT} (h : LwI w g a L W l3 B D) : St w g a L := by
  obtain ⟨hv, -⟩ := WJ_last h.1
  refine ⟨hv.2.1, h.2.2.1.2, ?_, ?_⟩
  · rw [h.2.2.2.1]; exact hv.1
  · rw [h.2.2.2.1]; exact hv.2.2.2
theorem LI_same {w : Wd} {g : Mem} {a l3 D n : Nat} {L : Lay} {W : Wt} {B : List WrT} (h : LwI w g a L W l3 B D) (hR : Rm w (n + 1)) : ∃ w', (DX12_isSame a).1 w = some (1, w') ∧ LwI w' g a L W l3 B D ∧ Rm w' n := by
  obtain ⟨w', e1, s1, r1, k1⟩ := r_isSame (n := n) (LI_St h) hR
  refine ⟨w', e1, ⟨WJ_cl h.1 k1 s1.1, AR_kp h.2.1 k1 (by have := h.2.1.2.1; show ¬ l3 < 146; omega), ⟨s1.1, s1.2.1⟩, h.2.2.2⟩, r1⟩
/-- a round's end -/
theorem r_b1132 {w : Wd} {g : Mem} {a l3 D n SL r : Nat} {L : Lay} {W : Wt} {B : List WrT} (xs : Nat → Int32) (K : Nat → Nat → Int32 → Int32 → Dm Int32) (h : LwI w g a L W l3 B D) (hR : Rm w (n + 1)) : ∃ w', (DL_law_b1132 SL xs K a l3 (nI B.length) (nI r)).1 w = (K a l3 (nI B.length) (nI (r + 1))).1 w' ∧ LwI w' g a L W l3 B D ∧ Rm w' n := by
  obtain ⟨w', e1, h1, r1⟩ := LI_same h hR
  refine ⟨w', ?_, h1, r1⟩
  have e14 : FX11_look_0 14 w.2.2 = some (nI B.length) := by
    have q := s_look14 h.2.2.1.2
    rw [h.2.2.2.2.1.2.1, List.length_map] at q
    exact q
  have ia : isC a 12 w = some () := isC_s (WA_r (WJ_last h.1).1.1).1
  unfold DL_law_b1132
  rw [b_R h.2.2.1.1 e14, i_t rfl, b_rd ia, b_ok e1, i_f (by decide), ← nI_succ]
/-- the same, where something was done: what was before is kept -/
theorem r_push {w : Wd} {g : Mem} {a l3 D n SL r : Nat} {L : Lay} {W : Wt} {B : List WrT} {x : WrT} (xs : Nat → Int32) (K : Nat → Nat → Int32 → Int32 → Dm Int32) (hJ : WJ w W (B ++ [x, (a, L, W)]) D) (hA : ArW w l3 B) (hl : Lw w g) (hG : GS g W (psh (B.map (fun y => y.2.2)) x.2.2)) (hR : Rm w (n + 1)) : ∃ w' B', (DL_law_b1082 SL xs K a l3 (nI B.length) (nI r) x.1 1).1 w = (K a l3 (nI B'.length) (nI (r + 1))).1 w' ∧ LwI w' g a L W l3 B' D ∧ Rm w' n := by
  have hx : w.1[x.1]? = some (.inr (.inl 12)) := (WA_r (hJ.1 x (List.mem_append_right _ (List.mem_cons_self ..))).1.1).1
  have hJ' := WJ_sub hJ (pB_sub B x (a, L, W))
  have hlen := pB_len hA.2.2.1 x
  have nl : ¬ l3 < 146 := by have := hA.2.1; omega
  have K0 : Kn w l3 (.inr (.inr (1, 6))) (w.2.1 l3) (w.2.2 l3) := ⟨hA.1, rfl, rfl⟩
  -- then the end
  have fin : ∀ (w1 : Wd), w1.1 = w.1 → Kp (fun c => c = l3) w w1 → ArW w1 l3 (pB B x) → ∃ w' B', (DL_law_b1132 SL xs K a l3 (nI (pB B x).length) (nI r)).1 w1 = (K a l3 (nI B'.length) (nI (r + 1))).1 w' ∧ LwI w' g a L W l3 B' D ∧ Rm w' n := by
    intro w1 e1 k1 a1
    have hl1 := Lw_kp hl k1 (fun c hc z => by have z : c = l3 := z; omega)
    have hI : LwI w1 g a L W l3 (pB B x) D := ⟨WJ_ar hJ' hA.1 k1 hl1.1, a1, hl1, by rw [pB_S]; exact hG⟩
    obtain ⟨w', q1, q2, q3⟩ := r_b1132 (SL := SL) (r := r) xs K hI (Rm_e hR e1)
    exact ⟨w', _, q1, q2, q3⟩
  unfold DL_law_b1082
  rw [i_f (by decide)]
  by_cases c : B.length = 6
  · -- the first goes
    obtain ⟨f, hf⟩ := AR_f hA
    have hfw : ∀ i, i < 6 → w.1[f i]? = some (.inr (.inl 12)) := fun i hi => by
      obtain ⟨-, y, y1, y2⟩ := hf i (by omega)
      rw [← y2]
      exact (WA_r (hJ.1 y (List.mem_append_left _ (List.mem_of_getElem? y1))).1.1).1
    have e0 : shR (w.2.1 l3) 1 = w.2.1 l3 := by
      funext i
      unfold shR
      rw [if_neg (by omega)]
    obtain ⟨w1, q1, q2, q3, q4⟩ := sh_loop (fun F i => DL_law_L1097 SL xs K F a l3 (nI B.length) (nI r) x.1 i) (DL_law_b1123 SL xs K a l3 (nI B.length + (-1)) (nI r) x.1) (fun F i => rfl) f (fun i hi => (hf i (by omega)).1) 5 0 FU w (by omega) (by show _ < 10000; omega) (by rw [e0]; exact K0) hfw
    have tl : B.tail.length = 5 := by rw [List.length_tail, c]
    obtain ⟨w2, p1, p2, p3, p4⟩ := AR_put (B' := B.tail) (x := x) q2 (by omega) hA.2.1 (fun j y hj => by
      rw [List.getElem?_tail] at hj
      have hj1 : j + 1 < 6 := by have := (List.getElem?_eq_some_iff.mp hj).1; omega
      unfold shR
      rw [if_pos hj1]
      exact hA.2.2.2 (j + 1) y hj) (by rw [q4]; exact hx)
    have epB : pB B x = B.tail ++ [x] := by unfold pB; rw [if_pos c]
    obtain ⟨w', B', s1, s2, s3⟩ := fin w2 (p4.trans q4) (Kp_tr q3 p3 (fun _ _ z => z)) (by rw [epB]; exact p2)
    refine ⟨w', B', ?_, s2, s3⟩
    rw [i_t (by rw [c]; rfl)]
    refine q1.trans ?_
    have e5 : nI B.length + (-1) = nI B.tail.length := by rw [c, tl]; decide
    unfold DL_law_b1123
    rw [e5, p1, ← nI_succ]
    have e6 : B.tail.length + 1 = (pB B x).length := by rw [hlen.1, if_pos c, tl]
    rw [e6]
    exact s1
  · obtain ⟨w2, p1, p2, p3, p4⟩ := AR_put (B' := B) (x := x) K0 (by have := hA.2.2.1; omega) hA.2.1 hA.2.2.2 hx
    have epB : pB B x = B ++ [x] := by unfold pB; rw [if_neg c]
    obtain ⟨w', B', s1, s2, s3⟩ := fin w2 p4 p3 (by rw [epB]; exact p2)
    refine ⟨w', B', ?_, s2, s3⟩
    rw [i_f (by rw [show (6 : Int32) = nI 6 by decide, nn_eq (by have := hA.2.2.1; omega) (by omega)]; exact c)]
    unfold DL_law_b1123
    rw [p1, ← nI_succ]
    have e6 : B.length + 1 = (pB B x).length := by rw [hlen.1, if_neg c]
    rw [e6]
    exact s1
theorem r_nop {w : Wd} {g : Mem} {a l3 D n SL r : Nat} {L : Lay} {W : Wt} {B : List WrT} (xs : Nat → Int32) (K : Nat → Nat → Int32 → Int32 → Dm Int32) (q : Nat) (h : LwI w g a L W l3 B D) (hR : Rm w (n + 1)) : ∃ w', (DL_law_b1082 SL xs K a l3 (nI B.length) (nI r) q 0).1 w = (K a l3 (nI B.length) (nI (r + 1))).1 w' ∧ LwI w' g a L W l3 B D ∧ Rm w' n := by
  unfold DL_law_b1082
  rw [i_t rfl]
  exact r_b1132 xs K h hR
