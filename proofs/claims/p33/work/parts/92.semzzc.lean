/-! a line of THE LAW, both sides -/
abbrev pxS : Type := Sum (Nat × Nat) (Nat × pxT × pxT)
def pxEnd (K : Nat → Nat) (j : Nat) (o1 o2 : pxT) : pxS := if K j = 59 then .inr (j + 1, o1, o2) else .inl (1, j)
def pxWhen (K V : Nat → Nat) (j : Nat) (o1 : pxT) : pxS :=
  if K j = 260 then (match pxAny K (fun i o => pxOne K V 8 i o) (j + 1) o1 with
    | .inl e => .inl e
    | .inr q => pxEnd K q.1 o1 q.2) else pxEnd K j o1 o1
def pxLine (K V : Nat → Nat) (L i : Nat) (o : pxT) : pxS :=
  if 256 ≤ K i ∧ K i ≤ 259 then (if L = 16 then .inl (3, i) else (match pxSum K V (i + 1) o with
    | .inl e => .inl e
    | .inr q => pxWhen K V q.1 q.2)) else .inl (1, i)
def txL (u0 u : Mem) : Prop := (∀ c, c < 34 ∨ (34 < c ∧ c < 39) ∨ 44 < c → u c = u0 c) ∧ ∀ x, x ≠ 9 → x ≠ 10 → x ≠ 11 → x ≠ 13 → x ≠ 14 → u 34 x = u0 34 x
theorem txL_r (u : Mem) : txL u u := ⟨fun _ _ => rfl, fun _ _ _ _ _ _ => rfl⟩
theorem txL_t {u u1 u2 : Mem} (h : txL u u1) (h' : txL u1 u2) : txL u u2 := ⟨fun c a => (h'.1 c a).trans (h.1 c a), fun x a b c d e => (h'.2 x a b c d e).trans (h.2 x a b c d e)⟩
theorem txL_G {u u' : Mem} (h : txG u u') : txL u u' := ⟨fun c a => h.1 c (by omega) (by omega) (by omega), fun x a b _ c d => h.2.1 x a b c d⟩
theorem txL_c {u : Mem} {c k : Nat} (x : Int32) (h : 39 ≤ c ∧ c ≤ 44) : txL u (mupd u c k x) := ⟨fun y hy => m_ne (by omega), fun y _ _ _ _ _ => by rw [m_ne (by omega)]⟩
theorem txL_11 {u : Mem} (x : Int32) : txL u (mupd u 34 11 x) := ⟨fun y hy => m_ne (by omega), fun y _ _ h _ _ => by rw [m_eq, up_ne h]⟩
/-- dead, with the wider bounds of a line -/
def lSim (u : Mem) (a : Option Mem) : Prop := ∃ u', a = some u' ∧ txL u u' ∧ u' 34 10 = u 34 10 ∧ u' 34 13 = u 34 13 ∧ u' 34 14 = u 34 14
theorem lSim_d {u : Mem} {a : Option Mem} (h : txD u) (d : dSim u a) : lSim u a := by
  obtain ⟨u', e, g, a, b, c⟩ := d
  exact ⟨u', e, txL_G g, by rw [a, h.1], b, c⟩
theorem lSim_b {u : Mem} {a : Option Mem} {f : Mem → Option Mem} (hD : txD u) (h : lSim u a) (hf : ∀ u', txD u' → lSim u' (f u')) : lSim u (a.bind f) := by
  obtain ⟨u1, e1, g1, k1, k2, k3⟩ := h
  obtain ⟨u2, e2, g2, m1, m2, m3⟩ := hf u1 ⟨by rw [k1]; exact hD.1, by rw [k2]; exact hD.2⟩
  exact ⟨u2, by rw [e1, b_some, e2], txL_t g1 g2, by rw [m1, k1], by rw [m2, k2], by rw [m3, k3]⟩
theorem lSim_r (u : Mem) : lSim u (some u) := ⟨u, rfl, txL_r u, rfl, rfl, rfl⟩
theorem lSim_e {u u' : Mem} (h : txL u u') (e : u' 34 = u 34) : lSim u (some u') := ⟨u', rfl, h, by rw [e], by rw [e], by rw [e]⟩
/-- a guard of the class: is it a place among sixteen -/
theorem g16 (x : Int32) : (x < 0 ∨ 16 ≤ x) ∨ ∃ j, j < 16 ∧ x = nI j := by
  by_cases c1 : x < 0
  · exact Or.inl (Or.inl c1)
  · obtain ⟨j, hj, e⟩ := nI_of c1
    by_cases c2 : (16 : Int32) ≤ x
    · exact Or.inl (Or.inr c2)
    · refine Or.inr ⟨j, ?_, e⟩
      rw [e, li_le (by decide) hj] at c2
      have c2 : ¬ 16 ≤ j := c2
      omega
theorem l16 {j : Nat} (h : j < 16) : ¬ (16 : Int32) ≤ nI j := by rw [li_le (by decide) (by omega)]; show ¬ 16 ≤ j; omega
theorem d_bl (u : Mem) (w : Int32) : lSim u (FX4_beginLine_39 w u) := by
  unfold FX4_beginLine_39
  rcases g16 (u 39 7) with (h | h) | ⟨j, hj, e⟩
  · rw [if_pos h]; exact lSim_r u
  · rw [if_pos h, ite_self]; exact lSim_r u
  · rw [e, if_neg (nI_pos (by omega)), if_neg (l16 hj), wb (by omega) (by omega), m_ne (show 39 ≠ 41 by decide), e, wb (by omega) (by omega)]
    exact lSim_e (txL_t (txL_c _ (by omega)) (txL_c _ (by omega))) (by rw [m_ne (by decide), m_ne (by decide)])
theorem d_bw (u : Mem) : lSim u (FX4_beginWhen_39 u) := by
  unfold FX4_beginWhen_39
  rcases g16 (u 39 7) with (h | h) | ⟨j, hj, e⟩
  · rw [if_pos h]; exact lSim_r u
  · rw [if_pos h, ite_self]; exact lSim_r u
  · rw [e, if_neg (nI_pos (by omega)), if_neg (l16 hj), wb (by omega) (by omega)]
    exact lSim_e (txL_c _ (by omega)) (by rw [m_ne (by decide)])
theorem d_el (u : Mem) : lSim u (FX4_endLine_39 u) := by
  unfold FX4_endLine_39
  rcases g16 (u 39 7) with (h | h) | ⟨j, hj, e⟩
  · rw [if_pos h]; exact lSim_r u
  · rw [if_pos h, ite_self]; exact lSim_r u
  · rw [e, if_neg (nI_pos (by omega)), if_neg (l16 hj), wb (by omega) (by omega), b_some]
    exact lSim_e (txL_t (txL_c _ (by omega)) (txL_c _ (by omega))) (by rw [m_ne (by decide), m_ne (by decide)])
theorem d_b64 {u : Mem} (h : txD u) : lSim u (FX6_lawLine_34_b64 u) := by
  unfold FX6_lawLine_34_b64
  rw [c_needD h (by decide), b_some]
  refine lSim_b h (d_el u) (fun u1 h1 => ?_)
  rw [b_some]
  exact ⟨_, rfl, txL_11 _, by rw [m_eq, up_ne (by decide)], by rw [m_eq, up_ne (by decide)], by rw [m_eq, up_ne (by decide)]⟩
theorem d_wh {u : Mem} (h : txD u) : lSim u (bnd2 (FX6_take_34 260 u) fun x9 u10 => (if x9 = 0 then (FX6_lawLine_34_b64 u10) else ((FX6_condition_34 DFU 0 u10).bind fun u13 => FX6_lawLine_34_b64 u13))) := by
  rw [c_takeD h (by decide), b2_some, if_pos rfl]
  exact d_b64 h
theorem d_sw {u : Mem} (h : txD u) : lSim u ((FX6_sum_34 u).bind fun u6 => (FX4_beginWhen_39 u6).bind fun u8 => bnd2 (FX6_take_34 260 u8) fun x9 u10 => (if x9 = 0 then (FX6_lawLine_34_b64 u10) else ((FX6_condition_34 DFU 0 u10).bind fun u13 => FX6_lawLine_34_b64 u13))) :=
  lSim_b h (lSim_d h (d_sum h)) (fun u1 h1 => lSim_b h1 (d_bw u1) (fun u2 h2 => d_wh h2))
/-- what a line of the class is -/
def cLn (K V Q : Nat → Nat) (N L i : Nat) (o : pxT) (u0 : Mem) (r : pxS) (a : Option Mem) : Prop :=
  ∃ u', a = some u' ∧ txL u0 u' ∧ match r with
  | .inl q => txX Q q.1 q.2 u' ∧ q.1 ≠ 0 ∧ q.1 < 4
  | .inr q => i < q.1 ∧ txA K V Q N q.1 u' ∧ txC q.2.2 u' ∧ encL q.2.2 ≤ q.1 ∧ u' 34 11 = nI (L + 1) ∧ u' 39 7 = nI (L + 1) ∧ u' 41 L = nI (K i - 256) ∧ u' 42 L = nI (encL o) ∧ u' 43 L = nI (encL q.2.1) ∧ u' 44 L = nI (encL q.2.2) ∧ ∀ c x, 41 ≤ c → c ≤ 44 → x ≠ L → u' c x = u0 c x
theorem cLn_d {K V Q : Nat → Nat} {N : Nat} {L i f x : Nat} {o : pxT} {u0 u1 : Mem} {a : Option Mem} (hf : f ≠ 0) (hf4 : f < 4) (g : txL u0 u1) (h : txX Q f x u1) (hd : lSim u1 a) : cLn K V Q N L i o u0 (.inl (f, x)) a := by
  obtain ⟨u2, e2, g2, m1, m2, m3⟩ := hd
  exact ⟨u2, e2, txL_t g g2, ⟨by rw [m1]; exact h.1, by rw [m2]; exact h.2.1, by rw [m3]; exact h.2.2⟩, hf, hf4⟩
theorem c_b64 {K V Q : Nat → Nat} {N : Nat} (hZ : pxZ K V N) {L i j : Nat} {o o1 o2 : pxT} {u0 u : Mem} (hL : L < 16) (hij : i < j) (hA : txA K V Q N j u) (hC : txC o2 u) (hle : encL o2 ≤ j) (hG : txL u0 u) (h11 : u 34 11 = nI L) (h7 : u 39 7 = nI L) (h41 : u 41 L = nI (K i - 256)) (h42 : u 42 L = nI (encL o)) (h43 : u 43 L = nI (encL o1)) (hx : ∀ c x, 41 ≤ c → c ≤ 44 → x ≠ L → u c x = u0 c x) : cLn K V Q N L i o u0 (pxEnd K j o1 o2) (FX6_lawLine_34_b64 u) := by
  have hN := hZ.1.1
  have hj := hA.2.1
  unfold pxEnd
  by_cases c : K j = 59
  · have hjN := hZ.1.2 j hj (by omega)
    have hA1 := txGo_A (j := j + 1) hA (by omega)
    have hC1 := txGo_C (K := K) (j := j + 1) hC
    have g1 := txGo_G K u (j + 1)
    have e7 : (txGo K u (j + 1)) 39 7 = nI L := by rw [g1.2.2 7 (by decide)]; exact h7
    have e11 : (txGo K u (j + 1)) 34 11 = nI L := by rw [g1.2.1 11 (by decide) (by decide) (by decide) (by decide)]; exact h11
    have oth : ∀ c, c ≠ 34 → (txGo K u (j + 1)) c = u c := fun c hc => by unfold txGo; rw [m_ne hc, m_ne hc]
    have ex : FX6_lawLine_34_b64 u = some (mupd (mupd (mupd (txGo K u (j + 1)) 44 L (nI (encL o2))) 39 7 (nI (L + 1))) 34 11 (nI (L + 1))) := by
      unfold FX6_lawLine_34_b64 FX4_endLine_39
      rw [c_needY hZ hA (nk c) (by omega), b_some, e7, if_neg (nI_pos (by omega)), if_neg (l16 hL), hC1.1, wb (by omega) (by omega), b_some, b_some, m_ne (show 39 ≠ 44 by decide), e7, nI_1, b_some, m_ne (show 34 ≠ 39 by decide), m_ne (show 34 ≠ 44 by decide), e11, nI_1]
    rw [if_pos c, ex]
    have fin : txL (txGo K u (j + 1)) (mupd (mupd (mupd (txGo K u (j + 1)) 44 L (nI (encL o2))) 39 7 (nI (L + 1))) 34 11 (nI (L + 1))) := txL_t (txL_c _ (by omega)) (txL_t (txL_c _ (by omega)) (txL_11 _))
    refine ⟨_, rfl, txL_t hG (txL_t (txL_G g1) fin), by show i < j + 1; omega, ?_, ?_, by show encL o2 ≤ j + 1; omega, by rw [m_eq, up_eq], by rw [m_ne (by decide), m_eq, up_eq], ?_, ?_, ?_, ?_, ?_⟩
    · refine ⟨?_, hA1.2.1, ?_, ?_, ?_⟩
      · unfold txT
        rw [fin.2 8 (by decide) (by decide) (by decide) (by decide) (by decide), fin.1 36 (by omega), fin.1 37 (by omega), fin.1 38 (by omega)]
        exact hA1.1
      · rw [m_eq, up_ne (by decide), m_ne (by decide), m_ne (by decide)]; exact hA1.2.2.1
      · rw [m_eq, up_ne (by decide), m_ne (by decide), m_ne (by decide)]; exact hA1.2.2.2.1
      · rw [m_eq, up_ne (by decide), up_ne (by decide), m_ne (by decide), m_ne (by decide)]; exact hA1.2.2.2.2
    · unfold txC
      rw [m_ne (by decide), m_eq, up_ne (by decide), m_ne (by decide), m_ne (by decide), m_ne (by decide), m_ne (by decide)]
      exact hC1
    · rw [m_ne (by decide), m_ne (by decide), m_ne (by decide), oth 41 (by decide)]; exact h41
    · rw [m_ne (by decide), m_ne (by decide), m_ne (by decide), oth 42 (by decide)]; exact h42
    · rw [m_ne (by decide), m_ne (by decide), m_ne (by decide), oth 43 (by decide)]; exact h43
    · rw [m_ne (by decide), m_ne (by decide), m_eq, up_eq]
    · intro c x h1 h2 hxL
      rw [m_ne (by omega), m_ne (by omega)]
      by_cases e : c = 44
      · rw [e, m_eq, up_ne hxL, oth 44 (by decide), ← e]; exact hx c x h1 h2 hxL
      · rw [m_ne e, oth c (by omega)]; exact hx c x h1 h2 hxL
  · obtain ⟨u1, e1, g1, x1⟩ := c_needN hN hA (nkn (hZ.2.2 j) (by decide) c)
    have hD : txD u1 := ⟨x1.1, by rw [x1.2.1]; exact nI_f (by decide) (by decide)⟩
    rw [if_neg c]
    have := d_b64 hD
    unfold FX6_lawLine_34_b64 at this ⊢
    rw [c_needD hD (by decide), b_some] at this
    rw [e1, b_some]
    exact cLn_d (by decide) (by decide) (txL_t hG (txL_G g1)) x1 this
theorem c_line {K V Q : Nat → Nat} {N : Nat} (hZ : pxZ K V N) {L i : Nat} {o : pxT} {u : Mem} (hL : L ≤ 16) (hA : txA K V Q N i u) (hC : txC o u) (hle : encL o ≤ i) (h11 : u 34 11 = nI L) (h7 : u 39 7 = nI L) : cLn K V Q N L i o u (pxLine K V L i o) (FX6_lawLine_34 u) := by
  have hN := hZ.1.1
  have hKi := hZ.2.2 i
  have rest : ∀ u1, txD u1 → lSim u1 ((FX4_beginLine_39 (u 34 10 - 256) u1).bind fun u4 => (FX6_sum_34 u4).bind fun u6 => (FX4_beginWhen_39 u6).bind fun u8 => bnd2 (FX6_take_34 260 u8) fun x9 u10 => (if x9 = 0 then (FX6_lawLine_34_b64 u10) else ((FX6_condition_34 DFU 0 u10).bind fun u13 => FX6_lawLine_34_b64 u13))) := fun u1 h1 => lSim_b h1 (d_bl u1 _) (fun u2 h2 => d_sw h2)
  unfold pxLine
  by_cases c : 256 ≤ K i ∧ K i ≤ 259
  · have hiN := hZ.1.2 i hA.2.1 (by omega)
    have e256 : u 34 10 - 256 = nI (K i - 256) := by rw [hA.2.2.2.1]; exact sub_li (k := 256) (by show 256 ≤ K i; omega)
    have ex : FX6_lawLine_34 u = FX6_lawLine_34_b27 (u 34 10 - 256) (nI (K i)) u := by
      unfold FX6_lawLine_34
      rw [e256, if_neg (nI_pos (by omega)), if_pos (by rw [le_li (by decide) (by omega)]; show K i - 256 ≤ 3; omega), hA.2.2.2.1]
    rw [ex, if_pos c]
    unfold FX6_lawLine_34_b27 FX6_beginLine_34 FX6_beginLine_34_b25
    rw [hA.2.2.2.1, if_pos rfl, h11]
    by_cases cL : L = 16
    · rw [if_pos cL, if_pos (show nI L = 16 by rw [cL]; decide)]
      obtain ⟨u1, e1, g1, x1⟩ := c_fail hN hA 3
      have e1 : FX6_fail_34 3 u = some u1 := e1
      have hD : txD u1 := ⟨x1.1, by rw [x1.2.1]; exact nI_f (by decide) (by decide)⟩
      rw [e1, b_some, b_some, ← hA.2.2.2.1]
      exact cLn_d (by decide) (by decide) (txL_G g1) x1 (rest u1 hD)
    · rw [if_neg cL, if_neg (by rw [eq_li (by decide) (by omega)]; exact cL), c_needY hZ hA rfl (by omega), b_some, b_some]
      have hA1 := txGo_A (j := i + 1) hA (by omega)
      have hC1 := txGo_C (K := K) (j := i + 1) hC
      have g1 := txGo_G K u (i + 1)
      have oth : ∀ c, c ≠ 34 → (txGo K u (i + 1)) c = u c := fun c hc => by unfold txGo; rw [m_ne hc, m_ne hc]
      have e7 : (txGo K u (i + 1)) 39 7 = nI L := by rw [oth 39 (by decide)]; exact h7
      have ebl : FX4_beginLine_39 (nI (K i) - 256) (txGo K u (i + 1)) = some (mupd (mupd (txGo K u (i + 1)) 41 L (nI (K i - 256))) 42 L (nI (encL o))) := by
        have e2 : nI (K i) - 256 = nI (K i - 256) := by rw [← hA.2.2.2.1]; exact e256
        unfold FX4_beginLine_39
        rw [e7, if_neg (nI_pos (by omega)), if_neg (l16 (by omega)), e2, wb (by omega) (by omega), m_ne (show 39 ≠ 41 by decide), e7, hC1.1, wb (by omega) (by omega)]
      rw [ebl, b_some]
      -- what stands behind the beginning
      have gB : txL (txGo K u (i + 1)) (mupd (mupd (txGo K u (i + 1)) 41 L (nI (K i - 256))) 42 L (nI (encL o))) := txL_t (txL_c _ (by omega)) (txL_c _ (by omega))
      have b34 : (mupd (mupd (txGo K u (i + 1)) 41 L (nI (K i - 256))) 42 L (nI (encL o))) 34 = (txGo K u (i + 1)) 34 := by rw [m_ne (by decide), m_ne (by decide)]
      have b39 : (mupd (mupd (txGo K u (i + 1)) 41 L (nI (K i - 256))) 42 L (nI (encL o))) 39 = u 39 := by rw [m_ne (by decide), m_ne (by decide), oth 39 (by decide)]
      have b40 : (mupd (mupd (txGo K u (i + 1)) 41 L (nI (K i - 256))) 42 L (nI (encL o))) 40 = u 40 := by rw [m_ne (by decide), m_ne (by decide), oth 40 (by decide)]
      have b41 : (mupd (mupd (txGo K u (i + 1)) 41 L (nI (K i - 256))) 42 L (nI (encL o))) 41 L = nI (K i - 256) := by rw [m_ne (by decide), m_eq, up_eq]
      have b42 : (mupd (mupd (txGo K u (i + 1)) 41 L (nI (K i - 256))) 42 L (nI (encL o))) 42 L = nI (encL o) := by rw [m_eq, up_eq]
      have bx : ∀ c x, 41 ≤ c → c ≤ 44 → x ≠ L → (mupd (mupd (txGo K u (i + 1)) 41 L (nI (K i - 256))) 42 L (nI (encL o))) c x = u c x := fun c x h1 h2 hx => by
        by_cases e2 : c = 42
        · rw [e2, m_eq, up_ne hx, m_ne (by decide), oth 42 (by decide)]
        · rw [m_ne e2]
          by_cases e3 : c = 41
          · rw [e3, m_eq, up_ne hx, oth 41 (by decide)]
          · rw [m_ne e3, oth c (by omega)]
      generalize (mupd (mupd (txGo K u (i + 1)) 41 L (nI (K i - 256))) 42 L (nI (encL o))) = ub at gB b34 b39 b40 b41 b42 bx
      have hAb : txA K V Q N (i + 1) ub := by
        refine ⟨?_, hA1.2.1, by rw [b34]; exact hA1.2.2.1, by rw [b34]; exact hA1.2.2.2.1, by rw [b34]; exact hA1.2.2.2.2⟩
        unfold txT
        rw [b34, gB.1 36 (by omega), gB.1 37 (by omega), gB.1 38 (by omega)]
        exact hA1.1
      have hCb : txC o ub := by unfold txC; rw [b39, b40]; exact hC
      have hGb : txL u ub := txL_t (txL_G g1) gB
      have b11 : ub 34 11 = nI L := by rw [b34, g1.2.1 11 (by decide) (by decide) (by decide) (by decide)]; exact h11
      have b7 : ub 39 7 = nI L := by rw [b39]; exact h7
      have hs := c_sum hZ hAb hCb (show encL o ≤ i + 1 by omega)
      have hg := gSum (V := V) hZ.1 (show i + 1 ≤ N by omega) o
      match pxSum K V (i + 1) o, hg, hs with
      | .inl q, hg, ⟨u2, e2, g2, x2⟩ =>
        have hD : txD u2 := ⟨x2.1, by rw [x2.2.1]; exact nI_f hg.2.1 hg.2.2⟩
        rw [e2, b_some]
        exact cLn_d hg.2.1 hg.2.2 (txL_t hGb (txL_G g2)) x2 (lSim_b hD (d_bw u2) (fun u3 h3 => d_wh h3))
      | .inr (j, o1), hg, ⟨u2, e2, g2, hA2, hC2, hl2⟩ =>
        obtain ⟨k1, k2, k3⟩ := hg
        dsimp only at k1 k2 k3 hA2 hC2 hl2
        rw [e2, b_some]
        have n7 : u2 39 7 = nI L := by rw [g2.2.2 7 (by decide)]; exact b7
        have ebw : FX4_beginWhen_39 u2 = some (mupd u2 43 L (nI (encL o1))) := by
          unfold FX4_beginWhen_39
          rw [n7, if_neg (nI_pos (by omega)), if_neg (l16 (by omega)), hC2.1, wb (by omega) (by omega)]
        rw [ebw, b_some]
        have gW : txL u2 (mupd u2 43 L (nI (encL o1))) := txL_c _ (by omega)
        have w34 : (mupd u2 43 L (nI (encL o1))) 34 = u2 34 := m_ne (by decide)
        have w39 : (mupd u2 43 L (nI (encL o1))) 39 = u2 39 := m_ne (by decide)
        have w40 : (mupd u2 43 L (nI (encL o1))) 40 = u2 40 := m_ne (by decide)
        have w41 : (mupd u2 43 L (nI (encL o1))) 41 L = nI (K i - 256) := by rw [m_ne (by decide), g2.1 41 (by decide) (by decide) (by decide)]; exact b41
        have w42 : (mupd u2 43 L (nI (encL o1))) 42 L = nI (encL o) := by rw [m_ne (by decide), g2.1 42 (by decide) (by decide) (by decide)]; exact b42
        have w43 : (mupd u2 43 L (nI (encL o1))) 43 L = nI (encL o1) := by rw [m_eq, up_eq]
        have wx : ∀ c x, 41 ≤ c → c ≤ 44 → x ≠ L → (mupd u2 43 L (nI (encL o1))) c x = u c x := fun c x h1 h2 hx => by
          by_cases e3 : c = 43
          · rw [e3, m_eq, up_ne hx, g2.1 43 (by decide) (by decide) (by decide), ← e3]; exact bx c x h1 h2 hx
          · rw [m_ne e3, g2.1 c (by omega) (by omega) (by omega)]; exact bx c x h1 h2 hx
        generalize (mupd u2 43 L (nI (encL o1))) = uw at gW w34 w39 w40 w41 w42 w43 wx
        have hAw : txA K V Q N j uw := by
          refine ⟨?_, hA2.2.1, by rw [w34]; exact hA2.2.2.1, by rw [w34]; exact hA2.2.2.2.1, by rw [w34]; exact hA2.2.2.2.2⟩
          unfold txT
          rw [w34, gW.1 36 (by omega), gW.1 37 (by omega), gW.1 38 (by omega)]
          exact hA2.1
        have hCw : txC o1 uw := by unfold txC; rw [w39, w40]; exact hC2
        have hGw : txL u uw := txL_t hGb (txL_t (txL_G g2) gW)
        have x11 : uw 34 11 = nI L := by rw [w34, g2.2.1 11 (by decide) (by decide) (by decide) (by decide)]; exact b11
        have x7 : uw 39 7 = nI L := by rw [w39]; exact n7
        show cLn K V Q N L i o u (pxWhen K V j o1) _
        unfold pxWhen
        by_cases c2 : K j = 260
        · have hjN := hZ.1.2 j k2 (by omega)
          rw [if_pos c2, c_takeY hZ hAw (nk c2) (by omega), b2_some, if_neg z1]
          have hA3 := txGo_A (j := j + 1) hAw (by omega)
          have hC3 := txGo_C (K := K) (j := j + 1) hCw
          have g3 := txGo_G K uw (j + 1)
          have hcd := c_cond (Q := Q) hZ 8 0 DFU (by decide) (by decide)
          have hs3 := hcd.1 (j + 1) o1 _ hA3 hC3 (by omega)
          have hg3 := gAny hZ.1 (one := fun i o => pxOne K V 8 i o) (fun i o hi => gOne hZ.1 8 i o hi) (show j + 1 ≤ N by omega) o1
          rw [nI_0] at hs3
          have e80 : (8 - 0 : Nat) = 8 := rfl
          rw [e80] at hs3
          match pxAny K (fun i o => pxOne K V 8 i o) (j + 1) o1, hg3, hs3 with
          | .inl q, hg3, ⟨u4, e4, g4, x4⟩ =>
            have hD : txD u4 := ⟨x4.1, by rw [x4.2.1]; exact nI_f hg3.2.1 hg3.2.2⟩
            rw [e4, b_some]
            exact cLn_d hg3.2.1 hg3.2.2 (txL_t hGw (txL_t (txL_G g3) (txL_G g4))) x4 (d_b64 hD)
          | .inr (m, o2), hg3, ⟨u4, e4, g4, hA4, hC4, hl4⟩ =>
            obtain ⟨q1, q2, q3⟩ := hg3
            dsimp only at q1 q2 q3 hA4 hC4 hl4
            rw [e4, b_some]
            have o4 : ∀ c, 41 ≤ c → c ≤ 44 → u4 c = uw c := fun c h1 h2 => by rw [g4.1 c (by omega) (by omega) (by omega), g3.1 c (by omega) (by omega) (by omega)]
            exact c_b64 hZ (by omega) (by omega) hA4 hC4 hl4 (txL_t hGw (txL_t (txL_G g3) (txL_G g4))) (by rw [g4.2.1 11 (by decide) (by decide) (by decide) (by decide), g3.2.1 11 (by decide) (by decide) (by decide) (by decide)]; exact x11) (by rw [g4.2.2 7 (by decide), g3.2.2 7 (by decide)]; exact x7) (by rw [o4 41 (by omega) (by omega)]; exact w41) (by rw [o4 42 (by omega) (by omega)]; exact w42) (by rw [o4 43 (by omega) (by omega)]; exact w43) (fun c x h1 h2 hx => by rw [o4 c h1 h2]; exact wx c x h1 h2 hx)
        · rw [if_neg c2, c_takeN hAw (nkn (hZ.2.2 j) (by decide) c2), b2_some, if_pos rfl]
          exact c_b64 hZ (by omega) (by omega) hAw hCw hl2 hGw x11 x7 w41 w42 w43 wx
  · rw [if_neg c]
    have hne : ¬ nI (K i) = -1 := nI_m1 (by omega)
    have ex : FX6_lawLine_34 u = FX6_lawLine_34_b27 (u 34 10 - 256) (-1) u := by
      unfold FX6_lawLine_34
      by_cases c1 : K i < 256
      · rw [if_pos]
        rw [hA.2.2.2.1, Int32.lt_iff_toInt_lt, show (256 : Int32) = nI 256 by decide, nI_subI (by omega) (by decide)]
        have h2 : (0 : Int32).toInt = 0 := by decide
        rw [h2]; omega
      · have e2 : u 34 10 - 256 = nI (K i - 256) := by rw [hA.2.2.2.1]; exact sub_li (k := 256) (by show 256 ≤ K i; omega)
        rw [e2, if_neg (nI_pos (by omega)), if_neg (by rw [le_li (by decide) (by omega)]; show ¬ K i - 256 ≤ 3; omega)]
    rw [ex]
    unfold FX6_lawLine_34_b27 FX6_beginLine_34 FX6_beginLine_34_b25
    obtain ⟨u1, e1, g1, x1⟩ := c_needN hN hA hne
    have hD : txD u1 := ⟨x1.1, by rw [x1.2.1]; exact nI_f (by decide) (by decide)⟩
    have r1 := rest u1 hD
    rw [hA.2.2.2.1] at r1 ⊢
    rw [if_neg hne, e1, b_some, b_some]
    exact cLn_d (by decide) (by decide) (txL_G g1) x1 r1

