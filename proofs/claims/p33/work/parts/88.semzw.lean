/-! the class reads: what stands, what is dead -/
def txT (K V Q : Nat → Nat) (N : Nat) (u : Mem) : Prop := u 34 8 = nI (N + 1) ∧ ∀ j, j ≤ N → u 36 j = nI (K j) ∧ u 37 j = nI (Q j) ∧ (K j = 1 → u 38 j = nI (V j))
def txA (K V Q : Nat → Nat) (N i : Nat) (u : Mem) : Prop := txT K V Q N u ∧ i ≤ N ∧ u 34 9 = nI i ∧ u 34 10 = nI (K i) ∧ (u 34 13 = 0 ∧ u 34 14 = -1)
def txC (o : pxT) (u : Mem) : Prop := u 39 6 = nI (encL o) ∧ encAt (u 40) 0 o
def txG (u0 u : Mem) : Prop := (∀ c, c ≠ 34 → c ≠ 39 → c ≠ 40 → u c = u0 c) ∧ (∀ x, x ≠ 9 → x ≠ 10 → x ≠ 13 → x ≠ 14 → u 34 x = u0 34 x) ∧ ∀ x, x ≠ 6 → u 39 x = u0 39 x
def txX (Q : Nat → Nat) (f x : Nat) (u : Mem) : Prop := u 34 10 = 0 ∧ u 34 13 = nI f ∧ u 34 14 = nI (Q x)
def txD (u : Mem) : Prop := u 34 10 = 0 ∧ ¬ u 34 13 = 0
def txP (u u' : Mem) : Prop := (∀ c, c ≠ 39 → c ≠ 40 → u' c = u c) ∧ ∀ x, x ≠ 6 → u' 39 x = u 39 x
def pxZ (K V : Nat → Nat) (N : Nat) : Prop := pxK K N ∧ pxV K V ∧ ∀ x, K x < 1000
def cSim (K V Q : Nat → Nat) (N : Nat) (u0 : Mem) (r : pxR) (a : Option Mem) : Prop :=
  ∃ u', a = some u' ∧ txG u0 u' ∧ match r with
  | .inl q => txX Q q.1 q.2 u'
  | .inr q => txA K V Q N q.1 u' ∧ txC q.2 u' ∧ encL q.2 ≤ q.1
def dSim (u : Mem) (a : Option Mem) : Prop := ∃ u', a = some u' ∧ txG u u' ∧ u' 34 10 = 0 ∧ u' 34 13 = u 34 13 ∧ u' 34 14 = u 34 14
theorem txG_r (u : Mem) : txG u u := ⟨fun _ _ _ _ => rfl, fun _ _ _ _ _ => rfl, fun _ _ => rfl⟩
theorem txG_t {u u1 u2 : Mem} (h : txG u u1) (h' : txG u1 u2) : txG u u2 := ⟨fun c a b d => (h'.1 c a b d).trans (h.1 c a b d), fun x a b c d => (h'.2.1 x a b c d).trans (h.2.1 x a b c d), fun x a => (h'.2.2 x a).trans (h.2.2 x a)⟩
theorem txG_P {u u' : Mem} (h : txP u u') : txG u u' := ⟨fun c _ b d => h.1 c b d, fun x _ _ _ _ => by rw [h.1 34 (by decide) (by decide)], h.2⟩
theorem txG_34 {u : Mem} {j : Nat} (x : Int32) (h : j = 9 ∨ j = 10 ∨ j = 13 ∨ j = 14) : txG u (mupd u 34 j x) := ⟨fun c a _ _ => m_ne a, fun y a b c d => by rw [m_eq, up_ne (by omega)], fun y _ => by rw [m_ne (by decide)]⟩
theorem txT_G {K V Q : Nat → Nat} {N : Nat} {u u' : Mem} (h : txT K V Q N u) (g : txG u u') : txT K V Q N u' := by
  unfold txT
  rw [g.2.1 8 (by decide) (by decide) (by decide) (by decide), g.1 36 (by decide) (by decide) (by decide), g.1 37 (by decide) (by decide) (by decide), g.1 38 (by decide) (by decide) (by decide)]
  exact h
theorem txA_P {K V Q : Nat → Nat} {N : Nat} {i : Nat} {u u' : Mem} (h : txA K V Q N i u) (p : txP u u') : txA K V Q N i u' := by
  unfold txA
  rw [p.1 34 (by decide) (by decide)]
  exact ⟨txT_G h.1 (txG_P p), h.2⟩
theorem dSim_r {u : Mem} (h : txD u) : dSim u (some u) := ⟨u, rfl, txG_r u, h.1, rfl, rfl⟩
theorem dSim_P {u u' : Mem} (h : txD u) (p : txP u u') : dSim u (some u') := ⟨u', rfl, txG_P p, by rw [p.1 34 (by decide) (by decide)]; exact h.1, by rw [p.1 34 (by decide) (by decide)], by rw [p.1 34 (by decide) (by decide)]⟩
theorem dSim_b {u : Mem} {a : Option Mem} {f : Mem → Option Mem} (hD : txD u) (h : dSim u a) (hf : ∀ u', txD u' → dSim u' (f u')) : dSim u (a.bind f) := by
  obtain ⟨u1, e1, g1, k1, k2, k3⟩ := h
  obtain ⟨u2, e2, g2, m1, m2, m3⟩ := hf u1 ⟨k1, by rw [k2]; exact hD.2⟩
  exact ⟨u2, by rw [e1, b_some, e2], txG_t g1 g2, m1, by rw [m2, k2], by rw [m3, k3]⟩
theorem nI_f {f : Nat} (h : f ≠ 0) (h2 : f < 4) : ¬ nI f = 0 := nI_ne0 (by omega) (by omega)
theorem cSim_d {K V Q : Nat → Nat} {N : Nat} {u0 u1 : Mem} {f x : Nat} {b : Option Mem} (g : txG u0 u1) (h : txX Q f x u1) (hd : dSim u1 b) : cSim K V Q N u0 (.inl (f, x)) b := by
  obtain ⟨u2, e2, g2, m1, m2, m3⟩ := hd
  exact ⟨u2, e2, txG_t g g2, m1, by rw [m2]; exact h.2.1, by rw [m3]; exact h.2.2⟩
theorem cSim_b {K V Q : Nat → Nat} {N : Nat} {u0 : Mem} {e i : Nat} {o0 : pxT} {r : pxR} {f : Nat → pxT → pxR} {a : Option Mem} {g : Mem → Option Mem} (hg : pxG N e i o0 r) (h : cSim K V Q N u0 r a) (hok : ∀ j o u', i + e ≤ j → j ≤ N → encL o + i ≤ encL o0 + j → txG u0 u' → txA K V Q N j u' → txC o u' → encL o ≤ j → cSim K V Q N u0 (f j o) (g u')) (hd : ∀ u', txD u' → dSim u' (g u')) : cSim K V Q N u0 (pxB r f) (a.bind g) := by
  match r, hg, h with
  | .inl q, hg, ⟨u', e1, g1, h1⟩ =>
    rw [e1, b_some]
    exact cSim_d g1 h1 (hd u' ⟨h1.1, by rw [h1.2.1]; exact nI_f hg.2.1 hg.2.2⟩)
  | .inr q, hg, ⟨u', e1, g1, h1, h2, h3⟩ =>
    rw [e1, b_some]
    exact hok q.1 q.2 u' hg.1 hg.2.1 hg.2.2 g1 h1 h2 h3
theorem cSim_G {K V Q : Nat → Nat} {N : Nat} {u0 u1 : Mem} {r : pxR} {a : Option Mem} (g : txG u0 u1) (h : cSim K V Q N u1 r a) : cSim K V Q N u0 r a := by
  obtain ⟨u', e, g1, h1⟩ := h
  exact ⟨u', e, txG_t g g1, h1⟩
theorem cSim_n {K V Q : Nat → Nat} {N : Nat} {u : Mem} {j : Nat} {o : pxT} (hA : txA K V Q N j u) (hC : txC o u) (hl : encL o ≤ j) : cSim K V Q N u (.inr (j, o)) (some u) := ⟨u, rfl, txG_r u, hA, hC, hl⟩
theorem nk {K : Nat → Nat} {i c : Nat} (h : K i = (OfNat.ofNat c : Nat)) : nI (K i) = (OfNat.ofNat c : Int32) := by rw [h]; rfl
theorem nkn {K : Nat → Nat} {i c : Nat} (hK : K i < 1000) (hc : (OfNat.ofNat c : Nat) < 2147483648) (h : ¬ K i = (OfNat.ofNat c : Nat)) : ¬ nI (K i) = (OfNat.ofNat c : Int32) := by rw [eq_li hc (by omega)]; exact h
def txGo (K : Nat → Nat) (u : Mem) (j : Nat) : Mem := mupd (mupd u 34 9 (nI j)) 34 10 (nI (K j))
theorem txGo_G (K : Nat → Nat) (u : Mem) (j : Nat) : txG u (txGo K u j) := txG_t (txG_34 _ (by omega)) (txG_34 _ (by omega))
theorem txGo_A {K V Q : Nat → Nat} {N : Nat} {i j : Nat} {u : Mem} (h : txA K V Q N i u) (hj : j ≤ N) : txA K V Q N j (txGo K u j) := by
  refine ⟨txT_G h.1 (txGo_G K u j), hj, ?_, ?_, ?_⟩
  · unfold txGo; rw [m_eq, up_ne (by decide), m_eq, up_eq]
  · unfold txGo; rw [m_eq, up_eq]
  · unfold txGo; rw [m_eq, up_ne (by decide), up_ne (by decide), m_eq, up_ne (by decide), up_ne (by decide)]; exact h.2.2.2.2
theorem txGo_C {K : Nat → Nat} {o : pxT} {u : Mem} {j : Nat} (h : txC o u) : txC o (txGo K u j) := by
  unfold txC txGo
  rw [m_ne (by decide), m_ne (by decide), m_ne (by decide), m_ne (by decide)]; exact h
theorem c_go {K V Q : Nat → Nat} {N : Nat} {u : Mem} (hN : N ≤ 400) (h : txT K V Q N u) {j : Nat} (hj : j ≤ N) : FX6_go_34 (nI j) u = some (txGo K u j) := by
  unfold FX6_go_34 FX6_go_34_b49
  rw [b_some, m_eq, up_eq, up_ne (show 8 ≠ 9 by decide), h.1, if_neg (nI_pos (by omega)), if_neg (nle (by omega) (by omega)), if_neg (by rw [li_le (by decide) (by omega)]; show ¬ 401 ≤ j; omega), rb (by omega) (by omega), m_ne (show 36 ≠ 34 by decide), (h.2 j hj).1, b_some]
  rfl
theorem c_takeY {K V Q : Nat → Nat} {N : Nat} {i : Nat} {u : Mem} {t : Int32} (hZ : pxZ K V N) (h : txA K V Q N i u) (ht : nI (K i) = t) (h0 : K i ≠ 0) : FX6_take_34 t u = some (1, txGo K u (i + 1)) := by
  have hi := hZ.1.2 i h.2.1 h0
  unfold FX6_take_34
  rw [h.2.2.2.1, if_pos ht, h.2.2.1, nI_1, c_go hZ.1.1 h.1 (show i + 1 ≤ N by omega), b_some]
theorem c_takeN {K V Q : Nat → Nat} {N : Nat} {i : Nat} {u : Mem} {t : Int32} (h : txA K V Q N i u) (ht : ¬ nI (K i) = t) : FX6_take_34 t u = some (0, u) := by
  unfold FX6_take_34
  rw [h.2.2.2.1, if_neg ht]
theorem c_takeD {u : Mem} {t : Int32} (h : txD u) (ht : ¬ (0 : Int32) = t) : FX6_take_34 t u = some (0, u) := by
  unfold FX6_take_34
  rw [h.1, if_neg ht]
theorem c_fail {K V Q : Nat → Nat} {N : Nat} {i : Nat} {u : Mem} (hN : N ≤ 400) (h : txA K V Q N i u) (f : Nat) : ∃ u', FX6_fail_34 (nI f) u = some u' ∧ txG u u' ∧ txX Q f i u' := by
  have hi := h.2.1
  refine ⟨mupd (mupd (mupd u 34 13 (nI f)) 34 14 (nI (Q i))) 34 10 0, ?_, txG_t (txG_34 _ (by omega)) (txG_t (txG_34 _ (by omega)) (txG_34 _ (by omega))), ?_, ?_, ?_⟩
  · unfold FX6_fail_34 FX6_fail_34_b45
    rw [if_pos h.2.2.2.2.1, b_some, m_eq, up_ne (show 9 ≠ 13 by decide), h.2.2.1, if_neg (nI_pos (by omega)), if_neg (by rw [li_le (by decide) (by omega)]; show ¬ 401 ≤ i; omega), rb (by omega) (by omega), m_ne (show 37 ≠ 34 by decide), (h.1.2 i hi).2.1, b_some, b_some]
  · rw [m_eq, up_eq]
  · rw [m_eq, up_ne (by decide), m_eq, up_ne (by decide), m_eq, up_eq]
  · rw [m_eq, up_ne (by decide), m_eq, up_eq]
theorem c_failD {u : Mem} (h : txD u) (f : Int32) : FX6_fail_34 f u = some u := by
  unfold FX6_fail_34; rw [if_neg h.2]
theorem c_needY {K V Q : Nat → Nat} {N : Nat} {i : Nat} {u : Mem} {t : Int32} (hZ : pxZ K V N) (h : txA K V Q N i u) (ht : nI (K i) = t) (h0 : K i ≠ 0) : FX6_need_34 t u = some (txGo K u (i + 1)) := by
  unfold FX6_need_34
  rw [c_takeY hZ h ht h0, b2_some, if_neg z1]
theorem c_needN {K V Q : Nat → Nat} {N : Nat} {i : Nat} {u : Mem} {t : Int32} (hN : N ≤ 400) (h : txA K V Q N i u) (ht : ¬ nI (K i) = t) : ∃ u', FX6_need_34 t u = some u' ∧ txG u u' ∧ txX Q 1 i u' := by
  obtain ⟨u', e, g, x⟩ := c_fail hN h 1
  have e : FX6_fail_34 1 u = some u' := e
  refine ⟨u', ?_, g, x⟩
  unfold FX6_need_34
  rw [c_takeN h ht, b2_some, if_pos rfl, e, b_some]
theorem c_needD {u : Mem} {t : Int32} (h : txD u) (ht : ¬ (0 : Int32) = t) : FX6_need_34 t u = some u := by
  unfold FX6_need_34
  rw [c_takeD h ht, b2_some, if_pos rfl, c_failD h, b_some]
theorem encAt_B {S S' : Nat → Int32} {B : Nat} (e : ∀ j, j < B → S' j = S j) : ∀ (os : pxT) (a : Nat), a + encL os ≤ B → encAt S a os → encAt S' a os
  | [], _, _, _ => trivial
  | o :: os, a, hl, ⟨h1, h2⟩ => by
    have el : encL (o :: os) = enc1 o + encL os := rfl
    have e1 : enc1 o = if o.1 = 26 then 2 else 1 := rfl
    refine ⟨?_, encAt_B e os _ (by omega) h2⟩
    by_cases c : o.1 = 0
    · rw [if_pos c] at h1 ⊢
      rw [if_neg (by omega)] at e1
      rw [e a (by omega)]; exact h1
    · rw [if_neg c] at h1 ⊢
      by_cases c2 : o.1 = 26
      · rw [if_pos c2] at h1 e1 ⊢
        rw [e a (by omega), e (a + 1) (by omega)]; exact h1
      · rw [if_neg c2] at h1 e1 ⊢
        rw [e a (by omega)]; exact h1
theorem encAt_app {S : Nat → Int32} : ∀ (x y : pxT) (a : Nat), encAt S a (x ++ y) ↔ encAt S a x ∧ encAt S (a + encL x) y
  | [], y, a => ⟨fun h => ⟨trivial, h⟩, fun h => h.2⟩
  | o :: x, y, a => by
    have ih := encAt_app (S := S) x y (a + enc1 o)
    have el : a + encL (o :: x) = a + enc1 o + encL x := by show a + (enc1 o + encL x) = _; omega
    show (_ ∧ encAt S (a + enc1 o) (x ++ y)) ↔ _
    rw [ih, el]
    exact ⟨fun h => ⟨⟨h.1, h.2.1⟩, h.2.2⟩, fun h => ⟨h.1.1, h.1.2, h.2⟩⟩
theorem c_put {o : pxT} {u : Mem} (hC : txC o u) (hl : encL o < 400) {s v : Nat} {x : Int32} (h26 : s ≠ 26) (hx : (if s = 0 then nI v else cod s) = x) : ∃ u', FX4_put_39 x u = some u' ∧ txC (o ++ [(s, v)]) u' ∧ txP u u' := by
  refine ⟨mupd (mupd u 40 (encL o) x) 39 6 (nI (encL o + 1)), ?_, ⟨?_, ?_⟩, fun c h1 h2 => by rw [m_ne h1, m_ne h2], fun y hy => by rw [m_eq, up_ne hy, m_ne (by decide)]⟩
  · unfold FX4_put_39
    rw [hC.1, if_neg (nI_pos (by omega)), if_neg (by rw [li_le (by decide) (by omega)]; show ¬ 400 ≤ encL o; omega), wb (by omega) (by omega), m_ne (show 39 ≠ 40 by decide), hC.1, nI_1, b_some]
  · rw [m_eq, up_eq, encL_app, encL_1 h26]
  · rw [m_ne (by decide), m_eq, encAt_app, Nat.zero_add]
    refine ⟨encAt_B (B := encL o) (fun j hj => up_ne (by omega)) o 0 (by omega) hC.2, ?_, trivial⟩
    show (if s = 0 then _ = nI v else if s = 26 then _ else _ = cod s)
    by_cases c : s = 0
    · rw [if_pos c] at hx ⊢; rw [up_eq, hx]
    · rw [if_neg c] at hx ⊢; rw [if_neg h26, up_eq, hx]
theorem c_put2 {o : pxT} {u : Mem} (hC : txC o u) (hl : encL o + 1 < 400) (v : Nat) : ∃ u', ((FX4_put_39 (nI v) u).bind fun u9 => FX4_put_39 (-13) u9) = some u' ∧ txC (o ++ [(26, v)]) u' ∧ txP u u' := by
  refine ⟨mupd (mupd (mupd (mupd u 40 (encL o) (nI v)) 39 6 (nI (encL o + 1))) 40 (encL o + 1) (-13)) 39 6 (nI (encL o + 2)), ?_, ⟨?_, ?_⟩, fun c h1 h2 => by rw [m_ne h1, m_ne h2, m_ne h1, m_ne h2], fun y hy => by rw [m_eq, up_ne hy, m_ne (by decide), m_eq, up_ne hy, m_ne (by decide)]⟩
  · have e1 : FX4_put_39 (nI v) u = some (mupd (mupd u 40 (encL o) (nI v)) 39 6 (nI (encL o + 1))) := by
      unfold FX4_put_39
      rw [hC.1, if_neg (nI_pos (by omega)), if_neg (by rw [li_le (by decide) (by omega)]; show ¬ 400 ≤ encL o; omega), wb (by omega) (by omega), m_ne (show 39 ≠ 40 by decide), hC.1, nI_1, b_some]
    have e6 : (mupd (mupd u 40 (encL o) (nI v)) 39 6 (nI (encL o + 1))) 39 6 = nI (encL o + 1) := by rw [m_eq, up_eq]
    rw [e1, b_some]
    unfold FX4_put_39
    rw [e6, if_neg (nI_pos (by omega)), if_neg (by rw [li_le (by decide) (by omega)]; show ¬ 400 ≤ encL o + 1; omega), wb (by omega) (by omega), m_ne (show 39 ≠ 40 by decide), e6, nI_1, b_some]
  · rw [m_eq, up_eq, encL_app, encL_2]
  · rw [m_ne (by decide), m_eq, m_ne (show 40 ≠ 39 by decide), m_eq, encAt_app, Nat.zero_add]
    refine ⟨encAt_B (B := encL o) (fun j hj => by rw [up_ne (by omega), up_ne (by omega)]) o 0 (by omega) hC.2, ?_, trivial⟩
    show (upd (upd (u 40) (encL o) (nI v)) (encL o + 1) (-13) (encL o) = nI v ∧ upd (upd (u 40) (encL o) (nI v)) (encL o + 1) (-13) (encL o + 1) = -13)
    rw [up_ne (by omega), up_eq, up_eq]; exact ⟨rfl, rfl⟩
theorem c_putA (u : Mem) (x : Int32) : ∃ u', FX4_put_39 x u = some u' ∧ txP u u' := by
  unfold FX4_put_39
  by_cases c1 : u 39 6 < 0
  · rw [if_pos c1]; exact ⟨u, rfl, fun _ _ _ => rfl, fun _ _ => rfl⟩
  · rw [if_neg c1]
    obtain ⟨j, hj, e⟩ := nI_of c1
    by_cases c2 : (400 : Int32) ≤ u 39 6
    · rw [if_pos c2]; exact ⟨u, rfl, fun _ _ _ => rfl, fun _ _ => rfl⟩
    · rw [if_neg c2]
      have hj4 : j < 400 := by
        rw [e, li_le (by decide) hj] at c2
        have c2 : ¬ 400 ≤ j := c2
        omega
      rw [e, wb hj4 (by omega), b_some]
      exact ⟨_, rfl, fun c h1 h2 => by rw [m_ne h1, m_ne h2], fun y hy => by rw [m_eq, up_ne hy, m_ne (by decide)]⟩
theorem d_put {u : Mem} (h : txD u) (x : Int32) : dSim u (FX4_put_39 x u) := by
  obtain ⟨u', e, p⟩ := c_putA u x
  rw [e]; exact dSim_P h p
/-! a unit -/
theorem cod_nm : ∀ s, s < 9 → (-1 : Int32) - nI s = cod (s + 1) := by decide +kernel
theorem d_unit {u : Mem} (h : txD u) : FX6_unit_34 u = some u := by
  unfold FX6_unit_34 FX6_unit_34_b42 FX6_unit_34_b98
  rw [h.1, if_pos (by decide), if_neg (by decide), c_failD h, b_some]
theorem c_unit {K V Q : Nat → Nat} {N : Nat} (hZ : pxZ K V N) {i : Nat} {o : pxT} {u : Mem} (hA : txA K V Q N i u) (hC : txC o u) (hl : encL o ≤ i) : cSim K V Q N u (pxUnit K V i o) (FX6_unit_34 u) := by
  have hK := hZ.2.2 i
  have hN := hZ.1.1
  unfold FX6_unit_34 pxUnit FX6_unit_34_b42 FX6_unit_34_b98
  rw [hA.2.2.2.1]
  by_cases c : 264 ≤ K i ∧ K i ≤ 272
  · have hi := hZ.1.2 i hA.2.1 (by omega)
    rw [if_pos c, sub_li (by show 264 ≤ K i; omega), if_neg (nI_pos (by show K i - 264 < _; omega)), if_neg (by rw [li_le (by decide) (by show K i - 264 < _; omega)]; show ¬ 9 ≤ K i - 264; omega)]
    obtain ⟨u', e, hC', p⟩ := c_put hC (show encL o < 400 by omega) (s := K i - 263) (v := V i) (x := (-1) - nI (K i - 264)) (by omega) (by
      rw [if_neg (by omega), cod_nm (K i - 264) (by omega), show K i - 264 + 1 = K i - 263 by omega])
    have hA' := txA_P hA p
    have e : FX4_put_39 ((-1) - nI (K i - (OfNat.ofNat 264 : Nat))) u = some u' := e
    rw [e, b_some, hA'.2.2.1, nI_1, c_go hN hA'.1 (show i + 1 ≤ N by omega), b_some]
    exact ⟨_, rfl, txG_t (txG_P p) (txGo_G _ _ _), txGo_A hA' (by omega), txGo_C hC', by rw [encL_app, encL_1 (by show K i - 263 ≠ 26; omega)]; omega⟩
  · rw [if_neg c]
    have hno : ∀ (x y : Option Mem), (if nI (K i) - 264 < 0 then x else (if 9 ≤ nI (K i) - 264 then x else y)) = x := by
      intro x y
      by_cases c1 : K i < 264
      · rw [if_pos]
        rw [Int32.lt_iff_toInt_lt, show (264 : Int32) = nI 264 by decide, nI_subI (by omega) (by decide)]
        have h2 : (0 : Int32).toInt = 0 := by decide
        rw [h2]; omega
      · rw [sub_li (by show 264 ≤ K i; omega), if_neg (nI_pos (by show K i - 264 < _; omega)), if_pos]
        rw [li_le (by decide) (by show K i - 264 < _; omega)]
        show 9 ≤ K i - 264
        omega
    rw [hno]
    by_cases d : K i = 1
    · have hi := hZ.1.2 i hA.2.1 (by omega)
      have hv := hZ.2.1 i d
      rw [if_pos d, if_pos (nk d), hA.2.2.1, if_neg (nI_pos (by omega)), if_neg (by rw [li_le (by decide) (by omega)]; show ¬ 401 ≤ i; omega), rb (by omega) (by omega), (hA.1.2 i hA.2.1).2.2 d]
      obtain ⟨u', e, hC', p⟩ := c_put hC (show encL o < 400 by omega) (s := 0) (v := V i) (x := nI (V i)) (by decide) (if_pos rfl)
      have hA' := txA_P hA p
      rw [e, b_some, hA'.2.2.1, nI_1, c_go hN hA'.1 (show i + 1 ≤ N by omega), b_some]
      exact ⟨_, rfl, txG_t (txG_P p) (txGo_G _ _ _), txGo_A hA' (by omega), txGo_C hC', by rw [encL_app, encL_1 (show ((0 : Nat), V i).1 ≠ 26 from (by decide : (0 : Nat) ≠ 26))]; omega⟩
    · rw [if_neg d, if_neg (nkn hK (by decide) d)]
      obtain ⟨u', e, g, x⟩ := c_fail hN hA 1
      have e : FX6_fail_34 1 u = some u' := e
      rw [e, b_some]
      exact ⟨u', rfl, g, x⟩

