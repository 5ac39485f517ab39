/-! knees: the tellings -/
def kT (W : Wt) (i j : Nat) : Nat := if tb (sTold W (nI i)) j = true then 1 else 0
theorem told_in {W : Wt} (hT : OkT W) (m : Int32) {j : Nat} (hj : j < 32) (h : tb (sTold W m) j = true) : j < nmen W ∧ ∃ k, k < nmen W ∧ m = nI k := by
  have key : tb (sTold W m) j = true → (j < nmen W ∧ ∃ k, k < nmen W ∧ m = nI k) := by
    refine fo_inv (fun _ (s : Int32) => tb s j = true → (j < nmen W ∧ ∃ k, k < nmen W ∧ m = nI k)) (fun h => by rw [tb_0] at h; cases h) (nt (W 85)) (fun i s hi ih => ?_)
    show tb (if _ then _ else s) j = true → _
    by_cases c : W (158 + 2 * i) = m
    · rw [if_pos c, tb_or]
      intro h
      rw [Bool.or_eq_true] at h
      rcases h with h | h
      · exact ih h
      · obtain ⟨k, y, h1, h2, h3, h4⟩ := OkT_te hT i hi
        rw [h4, tb_nI _ hj] at h
        refine ⟨?_, k, h1, by rw [← c, h3]⟩
        rcases Nat.lt_or_ge j (nmen W) with h5 | h5
        · exact h5
        · rw [Nat.testBit_lt_two_pow (Nat.lt_of_lt_of_le h2 (Nat.pow_le_pow_right (by omega) h5))] at h; cases h
    · rw [if_neg c]; exact ih
  exact key h
theorem kT_le (W : Wt) (i j : Nat) : kT W i j ≤ 1 := by unfold kT; split <;> omega
theorem kT_z {W : Wt} (hT : OkT W) {a b : Nat} (ha : a < 12) (hb : b < 12) (h : nmen W ≤ a ∨ nmen W ≤ b) : kT W a b = 0 := by
  have hn12 := (OkT_n hT).2
  unfold kT
  rw [if_neg]
  intro h2
  obtain ⟨h3, k, h4, h5⟩ := told_in hT (nI a) (by omega) h2
  rw [nn_eq (by omega) (by omega)] at h5
  omega
theorem knw_in {W : Wt} (hT : OkT W) (f : Nat) {t : Nat} (ht : t < 32) (h : tb (sKnw W f) t = true) : t < nmen W ∧ tb (W (16 + t)) f = true := by
  have hn12 := (OkT_n hT).2
  have key : tb (sKnw W f) t = true → (t < nmen W ∧ tb (W (16 + t)) f = true) := by
    refine fo_inv (fun _ (s : Int32) => tb s t = true → (t < nmen W ∧ tb (W (16 + t)) f = true)) (fun h => by rw [tb_0] at h; cases h) (nmen W) (fun i s hi ih => ?_)
    show tb (s ||| if tb (W (16 + i)) f = true then 1 <<< (nI i &&& 31) else 0) t = true → (t < nmen W ∧ tb (W (16 + t)) f = true)
    by_cases c : tb (W (16 + i)) f = true
    · rw [if_pos c, tb_set (by omega) ht, Bool.or_eq_true, decide_eq_true_eq]
      intro h
      rcases h with h | h
      · exact ih h
      · rw [h]; exact ⟨hi, c⟩
    · rw [if_neg c, tb_or, tb_0, Bool.or_false]; exact ih
  exact key h
/-- what is known of the class's number -/
def kV (W : Wt) (f man : Nat) (S : Nat → Bool) : Prop := (∀ t, t < 12 → tb (sKnw W f) t = true → S t = true) ∧ S man = false
def kE (W : Wt) (man t : Nat) : Bool := decide (t < nmen W) && decide (t ≠ man)
def kF (W : Wt) (S : Nat → Bool) (t : Nat) : Bool := S t && decide (t < nmen W)
theorem k_le11 {W : Wt} (hT : OkT W) {f man : Nat} (hman : man < nmen W) (hk : tb (sKnw W f) man = false) : kV W f man (kE W man) ∧ kX (kT W) (kE W man) ≤ 11 := by
  have hn12 := (OkT_n hT).2
  refine ⟨⟨fun t ht h => ?_, ?_⟩, ?_⟩
  · have h1 := (knw_in hT f (by omega) h).1
    have h2 : t ≠ man := fun e => by rw [e, hk] at h; cases h
    unfold kE
    rw [decide_eq_true h1, decide_eq_true h2]; rfl
  · unfold kE
    rw [decide_eq_false (fun h : man ≠ man => h rfl), Bool.and_false]
  · have e11 : ∀ m, m < 12 → smN 12 (fun i => if i = m then 0 else 1) ≤ 11 := by decide
    refine Nat.le_trans (smN_le 12 (fun i hi => ?_)) (e11 man (by omega))
    refine Nat.le_trans (smN_one (j0 := man) 12 (fun j hj hne => ?_)) ?_
    · by_cases hjn : j < nmen W
      · rw [if_neg]
        unfold kxS kE
        rw [decide_eq_true hjn, decide_eq_true hne]
        cases (decide (i < nmen W) && decide (i ≠ man)) <;> exact fun h => by cases h
      · rw [kT_z hT hi hj (Or.inr (by omega)), ite_self]
    · by_cases e : i = man
      · rw [if_pos e, if_neg]; exact Nat.le_refl _
        unfold kxS kE
        rw [e, decide_eq_false (fun h : man ≠ man => h rfl), Bool.and_false]
        exact fun h => by cases h
      · rw [if_neg e]
        split
        · exact kT_le W i man
        · omega
def kI (W : Wt) (f man : Nat) (u0 : Mem) (k : Nat) (u : Mem) : Prop := (∀ c, c ≠ 107 → c ≠ 108 → c ≠ 109 → u c = u0 c) ∧ ∃ R : Nat → Nat → Nat, (∀ a b, a < 12 → b < 12 → u 107 (a * 12 + b) = nI (R a b) ∧ R a b ≤ 1 + 12 * k) ∧ (∀ a b, a < 12 → b < 12 → nmen W ≤ a ∨ nmen W ≤ b → R a b = 0) ∧ ∀ S, kV W f man S → kX R S + k = kX (kT W) S
theorem c_few {u0 : Mem} {W : Wt} (hC : CR 23 u0 W) (hT : OkT W) {f man : Nat} (hf : f < 8) (hman : man < nmen W) (hk : tb (sKnw W f) man = false) {u : Mem} (h0 : kI W f man u0 0 u) : ∃ k u', FX7_fewestTellings_106_L66 FU (nI f) (nI man) 0 u = some (nI k, u') ∧ k ≤ 11 ∧ (∀ S, kV W f man S → k ≤ kX (kT W) S) ∧ ∃ S, kV W f man S ∧ (∀ t, S t = true → t < nmen W) ∧ kX (kT W) S = k := by
  have hn12 := (OkT_n hT).2
  obtain ⟨v11, l11⟩ := k_le11 hT hman hk
  have hh := lp_r (fun F i u => FX7_fewestTellings_106_L66 F (nI f) (nI man) i u) 12 (kI W f man u0) (fun o => ∃ k u', o = some (nI k, u') ∧ k ≤ 11 ∧ (∀ S, kV W f man S → k ≤ kX (kT W) S) ∧ ∃ S, kV W f man S ∧ (∀ t, S t = true → t < nmen W) ∧ kX (kT W) S = k) (fun i u hi h => ?_) (fun u h F => ?_) FU 0 u (by omega) (by decide) h0
  · rw [nI_0] at hh; exact hh
  · obtain ⟨hu, R, hR, hZ, hX⟩ := h
    have hK : KR R u := fun a b ha hb => ⟨(hR a b ha hb).1, by have := (hR a b ha hb).2; omega⟩
    have hCu : CR 23 u W := CR_cg (fun c hc => hu c (by omega) (by omega) (by omega)) hC
    obtain ⟨x, u1, g1, g2, g3, g4⟩ := c_findWay (man := man) (s := sKnw W f) (by omega) hK
    have start : ∀ F, FX7_fewestTellings_106_L66 (F + 1) (nI f) (nI man) (nI i) u = (if x = 0 then some (nI i, u1) else ((FX7_useWay_106 (nI man) u1).bind fun u7 => FX7_fewestTellings_106_L66 F (nI f) (nI man) (nI (i + 1)) u7)) := by
      intro F
      show FX7_fewestTellings_106_b66 _ _ _ _ _ = _
      unfold FX7_fewestTellings_106_b66 FX7_fewestTellings_106_b96
      rw [if_neg (n12 hi), c_knw hCu hT hf, b_some, g1, b2_some, nI_1]
    rcases g4 with ⟨x0, S, s1, s2, s3⟩ | ⟨x1, rch, od, p1, p2⟩
    · refine Or.inr (fun F => ?_)
      show ∃ k u', FX7_fewestTellings_106_L66 (F + 1) (nI f) (nI man) (nI i) u = _ ∧ _
      rw [start, if_pos x0]
      have hv : kV W f man (kF W S) := ⟨fun t ht h => by unfold kF; rw [s1 t ht h, decide_eq_true (knw_in hT f (by omega) h).1]; rfl, by unfold kF; rw [s2]; rfl⟩
      have hz : kX R (kF W S) = 0 := by
        refine smN_0 12 (fun a ha => smN_0 12 (fun b hb => ?_))
        by_cases c : kxS (kF W S) a b = true
        · rw [if_pos c]
          unfold kxS kF at c
          rw [Bool.and_eq_true, Bool.and_eq_true] at c
          obtain ⟨⟨c1, c2⟩, c3⟩ := c
          by_cases hb2 : b < nmen W
          · rw [decide_eq_true hb2, Bool.and_true] at c3
            refine s3 a b ha hb c1 ?_
            cases e : S b with
            | false => rfl
            | true => rw [e] at c3; cases c3
          · exact hZ a b ha hb (Or.inr (by omega))
        · rw [if_neg c]
      have h11 := hX _ v11
      refine ⟨i, u1, rfl, by omega, fun S hS => by have := hX S hS; omega, _, hv, fun t ht => ?_, by have := hX _ hv; omega⟩
      unfold kF at ht
      rw [Bool.and_eq_true, decide_eq_true_eq] at ht
      exact ht.2
    · refine Or.inl ?_
      have o11 : od man ≤ 11 := by have := (p2 man (by omega) p1).1; omega
      obtain ⟨u2, Rn, q1, q2, q3, q4, q5⟩ := c_use p2 hZ (1 + 12 * i) 11 man 0 FU u1 R o11 (by omega) (by decide) (by omega) p1 rfl (fun a b ha hb => by
        refine ⟨?_, by have := (hR a b ha hb).2; omega⟩
        exact (g3 a b ha hb).1) (by omega) (fun a b _ _ _ => Nat.le_refl _) hZ
      rw [nI_0] at q1
      refine ⟨u2, ⟨fun c h1 h2 h3 => by rw [q2 c h1, g2 c h2 h3, hu c h1 h2 h3], Rn, fun a b ha hb => ⟨(q3 a b ha hb).1, by have := (q3 a b ha hb).2; omega⟩, q4, fun S hS => ?_⟩, fun F => ?_⟩
      · have h1 := q5 S hS.1
        rw [hS.2, if_neg (by decide)] at h1
        have h2 := hX S hS
        omega
      · rw [start, if_neg (by rw [x1]; exact z1)]
        unfold FX7_useWay_106
        rw [q1, b_some]
  · obtain ⟨hu, R, hR, hZ, hX⟩ := h
    have h11 := hX _ v11
    omega
theorem c_room {u0 : Mem} {W : Wt} (hC : CR 23 u0 W) (hT : OkT W) {f man : Nat} : ∃ u, FX7_fewestTellings_106 (nI f) (nI man) u0 = FX7_fewestTellings_106_L66 FU (nI f) (nI man) 0 u ∧ kI W f man u0 0 u := by
  unfold FX7_fewestTellings_106
  have inner : ∀ (k i j : Nat) (u : Mem), j + k = 12 → i < 12 → (∀ c, c ≠ 107 → u c = u0 c) → (∀ a b, a < 12 → b < 12 → (a < i ∨ (a = i ∧ b < j)) → u 107 (a * 12 + b) = nI (kT W a b)) → ∃ u', (∀ c, c ≠ 107 → u' c = u0 c) ∧ (∀ a b, a < 12 → b < 12 → a < i + 1 → u' 107 (a * 12 + b) = nI (kT W a b)) ∧ ∀ k2 F, k < F → FX7_fewestTellings_106_L11 k2 F (nI f) (nI man) (nI i) (nI j) u = k2 (nI f) (nI man) (nI (i + 1)) u' := by
    intro k
    induction k with
    | zero =>
      intro i j u hj hi hu hr
      refine ⟨u, hu, fun a b ha hb h => hr a b ha hb (by omega), fun k2 F hF => ?_⟩
      obtain ⟨g, rfl⟩ : ∃ g, F = g + 1 := ⟨F - 1, by omega⟩
      show FX7_fewestTellings_106_b11 _ _ _ _ _ _ _ = _
      unfold FX7_fewestTellings_106_b11
      rw [if_pos (by rw [show j = 12 by omega]; decide), nI_1]
    | succ k ih =>
      intro i j u hj hi hu hr
      obtain ⟨u', g1, g2, g3⟩ := ih i (j + 1) (mupd u 107 (i * 12 + j) (nI (kT W i j))) (by omega) hi (fun c hc => by rw [m_ne hc]; exact hu c hc) (fun a b ha hb h => by
        rw [m_eq]
        by_cases e : a = i ∧ b = j
        · rw [e.1, e.2, up_eq]
        · rw [up_ne (by omega)]; exact hr a b ha hb (by omega))
      refine ⟨u', g1, g2, fun k2 F hF => ?_⟩
      obtain ⟨g, rfl⟩ : ∃ g, F = g + 1 := ⟨F - 1, by omega⟩
      have e5 : u 5 i = sTold W (nI i) := by rw [hu 5 (by decide)]; exact gte hC hi
      show FX7_fewestTellings_106_b11 _ _ _ _ _ _ _ = _
      unfold FX7_fewestTellings_106_b11 FX7_fewestTellings_106_b51
      rw [if_neg (n12 (by omega)), rb (by omega) (by omega), e5, holds_b _ (by omega), b_some, mul_li, nI_add, nI_1]
      have hk : (if tb (sTold W (nI i)) j = true then (1 : Int32) else 0) = nI (kT W i j) := by
        unfold kT; split
        · rfl
        · exact nI_0.symm
      rw [← g3 k2 g (by omega), ← hk]
      by_cases c : tb (sTold W (nI i)) j = true
      · rw [if_pos c, if_neg z1, wb (by show i * 12 + j < 144; omega) (by omega)]
      · rw [if_neg c, if_pos rfl, wb (by show i * 12 + j < 144; omega) (by omega)]
  have hh := lp_r (fun F i u => FX7_fewestTellings_106_L2 F (nI f) (nI man) i u) 12 (fun i u => (∀ c, c ≠ 107 → u c = u0 c) ∧ ∀ a b, a < 12 → b < 12 → a < i → u 107 (a * 12 + b) = nI (kT W a b)) (fun o => ∃ u, o = FX7_fewestTellings_106_L66 FU (nI f) (nI man) 0 u ∧ kI W f man u0 0 u) (fun i u hi h => ?_) (fun u h F => ?_) FU 0 u0 (by omega) (by decide) ⟨fun c _ => rfl, fun a b _ _ h => by omega⟩
  · rw [nI_0] at hh; exact hh
  · obtain ⟨u', g1, g2, g3⟩ := inner 12 i 0 u (by omega) hi h.1 (fun a b ha hb hl => h.2 a b ha hb (by omega))
    refine Or.inl ⟨u', ⟨g1, g2⟩, fun F => ?_⟩
    have g4 := g3 (FX7_fewestTellings_106_L2 F) FU (by decide)
    rw [nI_0] at g4
    show FX7_fewestTellings_106_b2 _ _ _ _ _ = _
    unfold FX7_fewestTellings_106_b2
    rw [if_neg (n12 hi), g4]
  · refine ⟨u, ?_, fun c h1 _ _ => h.1 c h1, kT W, fun a b ha hb => ⟨h.2 a b ha hb ha, by have := kT_le W a b; omega⟩, fun a b ha hb hz => kT_z hT ha hb hz, fun S _ => rfl⟩
    show FX7_fewestTellings_106_b2 _ _ _ _ _ = _
    unfold FX7_fewestTellings_106_b2
    rw [if_pos (by decide)]
