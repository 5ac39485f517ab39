/-! the entry -/
theorem u_one {args : Array Value} {s : State} (h : ∀ w ∈ TW, w.before args s = true) {C : String} {T : u_T} {N n : Nat} (hin : ∀ w ∈ u_ws C T N, w ∈ TW) (hi : (Cond.instantiable C n).before args s = true) : ∃ d : ClassId × (Nat → Nat), u_Kn s C T N d.1 d.2 := by
  obtain ⟨c, i, k⟩ := u_known h hin hi
  exact ⟨(c, i), k⟩
theorem u_all {args : Array Value} {s : State} (h : ∀ w ∈ TW, w.before args s = true) : ∀ c : Nat, ∃ d : ClassId × (Nat → Nat), ∀ q, vwCl[c]? = some q → u_Kn s q.1 q.2.1 q.2.2 d.1 d.2 := by
  intro c
  match c with
  | 0 =>
    obtain ⟨d, k⟩ := u_one h CI_0.2.1 (h _ insW_0)
    exact ⟨d, fun q hq => by rw [CI_0.1] at hq; cases hq; exact k⟩
  | 1 =>
    obtain ⟨d, k⟩ := u_one h CI_1.2.1 (h _ insW_1)
    exact ⟨d, fun q hq => by rw [CI_1.1] at hq; cases hq; exact k⟩
  | 2 =>
    obtain ⟨d, k⟩ := u_one h CI_2.2.1 (h _ insW_2)
    exact ⟨d, fun q hq => by rw [CI_2.1] at hq; cases hq; exact k⟩
  | 3 =>
    obtain ⟨d, k⟩ := u_one h CI_3.2.1 (h _ insW_3)
    exact ⟨d, fun q hq => by rw [CI_3.1] at hq; cases hq; exact k⟩
  | 4 =>
    obtain ⟨d, k⟩ := u_one h CI_4.2.1 (h _ insW_4)
    exact ⟨d, fun q hq => by rw [CI_4.1] at hq; cases hq; exact k⟩
  | 5 =>
    obtain ⟨d, k⟩ := u_one h CI_5.2.1 (h _ insW_5)
    exact ⟨d, fun q hq => by rw [CI_5.1] at hq; cases hq; exact k⟩
  | 6 =>
    obtain ⟨d, k⟩ := u_one h CI_6.2.1 (h _ insW_6)
    exact ⟨d, fun q hq => by rw [CI_6.1] at hq; cases hq; exact k⟩
  | 7 =>
    obtain ⟨d, k⟩ := u_one h CI_7.2.1 (h _ insW_7)
    exact ⟨d, fun q hq => by rw [CI_7.1] at hq; cases hq; exact k⟩
  | 8 =>
    obtain ⟨d, k⟩ := u_one h CI_8.2.1 (h _ insW_8)
    exact ⟨d, fun q hq => by rw [CI_8.1] at hq; cases hq; exact k⟩
  | 9 =>
    obtain ⟨d, k⟩ := u_one h CI_9.2.1 (h _ insW_9)
    exact ⟨d, fun q hq => by rw [CI_9.1] at hq; cases hq; exact k⟩
  | 10 =>
    obtain ⟨d, k⟩ := u_one h CI_10.2.1 (h _ insW_10)
    exact ⟨d, fun q hq => by rw [CI_10.1] at hq; cases hq; exact k⟩
  | 11 =>
    obtain ⟨d, k⟩ := u_one h CI_11.2.1 (h _ insW_11)
    exact ⟨d, fun q hq => by rw [CI_11.1] at hq; cases hq; exact k⟩
  | 12 =>
    obtain ⟨d, k⟩ := u_one h CI_12.2.1 (h _ insW_12)
    exact ⟨d, fun q hq => by rw [CI_12.1] at hq; cases hq; exact k⟩
  | c + 13 =>
    obtain ⟨d, -⟩ := u_one h CI_0.2.1 (h _ insW_0)
    exact ⟨d, fun q hq => by
      rw [List.getElem?_eq_none (by show 13 ≤ c + 13; omega)] at hq
      cases hq⟩
def FLT : List Cond := flatC (Jvm.Cond.and given_1 narrow_1)
def stm (i : Nat) : Term := Term.string (strOwn i) (strIdx i)
def kbS : List Nat := [9, 96, 109, 124, 138, 152, 160, 166, 173, 180, 188, 196, 203, 211, 222, 229, 237, 247, 256, 264, 271, 279, 287, 296, 304, 314, 320, 328]
theorem flt_mem {w : Cond} {i : Nat} (h : FLT[i]? = some w) : w ∈ FLT := List.mem_of_getElem? h
theorem flt_ex : ∀ i, i < 28 → FLT[kbS.getD i 0]? = some (Cond.exactly (stm i) "java/lang/String") := by decide +kernel
theorem flt_co : ∀ i, i < 28 → FLT[kbS.getD i 0 + 1]? = some (Cond.eq (.field (stm i) "java/lang/String" "coder" "B") (.int 0)) := by decide +kernel
theorem flt_ar : ∀ i, i < 28 → FLT[kbS.getD i 0 + 2]? = some (Cond.arrayOf (.field (stm i) "java/lang/String" "value" "[B") .byte) := by decide +kernel
theorem flt_le : ∀ i, i < 28 → FLT[kbS.getD i 0 + 3]? = some (Cond.eq (.length (.field (stm i) "java/lang/String" "value" "[B")) (.int (Int32.ofNat (strLen.getD i 0)))) := by decide +kernel
theorem flt_el : ∀ i, i < 28 → ∀ j, j < strLen.getD i 0 → FLT[kbS.getD i 0 + 4 + j]? = some (Cond.eq (.elem (.field (stm i) "java/lang/String" "value" "[B") (.int (Int32.ofNat j))) (.int ((strByt.getD i []).getD j 0))) := by decide +kernel
theorem str_apart : ∀ i, i < 28 → ∀ j, j < 28 → i ≠ j → strLen.getD i 0 ≠ strLen.getD j 0 ∨ strByt.getD i [] ≠ strByt.getD j [] := by decide +kernel
theorem str_len : ∀ i, i < 28 → strLen.getD i 0 = (strByt.getD i []).length ∧ strLen.getD i 0 < 100 := by decide +kernel
theorem ofn_c (n : Nat) (h : n < 100) : (Int32.ofNat n).toNatClampNeg = n := nI_clamp (n := n) (by omega)
theorem getD_q {a b : List Int32} {k : Nat} (ha : k < a.length) (hb : k < b.length) (h : a.getD k 0 = b.getD k 0) : a[k]? = b[k]? := by
  rw [List.getD_eq_getElem?_getD, List.getD_eq_getElem?_getD, List.getElem?_eq_getElem ha, List.getElem?_eq_getElem hb] at h
  rw [List.getElem?_eq_getElem ha, List.getElem?_eq_getElem hb]
  exact congrArg some h
theorem S_of {args : Array Value} {s : State} {A : Nat → Prop} (hF : ∀ w ∈ FLT, w.before args s = true) (hA : ∀ a : Nat, a < s.heap.size → ¬ A a) : ∃ adK adV : Nat → Nat, vk_S strN strLen strByt adK adV A s s.heap ∧ ∀ i : Nat, i < strN → (stm i).eval args s none [] s = some (.ref (adK i)) := by
  have h0 : ∀ i : Nat, ∃ q : Nat × Nat, i < 28 → (stm i).eval args s none [] s = some (.ref q.1) ∧ va_O "java/lang/String" q.1 A s s.heap ∧ va_OF "java/lang/String" "coder" "B" (.int 0) q.1 A s s.heap ∧ va_OF "java/lang/String" "value" "[B" (.ref q.2) q.1 A s s.heap ∧ va_T .byte q.2 (strLen.getD i 0) (fun j => .int ((strByt.getD i []).getD j 0)) A s s.heap := by
    intro i
    by_cases hi : i < 28
    · obtain ⟨a, c, cA, kA, q1, q2, q3, q4, q5, q6, -⟩ := Cond.exactly_spec (args := args) (first := s) (o := none) (s := s) (idx := []) (t := stm i) (cls := "java/lang/String") (hF _ (flt_mem (flt_ex i hi)))
      obtain ⟨t, ht, hT⟩ := va_Tof (f := fun j => .int ((strByt.getD i []).getD j 0)) (A := A) (Nat.lt_trans (str_len i hi).2 (by decide)) (hF _ (flt_mem (flt_ar i hi))) (va_eqt (hF _ (flt_mem (flt_le i hi)))) (fun j hj => va_eqt (hF _ (flt_mem (flt_el i hi j hj)))) hA
      exact ⟨(a, t), fun _ => ⟨q1, ⟨cA, q3, q5, by rw [q6]; exact q2, hA a (Array.getElem?_eq_some_iff.mp q3).1⟩, vk_OFof q1 (va_eqt (hF _ (flt_mem (flt_co i hi)))) hA, vk_OFof q1 ht hA, hT⟩⟩
    · exact ⟨(0, 0), fun h => absurd h hi⟩
  obtain ⟨ad, had⟩ := Classical.axiomOfChoice h0
  refine ⟨fun i => (ad i).1, fun i => (ad i).2, ⟨fun i hi => (had i hi).2, fun i j hi hj e => ?_⟩, fun i hi => (had i hi).1⟩
  have hi : i < 28 := hi
  have hj : j < 28 := hj
  have e : (ad i).1 = (ad j).1 := e
  obtain ⟨-, -, -, ⟨cf, k, fi, f, cell, g1, g2, g3, g4, g5, -⟩, ⟨d, d1, d2, d3, d4, d5, d6, -⟩⟩ := had i hi
  obtain ⟨-, -, -, ⟨cf', k', fi', f', cell', g1', g2', g3', g4', g5', -⟩, ⟨d', d1', d2', d3', d4', d5', d6', -⟩⟩ := had j hj
  cases g1.symm.trans g1'
  rw [e] at g3
  cases g3.symm.trans g3'
  have e2 : Value.ref (ad i).2 = Value.ref (ad j).2 := Option.some.inj (g5.symm.trans g5')
  have e3 : (ad i).2 = (ad j).2 := Value.ref.inj e2
  rw [e3] at d1
  cases d1.symm.trans d1'
  have li := str_len i hi
  have lj := str_len j hj
  have e4 : strLen.getD i 0 = strLen.getD j 0 := by
    have h1 := congrArg Int32.toNatClampNeg (d5.symm.trans d5')
    rw [ofn_c _ li.2, ofn_c _ lj.2] at h1
    exact h1
  by_cases hij : i = j
  · exact hij
  · exfalso
    rcases str_apart i hi j hj hij with h | h
    · exact h e4
    · apply h
      apply List.ext_getElem?
      intro k
      by_cases hk : k < strLen.getD i 0
      · have h1 := (d6 k hk).symm.trans (d6' k (by rw [← e4]; exact hk))
        exact getD_q (by rw [← li.1]; exact hk) (by rw [← lj.1, ← e4]; exact hk) (Value.int.inj (Option.some.inj h1))
      · rw [List.getElem?_eq_none (by omega), List.getElem?_eq_none (by omega)]
def strRf : List Nat := [886, 887, 888, 889, 961, 1546, 1553, 1554, 1555, 1556, 1557, 1558, 1559, 1564, 1565, 1566, 1567, 1568, 1569, 1570, 1571, 1572, 1577, 1582, 1583, 1588, 1589, 1590]
theorem str_ref : ∀ i, i < 28 → lw_tbl[(strRf).getD i 0]? = some (Cond.stringRef (strOwn i) (strIdx i) (strTx i)) := by decide +kernel
theorem tb_cs : lw_tbl[903]? = some (Cond.laysStatic "java/lang/String" "COMPACT_STRINGS" "Z") := by decide +kernel
theorem tb_ci : lw_tbl[156]? = some (Cond.initialized "java/lang/String") := by decide +kernel
theorem tb_ps : lw_tbl[919]? = some (Cond.laysStatic "jdk/internal/util/Preconditions" "SIOOBE_FORMATTER" "Ljava/util/function/BiFunction;") := by decide +kernel
theorem tb_pi : lw_tbl[158]? = some (Cond.initialized "jdk/internal/util/Preconditions") := by decide +kernel
theorem tb_ao : lw_tbl[506]? = some (Cond.arrayOver (.object "OldestDown$Being")) := by decide +kernel
theorem ft_cs : FLT[4]? = some (Cond.eq (.static "java/lang/String" "COMPACT_STRINGS" "Z") (.int 1)) := by decide +kernel
theorem ft_ps : FLT[5]? = some (Cond.isRef (.static "jdk/internal/util/Preconditions" "SIOOBE_FORMATTER" "Ljava/util/function/BiFunction;")) := by decide +kernel
theorem lLW_0 {G : Gt} {X : Xt} {u9 : Mem} (hX0 : CxOk G X cL_law 4 RL (none, SH, RHO, u9) 1000) (hR : LwRet G X) (h : FLW_L18 (gS G).2.1 (gS G).2.2 FU 0 e_u43 = some 1) : WM G X 0 [(0, .ref 4999)] [] (SH.take 0) e_r0 e_u0 := by
  have hX : CxOk G X cL_law 4 RL (none, SH.take 160, RHO, u9) 1000 := by rw [SH_all]; exact hX0
  refine w_new 0 0 hX CI_11 (tkL (by decide)).symm (frsh (by decide) e_r0F e_u0F (by decide) (by decide)) dvW_11 cl_L_7 insW_11 izW_11 (tkQ s_0 (by decide)) (tkQs s_0 (by decide)) (by rw [tkL (by decide)]; decide) dL_law_0 ?_
  refine w_alp s_0 ?_
  refine w_dup 3 hX rfl dL_law_3 ?_
  refine w_invIv (a := 0) (av := []) (st := [.ref 0]) 4 hX CI_11 (tkS s_0 (by decide)) mo_yX11_init rfl mi_yX11_init ml_L_9 KX11_0 rfl (by decide) (by decide) (tkLe (by decide)) (tkM (by decide)) dL_law_4 ?_
  refine w_astore_n (lv' := [(1, .ref 0), (0, .ref 4999)]) 7 hX rfl dL_law_7 (by decide) rfl ?_
  refine w_new 146 8 hX CI_12 (tkL (by decide)).symm (frsh (by decide) e_r156F e_u37F (by decide) (by decide)) dvW_12 cl_L_10 insW_12 izW_12 (tkQ s_146 (by decide)) (tkQs s_146 (by decide)) (by rw [tkL (by decide)]; decide) dL_law_8 ?_
  refine w_alp s_146 ?_
  refine w_dup 11 hX rfl dL_law_11 ?_
  refine w_invIv (a := 146) (av := []) (st := [.ref 146]) 12 hX CI_12 (tkS s_146 (by decide)) mo_yX12_init rfl mi_yX12_init ml_L_12 KX12_146 rfl (by decide) (by decide) (tkLe (by decide)) (tkM (by decide)) dL_law_12 ?_
  refine w_astore_n (lv' := [(2, .ref 146), (1, .ref 0), (0, .ref 4999)]) 15 hX rfl dL_law_15 (by decide) rfl ?_
  refine w_iconst 0 16 hX ic_0 dL_law_16 ?_
  refine w_istore_n (lv' := [(3, .int 0), (2, .ref 146), (1, .ref 0), (0, .ref 4999)]) 17 hX rfl dL_law_17 (by decide) rfl ?_
  rw [SH_all, RHO_eq]
  exact w_sub [3, 2, 1, 0] rfl (lLW_18 hX0 hR FU 0 e_u43 h)
theorem SH_room : ssum SH ≤ 7302250 ∧ SH.length ≤ 600000 ∧ SH.length ≤ 4000 := by decide +kernel
