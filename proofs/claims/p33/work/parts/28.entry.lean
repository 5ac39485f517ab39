/-! the entry -/
theorem u_one {args : Array Value} {s : State} (h : ∀ w ∈ TW, w.before args s = true) {C : String} {T : u_T} {N n : Nat} (hin : ∀ w ∈ u_ws C T N, w ∈ TW) (hi : (Cond.instantiable C n).before args s = true) : ∃ d : ClassId × (Nat → Nat), u_Kn s C T N d.1 d.2 := by
  obtain ⟨c, i, k⟩ := u_known h hin hi
  exact ⟨(c, i), k⟩
theorem u_all {args : Array Value} {s : State} (h : ∀ w ∈ TW, w.before args s = true) : ∀ c : Nat, ∃ d : ClassId × (Nat → Nat), ∀ q, vwCl[c]? = some q → u_Kn s q.1 q.2.1 q.2.2 d.1 d.2 := by
  intro c
  match c with
  | 0 =>
    obtain ⟨d, k⟩ := u_one h CI_0.2.1 (h _ insW_0)
    exact ⟨d, fun q hq => by rw [CI_0.1] at hq; cases hq; exact k⟩
  | 1 =>
    obtain ⟨d, k⟩ := u_one h CI_1.2.1 (h _ insW_1)
    exact ⟨d, fun q hq => by rw [CI_1.1] at hq; cases hq; exact k⟩
  | 2 =>
    obtain ⟨d, k⟩ := u_one h CI_2.2.1 (h _ insW_2)
    exact ⟨d, fun q hq => by rw [CI_2.1] at hq; cases hq; exact k⟩
  | 3 =>
    obtain ⟨d, k⟩ := u_one h CI_3.2.1 (h _ insW_3)
    exact ⟨d, fun q hq => by rw [CI_3.1] at hq; cases hq; exact k⟩
  | 4 =>
    obtain ⟨d, k⟩ := u_one h CI_4.2.1 (h _ insW_4)
    exact ⟨d, fun q hq => by rw [CI_4.1] at hq; cases hq; exact k⟩
  | 5 =>
    obtain ⟨d, k⟩ := u_one h CI_5.2.1 (h _ insW_5)
    exact ⟨d, fun q hq => by rw [CI_5.1] at hq; cases hq; exact k⟩
  | 6 =>
    obtain ⟨d, k⟩ := u_one h CI_6.2.1 (h _ insW_6)
    exact ⟨d, fun q hq => by rw [CI_6.1] at hq; cases hq; exact k⟩
  | 7 =>
    obtain ⟨d, k⟩ := u_one h CI_7.2.1 (h _ insW_7)
    exact ⟨d, fun q hq => by rw [CI_7.1] at hq; cases hq; exact k⟩
  | 8 =>
    obtain ⟨d, k⟩ := u_one h CI_8.2.1 (h _ insW_8)
    exact ⟨d, fun q hq => by rw [CI_8.1] at hq; cases hq; exact k⟩
  | 9 =>
    obtain ⟨d, k⟩ := u_one h CI_9.2.1 (h _ insW_9)
    exact ⟨d, fun q hq => by rw [CI_9.1] at hq; cases hq; exact k⟩
  | 10 =>
    obtain ⟨d, k⟩ := u_one h CI_10.2.1 (h _ insW_10)
    exact ⟨d, fun q hq => by rw [CI_10.1] at hq; cases hq; exact k⟩
  | 11 =>
    obtain ⟨d, k⟩ := u_one h CI_11.2.1 (h _ insW_11)
    exact ⟨d, fun q hq => by rw [CI_11.1] at hq; cases hq; exact k⟩
  | 12 =>
    obtain ⟨d, k⟩ := u_one h CI_12.2.1 (h _ insW_12)
    exact ⟨d, fun q hq => by rw [CI_12.1] at hq; cases hq; exact k⟩
  | 13 =>
    obtain ⟨d, k⟩ := u_one h CI_13.2.1 (h _ insW_13)
    exact ⟨d, fun q hq => by rw [CI_13.1] at hq; cases hq; exact k⟩
  | 14 =>
    obtain ⟨d, k⟩ := u_one h CI_14.2.1 (h _ insW_14)
    exact ⟨d, fun q hq => by rw [CI_14.1] at hq; cases hq; exact k⟩
  | c + 15 =>
    obtain ⟨d, -⟩ := u_one h CI_0.2.1 (h _ insW_0)
    exact ⟨d, fun q hq => by
      rw [List.getElem?_eq_none (by show 15 ≤ c + 15; omega)] at hq
      cases hq⟩
def FLT : List Cond := flatC (Jvm.Cond.and given_1 narrow_1)
def stm (i : Nat) : Term := Term.string (strOwn i) (strIdx i)
def kbS : List Nat := [278, 369, 387, 408, 429, 243, 254, 264, 270, 451, 469, 491, 509, 531, 552, 579, 613, 687, 741, 774, 804, 841, 890]
theorem flt_mem {w : Cond} {i : Nat} (h : FLT[i]? = some w) : w ∈ FLT := List.mem_of_getElem? h
theorem flt_ex : ∀ i, i < 23 → FLT[kbS.getD i 0]? = some (Cond.exactly (stm i) "java/lang/String") := by decide +kernel
theorem flt_co : ∀ i, i < 23 → FLT[kbS.getD i 0 + 1]? = some (Cond.eq (.field (stm i) "java/lang/String" "coder" "B") (.int 0)) := by decide +kernel
theorem flt_ar : ∀ i, i < 23 → FLT[kbS.getD i 0 + 2]? = some (Cond.arrayOf (.field (stm i) "java/lang/String" "value" "[B") .byte) := by decide +kernel
theorem flt_le : ∀ i, i < 23 → FLT[kbS.getD i 0 + 3]? = some (Cond.eq (.length (.field (stm i) "java/lang/String" "value" "[B")) (.int (Int32.ofNat (strLen.getD i 0)))) := by decide +kernel
theorem flt_el : ∀ i, i < 23 → ∀ j, j < strLen.getD i 0 → FLT[kbS.getD i 0 + 4 + j]? = some (Cond.eq (.elem (.field (stm i) "java/lang/String" "value" "[B") (.int (Int32.ofNat j))) (.int ((strByt.getD i []).getD j 0))) := by decide +kernel
theorem str_apart : ∀ i, i < 23 → ∀ j, j < 23 → i ≠ j → strLen.getD i 0 ≠ strLen.getD j 0 ∨ strByt.getD i [] ≠ strByt.getD j [] := by decide +kernel
theorem str_len : ∀ i, i < 23 → strLen.getD i 0 = (strByt.getD i []).length ∧ strLen.getD i 0 < 100 := by decide +kernel
theorem ofn_c (n : Nat) (h : n < 100) : (Int32.ofNat n).toNatClampNeg = n := nI_clamp (n := n) (by omega)
theorem getD_q {a b : List Int32} {k : Nat} (ha : k < a.length) (hb : k < b.length) (h : a.getD k 0 = b.getD k 0) : a[k]? = b[k]? := by
  rw [List.getD_eq_getElem?_getD, List.getD_eq_getElem?_getD, List.getElem?_eq_getElem ha, List.getElem?_eq_getElem hb] at h
  rw [List.getElem?_eq_getElem ha, List.getElem?_eq_getElem hb]
  exact congrArg some h
theorem S_of {args : Array Value} {s : State} {A : Nat → Prop} (hF : ∀ w ∈ FLT, w.before args s = true) (hA : ∀ a : Nat, a < s.heap.size → ¬ A a) : ∃ adK adV : Nat → Nat, vk_S strN strLen strByt adK adV A s s.heap ∧ ∀ i : Nat, i < strN → (stm i).eval args s none [] s = some (.ref (adK i)) := by
  have h0 : ∀ i : Nat, ∃ q : Nat × Nat, i < 23 → (stm i).eval args s none [] s = some (.ref q.1) ∧ va_O "java/lang/String" q.1 A s s.heap ∧ va_OF "java/lang/String" "coder" "B" (.int 0) q.1 A s s.heap ∧ va_OF "java/lang/String" "value" "[B" (.ref q.2) q.1 A s s.heap ∧ va_T .byte q.2 (strLen.getD i 0) (fun j => .int ((strByt.getD i []).getD j 0)) A s s.heap := by
    intro i
    by_cases hi : i < 23
    · obtain ⟨a, c, cA, kA, q1, q2, q3, q4, q5, q6, -⟩ := Cond.exactly_spec (args := args) (first := s) (o := none) (s := s) (idx := []) (t := stm i) (cls := "java/lang/String") (hF _ (flt_mem (flt_ex i hi)))
      obtain ⟨t, ht, hT⟩ := va_Tof (f := fun j => .int ((strByt.getD i []).getD j 0)) (A := A) (Nat.lt_trans (str_len i hi).2 (by decide)) (hF _ (flt_mem (flt_ar i hi))) (va_eqt (hF _ (flt_mem (flt_le i hi)))) (fun j hj => va_eqt (hF _ (flt_mem (flt_el i hi j hj)))) hA
      exact ⟨(a, t), fun _ => ⟨q1, ⟨cA, q3, q5, by rw [q6]; exact q2, hA a (Array.getElem?_eq_some_iff.mp q3).1⟩, vk_OFof q1 (va_eqt (hF _ (flt_mem (flt_co i hi)))) hA, vk_OFof q1 ht hA, hT⟩⟩
    · exact ⟨(0, 0), fun h => absurd h hi⟩
  obtain ⟨ad, had⟩ := Classical.axiomOfChoice h0
  refine ⟨fun i => (ad i).1, fun i => (ad i).2, ⟨fun i hi => (had i hi).2, fun i j hi hj e => ?_⟩, fun i hi => (had i hi).1⟩
  have hi : i < 23 := hi
  have hj : j < 23 := hj
  have e : (ad i).1 = (ad j).1 := e
  obtain ⟨-, -, -, ⟨cf, k, fi, f, cell, g1, g2, g3, g4, g5, -⟩, ⟨d, d1, d2, d3, d4, d5, d6, -⟩⟩ := had i hi
  obtain ⟨-, -, -, ⟨cf', k', fi', f', cell', g1', g2', g3', g4', g5', -⟩, ⟨d', d1', d2', d3', d4', d5', d6', -⟩⟩ := had j hj
  cases g1.symm.trans g1'
  rw [e] at g3
  cases g3.symm.trans g3'
  have e2 : Value.ref (ad i).2 = Value.ref (ad j).2 := Option.some.inj (g5.symm.trans g5')
  have e3 : (ad i).2 = (ad j).2 := Value.ref.inj e2
  rw [e3] at d1
  cases d1.symm.trans d1'
  have li := str_len i hi
  have lj := str_len j hj
  have e4 : strLen.getD i 0 = strLen.getD j 0 := by
    have h1 := congrArg Int32.toNatClampNeg (d5.symm.trans d5')
    rw [ofn_c _ li.2, ofn_c _ lj.2] at h1
    exact h1
  by_cases hij : i = j
  · exact hij
  · exfalso
    rcases str_apart i hi j hj hij with h | h
    · exact h e4
    · apply h
      apply List.ext_getElem?
      intro k
      by_cases hk : k < strLen.getD i 0
      · have h1 := (d6 k hk).symm.trans (d6' k (by rw [← e4]; exact hk))
        exact getD_q (by rw [← li.1]; exact hk) (by rw [← lj.1, ← e4]; exact hk) (Value.int.inj (Option.some.inj h1))
      · rw [List.getElem?_eq_none (by omega), List.getElem?_eq_none (by omega)]
def strRf : List Nat := [1233, 1234, 1235, 1236, 1262, 1044, 1102, 1163, 1164, 1410, 1411, 1413, 1414, 1415, 1421, 1422, 1423, 1424, 1425, 1426, 1427, 1428, 1429]
theorem str_ref : ∀ i, i < 23 → lw_tbl[(strRf).getD i 0]? = some (Cond.stringRef (strOwn i) (strIdx i) (strTx i)) := by decide +kernel
theorem tb_cs : lw_tbl[942]? = some (Cond.laysStatic "java/lang/String" "COMPACT_STRINGS" "Z") := by decide +kernel
theorem tb_ci : lw_tbl[57]? = some (Cond.initialized "java/lang/String") := by decide +kernel
theorem tb_ps : lw_tbl[1026]? = some (Cond.laysStatic "jdk/internal/util/Preconditions" "SIOOBE_FORMATTER" "Ljava/util/function/BiFunction;") := by decide +kernel
theorem tb_pi : lw_tbl[63]? = some (Cond.initialized "jdk/internal/util/Preconditions") := by decide +kernel
theorem tb_ao : lw_tbl[392]? = some (Cond.arrayOver (.object "OldestDown$Being")) := by decide +kernel
theorem tb_aw : lw_tbl[1436]? = some (Cond.arrayOver (.object "OldestDownLaw$War")) := by decide +kernel
theorem tb_aa : lw_tbl[767]? = some (Cond.arrayOver (.array .int)) := by decide +kernel
theorem tb_ii : lw_tbl[66]? = some (Cond.initialized "java/lang/Integer") := by decide +kernel
theorem tb_dO : lw_tbl[1010]? = some (Cond.laysStatic "java/lang/Integer" "DigitOnes" "[B") := by decide +kernel
theorem tb_dT : lw_tbl[1012]? = some (Cond.laysStatic "java/lang/Integer" "DigitTens" "[B") := by decide +kernel
theorem ft_cs : FLT[4]? = some (Cond.eq (.static "java/lang/String" "COMPACT_STRINGS" "Z") (.int 1)) := by decide +kernel
theorem ft_ps : FLT[211]? = some (Cond.isRef (.static "jdk/internal/util/Preconditions" "SIOOBE_FORMATTER" "Ljava/util/function/BiFunction;")) := by decide +kernel
theorem ft_oa : FLT[6]? = some (Cond.arrayOf (.static "java/lang/Integer" "DigitOnes" "[B") .byte) := by decide +kernel
theorem ft_ol : FLT[7]? = some (Cond.eq (.length (.static "java/lang/Integer" "DigitOnes" "[B")) (.int (Int32.ofNat 100))) := by decide +kernel
theorem ft_oe : ∀ j, j < 100 → FLT[8 + j]? = some (Cond.eq (.elem (.static "java/lang/Integer" "DigitOnes" "[B") (.int (Int32.ofNat j))) (.int (digO j))) := by decide +kernel
theorem ft_ta : FLT[109]? = some (Cond.arrayOf (.static "java/lang/Integer" "DigitTens" "[B") .byte) := by decide +kernel
theorem ft_tl : FLT[110]? = some (Cond.eq (.length (.static "java/lang/Integer" "DigitTens" "[B")) (.int (Int32.ofNat 100))) := by decide +kernel
theorem ft_te : ∀ j, j < 100 → FLT[111 + j]? = some (Cond.eq (.elem (.static "java/lang/Integer" "DigitTens" "[B") (.int (Int32.ofNat j))) (.int (digT j))) := by decide +kernel
theorem law_0 {G : Gt} {X : Xt} {v : Int32} {w' : Wd} (hX : CxOk G X cL_law 17 RL (some (.int v), w'.1, w'.2.1, w'.2.2) 1000) (hR : LwR G X v w') (h : (DL_law (gS G).2.1 (gS G).2.2).1 (SH, RHO, e_u37) = some (v, w')) : WM G X 0 [(0, .ref 1999999)] [] (SH.take 0) e_r0 e_u0 := by
  have hle := d_le h
  have b1 : (SH.take 146).length ≤ w'.1.length := by rw [SH_all]; exact hle.1
  have b2 : ssum (SH.take 146) ≤ ssum w'.1 := by rw [SH_all]; exact hle.2
  refine w_new 0 0 hX CI_11 (tkL (by decide)).symm (frsh (by decide) e_r0F e_u0F (by decide) (by decide)) dvW_11 cl_L_28 insW_11 izW_11 (Nat.le_trans (tkQ s0_0 (n := 146) (by decide)) b1) (Nat.le_trans (tkQs s0_0 (n := 146) (by decide)) b2) (by rw [tkL (by decide)]; decide) (tkB s0_0) dL_law_0 ?_
  refine w_alp s0_0 ?_
  refine w_dup 3 hX rfl dL_law_3 ?_
  refine w_invIv (a := 0) (av := []) (st := [.ref 0]) 4 hX CI_11 (tkS s0_0 (by decide)) mo_yX11_init rfl mi_yX11_init ml_L_177 KX110_0 rfl (by decide) (by decide) b1 b2 dL_law_4 ?_
  refine w_astore_n (lv' := [(1, .ref 0), (0, .ref 1999999)]) 7 hX rfl dL_law_7 (by decide) rfl ?_
  rw [SH_all, RHO_eq]
  exact w_sub [1, 0] rfl (eDL_law hX hR (SH, RHO, e_u37) h)
theorem SH_bd : Bd (SH, RHO, e_u37) := by
  have h : SH.length ≤ 590000 ∧ ssum SH ≤ 7080000 := by decide +kernel
  exact h
