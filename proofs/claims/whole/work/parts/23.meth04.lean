def FX12_count_b4 (k4 : Int32 → Int32 → Int32 → Option Int32) (l0 l1 l2 : Int32) : Option Int32 :=
  (if 16 ≤ l2 then (some l1) else (k4 l0 (l1 + ((l0 >>> (l2 &&& 31)) &&& 1)) (l2 + 1)))
theorem bX12_count_4 {G : Gt} {X : Xt} {v : Int32} {u : Mem} (hX : CxOk G X cX12_count 3 RX12 (some (.int v), SH, RHO, u) 1) (hR : CxRet G X (some .int) (some (.int v), SH, RHO, u)) {k4 : Int32 → Int32 → Int32 → Option Int32} (hk4 : ∀ (l0 l1 l2 : Int32), k4 l0 l1 l2 = some v → WM G X 4 [(0, .int l0), (1, .int l1), (2, .int l2)] [] SH RHO u) (l0 l1 l2 : Int32) (h : FX12_count_b4 k4 l0 l1 l2 = some v) : WM G X 4 [(0, .int l0), (1, .int l1), (2, .int l2)] [] SH RHO u := by
  unfold FX12_count_b4 at h
  refine w_iload_n 2 4 hX rfl rfl dX12_count_4 ?_
  refine w_bipush 16 5 hX ib_16 dX12_count_5 ?_
  refine w_icmp_ge (tgt := 24) 7 hX dX12_count_7 (by decide) (fun c1 => ?_) (fun c1 => ?_)
  · have h := it h c1
    refine w_iload_n 1 24 hX rfl rfl dX12_count_24 ?_
    exact w_iret 25 hX hR dX12_count_25 (by cases h; rfl)
  · have h := ie h c1
    refine w_iload_n 1 10 hX rfl rfl dX12_count_10 ?_
    refine w_iload_n 0 11 hX rfl rfl dX12_count_11 ?_
    refine w_iload_n 2 12 hX rfl rfl dX12_count_12 ?_
    refine w_ishr 13 hX dX12_count_13 ?_
    refine w_iconst 1 14 hX ic_1 dX12_count_14 ?_
    refine w_iand 15 hX dX12_count_15 ?_
    refine w_iadd 16 hX dX12_count_16 ?_
    refine w_istore_n (lv' := [(1, .int (l1 + ((l0 >>> (l2 &&& 31)) &&& 1))), (0, .int l0), (2, .int l2)]) 17 hX rfl dX12_count_17 (by decide) rfl ?_
    refine w_iinc (lv' := [(2, .int (l2 + 1)), (1, .int (l1 + ((l0 >>> (l2 &&& 31)) &&& 1))), (0, .int l0)]) 18 2 hX dX12_count_18 rfl (inc_1 _) (by decide) rfl ?_
    refine w_goto (tgt := 4) 21 hX (by decide) dX12_count_21 ?_
    exact w_sub [2, 1, 0] rfl (hk4 l0 (l1 + ((l0 >>> (l2 &&& 31)) &&& 1)) (l2 + 1) h)
def FX12_count_L4 : Nat → Int32 → Int32 → Int32 → Option Int32
  | 0, _, _, _ => none
  | n + 1, l0, l1, l2 => FX12_count_b4 (FX12_count_L4 n) l0 l1 l2
theorem lX12_count_4 {G : Gt} {X : Xt} {v : Int32} {u : Mem} (hX : CxOk G X cX12_count 3 RX12 (some (.int v), SH, RHO, u) 1) (hR : CxRet G X (some .int) (some (.int v), SH, RHO, u)) : ∀ (n : Nat) (l0 l1 l2 : Int32), FX12_count_L4 n l0 l1 l2 = some v → WM G X 4 [(0, .int l0), (1, .int l1), (2, .int l2)] [] SH RHO u := by
  intro n
  induction n with
  | zero =>
    intro l0 l1 l2 h
    exact nn_ h
  | succ n ih =>
    intro l0 l1 l2 h
    exact bX12_count_4 hX hR ih l0 l1 l2 h
def FX12_count (p0 : Int32) : Option Int32 :=
  FX12_count_L4 FU p0 0 0
theorem CX12_count {G : Gt} (p0 : Int32) (u : Mem) {v : Int32} (h : FX12_count p0 = some v) : CT G yX12_count cX12_count 3 (some .int) 1 [.int p0] SH RHO u (some (.int v), SH, RHO, u) :=
  ct_of (by decide) rfl (Nat.le_of_ble_eq_true rfl) (Nat.le_refl _) (Nat.le_refl _) (fun X hX hR => by
  unfold FX12_count at h
  refine w_iconst 0 0 hX ic_0 dX12_count_0 ?_
  refine w_istore_n (lv' := [(1, .int 0), (0, .int p0)]) 1 hX rfl dX12_count_1 (by decide) rfl ?_
  refine w_iconst 0 2 hX ic_0 dX12_count_2 ?_
  refine w_istore_n (lv' := [(2, .int 0), (1, .int 0), (0, .int p0)]) 3 hX rfl dX12_count_3 (by decide) rfl ?_
  exact w_sub [2, 1, 0] rfl (lX12_count_4 hX hR FU p0 0 0 h))
def FX12_greater (p0 p1 : Int32) : Option Int32 :=
  (if p0 ≤ p1 then (some p1) else (some p0))
theorem CX12_greater {G : Gt} (p0 p1 : Int32) (u : Mem) {v : Int32} (h : FX12_greater p0 p1 = some v) : CT G yX12_greater cX12_greater 2 (some .int) 1 [.int p0, .int p1] SH RHO u (some (.int v), SH, RHO, u) :=
  ct_of (by decide) rfl (Nat.le_of_ble_eq_true rfl) (Nat.le_refl _) (Nat.le_refl _) (fun X hX hR => by
  unfold FX12_greater at h
  refine w_iload_n 0 0 hX rfl rfl dX12_greater_0 ?_
  refine w_iload_n 1 1 hX rfl rfl dX12_greater_1 ?_
  refine w_icmp_le (tgt := 9) 2 hX dX12_greater_2 (by decide) (fun c1 => ?_) (fun c1 => ?_)
  · have h := it h c1
    refine w_iload_n 1 9 hX rfl rfl dX12_greater_9 ?_
    exact w_iret 10 hX hR dX12_greater_10 (by cases h; rfl)
  · have h := ie h c1
    refine w_iload_n 0 5 hX rfl rfl dX12_greater_5 ?_
    refine w_goto (tgt := 10) 6 hX (by decide) dX12_greater_6 ?_
    exact w_iret 10 hX hR dX12_greater_10 (by cases h; rfl))
def FX12_both_b101 (l1 l2 : Int32) : Option Int32 :=
  some (l1 ||| l2)
theorem bX12_both_101 {G : Gt} {X : Xt} {v : Int32} {u : Mem} (hX : CxOk G X cX12_both 3 RX12 (some (.int v), SH, RHO, u) 1) (hR : CxRet G X (some .int) (some (.int v), SH, RHO, u)) (l1 l2 : Int32) (h : FX12_both_b101 l1 l2 = some v) : WM G X 101 [(1, .int l1), (2, .int l2)] [] SH RHO u := by
  unfold FX12_both_b101 at h
  refine w_iload_n 0 101 hX rfl rfl dX12_both_101 ?_
  refine w_iload_n 1 102 hX rfl rfl dX12_both_102 ?_
  refine w_ior 103 hX dX12_both_103 ?_
  exact w_iret 104 hX hR dX12_both_104 (by cases h; rfl)
def FX12_both (p0 p1 p2 : Int32) : Option Int32 :=
  (if p0 = 23 then (some (p1 + p2)) else ((if p0 = 24 then (some (p1 - p2)) else ((if p0 = 25 then (some (p1 * p2)) else ((if p0 = 26 then (FX12_both_b101 p1 p2) else ((if p0 = 27 then ((if p2 ≤ p1 then (some 0) else (some 1))) else ((if p0 = 28 then ((if p1 = p2 then (some 1) else (some 0))) else ((if p0 = 29 then ((if p1 ≤ p2 then (some 0) else (some 1))) else ((if p0 = 30 then (FX12_both_b101 p1 p2) else ((if p0 = 31 then (some (p1 &&& p2)) else (FX12_both_b101 p1 p2))))))))))))))))))
theorem CX12_both {G : Gt} (p0 p1 p2 : Int32) (u : Mem) {v : Int32} (h : FX12_both p0 p1 p2 = some v) : CT G yX12_both cX12_both 3 (some .int) 1 [.int p0, .int p1, .int p2] SH RHO u (some (.int v), SH, RHO, u) :=
  ct_of (by decide) rfl (Nat.le_of_ble_eq_true rfl) (Nat.le_refl _) (Nat.le_refl _) (fun X hX hR => by
  unfold FX12_both at h
  refine w_iload_n 0 0 hX rfl rfl dX12_both_0 ?_
  by_cases c1 : p0 = 23
  · have h := it h c1
    refine w_tabIn (tgt := 52) (off := 51) 1 hX dX12_both_1 (by rw [c1]; decide) (by rw [c1]; decide) (by rw [c1]; decide) (by decide) ?_
    refine w_iload_n 1 52 hX rfl rfl dX12_both_52 ?_
    refine w_iload_n 2 53 hX rfl rfl dX12_both_53 ?_
    refine w_iadd 54 hX dX12_both_54 ?_
    exact w_iret 55 hX hR dX12_both_55 (by cases h; rfl)
  · have h := ie h c1
    by_cases c2 : p0 = 24
    · have h := it h c2
      refine w_tabIn (tgt := 56) (off := 55) 1 hX dX12_both_1 (by rw [c2]; decide) (by rw [c2]; decide) (by rw [c2]; decide) (by decide) ?_
      refine w_iload_n 1 56 hX rfl rfl dX12_both_56 ?_
      refine w_iload_n 2 57 hX rfl rfl dX12_both_57 ?_
      refine w_isub 58 hX dX12_both_58 ?_
      exact w_iret 59 hX hR dX12_both_59 (by cases h; rfl)
    · have h := ie h c2
      by_cases c3 : p0 = 25
      · have h := it h c3
        refine w_tabIn (tgt := 60) (off := 59) 1 hX dX12_both_1 (by rw [c3]; decide) (by rw [c3]; decide) (by rw [c3]; decide) (by decide) ?_
        refine w_iload_n 1 60 hX rfl rfl dX12_both_60 ?_
        refine w_iload_n 2 61 hX rfl rfl dX12_both_61 ?_
        refine w_imul 62 hX dX12_both_62 ?_
        exact w_iret 63 hX hR dX12_both_63 (by cases h; rfl)
      · have h := ie h c3
        by_cases c4 : p0 = 26
        · have h := it h c4
          refine w_tabIn (tgt := 101) (off := 100) 1 hX dX12_both_1 (by rw [c4]; decide) (by rw [c4]; decide) (by rw [c4]; decide) (by decide) ?_
          exact w_sub [1, 2] rfl (bX12_both_101 hX hR p1 p2 h)
        · have h := ie h c4
          by_cases c5 : p0 = 27
          · have h := it h c5
            refine w_tabIn (tgt := 64) (off := 63) 1 hX dX12_both_1 (by rw [c5]; decide) (by rw [c5]; decide) (by rw [c5]; decide) (by decide) ?_
            refine w_iload_n 1 64 hX rfl rfl dX12_both_64 ?_
            refine w_iload_n 2 65 hX rfl rfl dX12_both_65 ?_
            refine w_icmp_ge (tgt := 73) 66 hX dX12_both_66 (by decide) (fun c6 => ?_) (fun c6 => ?_)
            · have h := it h c6
              refine w_iconst 0 73 hX ic_0 dX12_both_73 ?_
              exact w_iret 74 hX hR dX12_both_74 (by cases h; rfl)
            · have h := ie h c6
              refine w_iconst 1 69 hX ic_1 dX12_both_69 ?_
              refine w_goto (tgt := 74) 70 hX (by decide) dX12_both_70 ?_
              exact w_iret 74 hX hR dX12_both_74 (by cases h; rfl)
          · have h := ie h c5
            by_cases c7 : p0 = 28
            · have h := it h c7
              refine w_tabIn (tgt := 75) (off := 74) 1 hX dX12_both_1 (by rw [c7]; decide) (by rw [c7]; decide) (by rw [c7]; decide) (by decide) ?_
              refine w_iload_n 1 75 hX rfl rfl dX12_both_75 ?_
              refine w_iload_n 2 76 hX rfl rfl dX12_both_76 ?_
              refine w_icmp_ne (tgt := 84) 77 hX dX12_both_77 (by decide) (fun c8 => ?_) (fun c8 => ?_)
              · have h := ie h c8
                refine w_iconst 0 84 hX ic_0 dX12_both_84 ?_
                exact w_iret 85 hX hR dX12_both_85 (by cases h; rfl)
              · have h := it h c8
                refine w_iconst 1 80 hX ic_1 dX12_both_80 ?_
                refine w_goto (tgt := 85) 81 hX (by decide) dX12_both_81 ?_
                exact w_iret 85 hX hR dX12_both_85 (by cases h; rfl)
            · have h := ie h c7
              by_cases c9 : p0 = 29
              · have h := it h c9
                refine w_tabIn (tgt := 86) (off := 85) 1 hX dX12_both_1 (by rw [c9]; decide) (by rw [c9]; decide) (by rw [c9]; decide) (by decide) ?_
                refine w_iload_n 1 86 hX rfl rfl dX12_both_86 ?_
                refine w_iload_n 2 87 hX rfl rfl dX12_both_87 ?_
                refine w_icmp_le (tgt := 95) 88 hX dX12_both_88 (by decide) (fun c10 => ?_) (fun c10 => ?_)
                · have h := it h c10
                  refine w_iconst 0 95 hX ic_0 dX12_both_95 ?_
                  exact w_iret 96 hX hR dX12_both_96 (by cases h; rfl)
                · have h := ie h c10
                  refine w_iconst 1 91 hX ic_1 dX12_both_91 ?_
                  refine w_goto (tgt := 96) 92 hX (by decide) dX12_both_92 ?_
                  exact w_iret 96 hX hR dX12_both_96 (by cases h; rfl)
              · have h := ie h c9
                by_cases c11 : p0 = 30
                · have h := it h c11
                  refine w_tabIn (tgt := 101) (off := 100) 1 hX dX12_both_1 (by rw [c11]; decide) (by rw [c11]; decide) (by rw [c11]; decide) (by decide) ?_
                  exact w_sub [1, 2] rfl (bX12_both_101 hX hR p1 p2 h)
                · have h := ie h c11
                  by_cases c12 : p0 = 31
                  · have h := it h c12
                    refine w_tabIn (tgt := 97) (off := 96) 1 hX dX12_both_1 (by rw [c12]; decide) (by rw [c12]; decide) (by rw [c12]; decide) (by decide) ?_
                    refine w_iload_n 1 97 hX rfl rfl dX12_both_97 ?_
                    refine w_iload_n 2 98 hX rfl rfl dX12_both_98 ?_
                    refine w_iand 99 hX dX12_both_99 ?_
                    exact w_iret 100 hX hR dX12_both_100 (by cases h; rfl)
                  · have h := ie h c12
                    have zc1 := lv_neT c1 (a := 23) (by decide)
                    have zc2 := lv_neT c2 (a := 24) (by decide)
                    have zc3 := lv_neT c3 (a := 25) (by decide)
                    have zc4 := lv_neT c4 (a := 26) (by decide)
                    have zc5 := lv_neT c5 (a := 27) (by decide)
                    have zc7 := lv_neT c7 (a := 28) (by decide)
                    have zc9 := lv_neT c9 (a := 29) (by decide)
                    have zc11 := lv_neT c11 (a := 30) (by decide)
                    have zc12 := lv_neT c12 (a := 31) (by decide)
                    refine w_tabOut (tgt := 101) 1 hX dX12_both_1 (by omega) (by decide) ?_
                    exact w_sub [1, 2] rfl (bX12_both_101 hX hR p1 p2 h))
def FX12_comesTo_146_b180 (k6 : Int32 → Int32 → Int32 → Int32 → Mem → Option (Int32 × Mem)) (l1 l3 l4 l5 : Int32) (u : Mem) : Option (Int32 × Mem) :=
  k6 l1 l3 l4 (l5 + 1) u
theorem bX12_comesTo_146_180 {G : Gt} {X : Xt} {v : Int32} {u' : Mem} (hX : CxOk G X cX12_comesTo 8 RX12 (some (.int v), SH, RHO, u') 2) (hR : CxRet G X (some .int) (some (.int v), SH, RHO, u')) {k6 : Int32 → Int32 → Int32 → Int32 → Mem → Option (Int32 × Mem)} (hk6 : ∀ (l1 l3 l4 l5 : Int32) (u : Mem), k6 l1 l3 l4 l5 u = some (v, u') → WM G X 6 [(0, .ref 146), (1, .int l1), (3, .int l3), (4, .int l4), (5, .int l5)] [] SH RHO u) (l1 l3 l4 l5 : Int32) (u : Mem) (h : FX12_comesTo_146_b180 k6 l1 l3 l4 l5 u = some (v, u')) : WM G X 180 [(0, .ref 146), (1, .int l1), (3, .int l3), (4, .int l4), (5, .int l5)] [] SH RHO u := by
  unfold FX12_comesTo_146_b180 at h
  refine w_iinc (lv' := [(5, .int (l5 + 1)), (0, .ref 146), (1, .int l1), (3, .int l3), (4, .int l4)]) 180 4 hX dX12_comesTo_180 rfl (inc_1 _) (by decide) rfl ?_
  refine w_goto (tgt := 6) 183 hX (by decide) dX12_comesTo_183 ?_
  exact w_sub [1, 2, 3, 4, 0] rfl (hk6 l1 l3 l4 (l5 + 1) u h)
def FX12_comesTo_146_b86 (k6 : Int32 → Int32 → Int32 → Int32 → Mem → Option (Int32 × Mem)) (l1 l3 l4 l5 t1 t2 : Int32) (u : Mem) : Option (Int32 × Mem) :=
  (wrA u 155 420 t1 t2).bind fun u1 => FX12_comesTo_146_b180 k6 l1 l3 (l4 + 1) l5 u1
theorem bX12_comesTo_146_86 {G : Gt} {X : Xt} {v : Int32} {u' : Mem} (hX : CxOk G X cX12_comesTo 8 RX12 (some (.int v), SH, RHO, u') 2) (hR : CxRet G X (some .int) (some (.int v), SH, RHO, u')) {k6 : Int32 → Int32 → Int32 → Int32 → Mem → Option (Int32 × Mem)} (hk6 : ∀ (l1 l3 l4 l5 : Int32) (u : Mem), k6 l1 l3 l4 l5 u = some (v, u') → WM G X 6 [(0, .ref 146), (1, .int l1), (3, .int l3), (4, .int l4), (5, .int l5)] [] SH RHO u) (l1 l3 l4 l5 t1 t2 : Int32) (u : Mem) (h : FX12_comesTo_146_b86 k6 l1 l3 l4 l5 t1 t2 u = some (v, u')) : WM G X 86 [(0, .ref 146), (1, .int l1), (3, .int l3), (4, .int l4), (5, .int l5)] [.int t2, .int t1, .ref 155] SH RHO u := by
  unfold FX12_comesTo_146_b86 at h
  obtain ⟨u1, gu1, h⟩ := o_bind h
  refine w_iast 86 hX s_155 gu1 dX12_comesTo_86 ?_
  refine w_iinc (lv' := [(4, .int (l4 + 1)), (0, .ref 146), (1, .int l1), (3, .int l3), (5, .int l5)]) 87 3 hX dX12_comesTo_87 rfl (inc_1 _) (by decide) rfl ?_
  refine w_goto (tgt := 180) 90 hX (by decide) dX12_comesTo_90 ?_
  exact w_sub [1, 2, 3, 0, 4] rfl (bX12_comesTo_146_180 hX hR hk6 l1 l3 (l4 + 1) l5 u1 h)
def FX12_comesTo_146_b6 (k6 : Int32 → Int32 → Int32 → Int32 → Mem → Option (Int32 × Mem)) (l1 l3 l4 l5 : Int32) (u : Mem) : Option (Int32 × Mem) :=
  (if l3 ≤ l5 then (some (u 155 0, u)) else ((rdA u 147 1786 ((966 + (820 * l1)) + (2 * l5))).bind fun x2 => (rdA u 147 1786 (((966 + (820 * l1)) + (2 * l5)) + 1)).bind fun x3 => (if 23 ≤ x2 then ((if x2 = 26 then ((rdA u 155 420 (l4 - 1)).bind fun x13 => (dvI x13 x3).bind fun x14 => (wrA u 155 420 (l4 - 1) x14).bind fun u15 => FX12_comesTo_146_b180 k6 l1 l3 l4 l5 u15) else ((if x2 = 30 then ((rdA u 155 420 (l4 - 1)).bind fun x11 => (wrA u 155 420 (l4 - 1) (1 - x11)).bind fun u12 => FX12_comesTo_146_b180 k6 l1 l3 l4 l5 u12) else ((rdA u 155 420 ((l4 + (-1)) - 1)).bind fun x7 => (rdA u 155 420 (l4 + (-1))).bind fun x8 => (FX12_both x2 x7 x8).bind fun x9 => (wrA u 155 420 ((l4 + (-1)) - 1) x9).bind fun u10 => FX12_comesTo_146_b180 k6 l1 l3 (l4 + (-1)) l5 u10))))) else ((if x2 = 0 then (FX12_comesTo_146_b86 k6 l1 l3 l4 l5 l4 x3 u) else ((rdA u 156 10 x2).bind fun x17 => FX12_comesTo_146_b86 k6 l1 l3 l4 l5 l4 x17 u))))))
theorem bX12_comesTo_146_6 {G : Gt} {X : Xt} {v : Int32} {u' : Mem} (hX : CxOk G X cX12_comesTo 8 RX12 (some (.int v), SH, RHO, u') 2) (hR : CxRet G X (some .int) (some (.int v), SH, RHO, u')) {k6 : Int32 → Int32 → Int32 → Int32 → Mem → Option (Int32 × Mem)} (hk6 : ∀ (l1 l3 l4 l5 : Int32) (u : Mem), k6 l1 l3 l4 l5 u = some (v, u') → WM G X 6 [(0, .ref 146), (1, .int l1), (3, .int l3), (4, .int l4), (5, .int l5)] [] SH RHO u) (l1 l3 l4 l5 : Int32) (u : Mem) (h : FX12_comesTo_146_b6 k6 l1 l3 l4 l5 u = some (v, u')) : WM G X 6 [(0, .ref 146), (1, .int l1), (3, .int l3), (4, .int l4), (5, .int l5)] [] SH RHO u := by
  unfold FX12_comesTo_146_b6 at h
  refine w_iload 4 6 hX rfl dX12_comesTo_6 ?_
  refine w_iload_n 2 8 hX rfl rfl dX12_comesTo_8 ?_
  refine w_icmp_ge (tgt := 186) 9 hX dX12_comesTo_9 (by decide) (fun c1 => ?_) (fun c1 => ?_)
  · have h := it h c1
    refine w_aload_n 0 186 hX rfl rfl dX12_comesTo_186 ?_
    refine w_getR 187 hX CI_12 s_146 rfl r_146_10 fl_X12_34 rfl dX12_comesTo_187 ?_
    refine w_iconst 0 190 hX ic_0 dX12_comesTo_190 ?_
    refine w_iald 191 hX s_155 (rdK 0 0 n_0 (by decide) (by decide)) dX12_comesTo_191 ?_
    exact w_iret 192 hX hR dX12_comesTo_192 (by cases h; rfl)
  · have h := ie h c1
    refine w_aload_n 0 12 hX rfl rfl dX12_comesTo_12 ?_
    refine w_getR 13 hX CI_12 s_146 rfl r_146_0 fl_X12_7 rfl dX12_comesTo_13 ?_
    refine w_sipush 966 16 hX isp_966 dX12_comesTo_16 ?_
    refine w_sipush 820 19 hX isp_820 dX12_comesTo_19 ?_
    refine w_iload_n 1 22 hX rfl rfl dX12_comesTo_22 ?_
    refine w_imul 23 hX dX12_comesTo_23 ?_
    refine w_iadd 24 hX dX12_comesTo_24 ?_
    refine w_iconst 2 25 hX ic_2 dX12_comesTo_25 ?_
    refine w_iload 4 26 hX rfl dX12_comesTo_26 ?_
    refine w_imul 28 hX dX12_comesTo_28 ?_
    refine w_iadd 29 hX dX12_comesTo_29 ?_
    obtain ⟨x2, gx2, h⟩ := o_bind h
    refine w_iald 30 hX s_147 gx2 dX12_comesTo_30 ?_
    refine w_istore (lv' := [(6, .int x2), (0, .ref 146), (1, .int l1), (3, .int l3), (4, .int l4), (5, .int l5)]) 31 hX dX12_comesTo_31 (by decide) rfl ?_
    refine w_aload_n 1 33 hX rfl rfl dX12_comesTo_33 ?_
    refine w_getR 34 hX CI_12 s_146 rfl r_146_0 fl_X12_7 rfl dX12_comesTo_34 ?_
    refine w_sipush 966 37 hX isp_966 dX12_comesTo_37 ?_
    refine w_sipush 820 40 hX isp_820 dX12_comesTo_40 ?_
    refine w_iload_n 2 43 hX rfl rfl dX12_comesTo_43 ?_
    refine w_imul 44 hX dX12_comesTo_44 ?_
    refine w_iadd 45 hX dX12_comesTo_45 ?_
    refine w_iconst 2 46 hX ic_2 dX12_comesTo_46 ?_
    refine w_iload 5 47 hX rfl dX12_comesTo_47 ?_
    refine w_imul 49 hX dX12_comesTo_49 ?_
    refine w_iadd 50 hX dX12_comesTo_50 ?_
    refine w_iconst 1 51 hX ic_1 dX12_comesTo_51 ?_
    refine w_iadd 52 hX dX12_comesTo_52 ?_
    obtain ⟨x3, gx3, h⟩ := o_bind h
    refine w_iald 53 hX s_147 gx3 dX12_comesTo_53 ?_
    refine w_istore (lv' := [(7, .int x3), (6, .int x2), (0, .ref 146), (1, .int l1), (3, .int l3), (4, .int l4), (5, .int l5)]) 54 hX dX12_comesTo_54 (by decide) rfl ?_
    refine w_iload 1 56 hX rfl dX12_comesTo_56 ?_
    refine w_bipush 23 58 hX ib_23 dX12_comesTo_58 ?_
    refine w_icmp_ge (tgt := 93) 60 hX dX12_comesTo_60 (by decide) (fun c4 => ?_) (fun c4 => ?_)
    · have h := it h c4
      refine w_iload 1 93 hX rfl dX12_comesTo_93 ?_
      refine w_bipush 26 95 hX ib_26 dX12_comesTo_95 ?_
      refine w_icmp_ne (tgt := 117) 97 hX dX12_comesTo_97 (by decide) (fun c5 => ?_) (fun c5 => ?_)
      · have h := ie h c5
        refine w_iload 1 117 hX rfl dX12_comesTo_117 ?_
        refine w_bipush 30 119 hX ib_30 dX12_comesTo_119 ?_
        refine w_icmp_ne (tgt := 147) 121 hX dX12_comesTo_121 (by decide) (fun c6 => ?_) (fun c6 => ?_)
        · have h := ie h c6
          refine w_iinc (lv' := [(4, .int (l4 + (-1))), (7, .int x3), (6, .int x2), (0, .ref 146), (1, .int l1), (3, .int l3), (5, .int l5)]) 147 5 hX dX12_comesTo_147 rfl (inc_m1 _) (by decide) rfl ?_
          refine w_aload_n 3 150 hX rfl rfl dX12_comesTo_150 ?_
          refine w_getR 151 hX CI_12 s_146 rfl r_146_10 fl_X12_34 rfl dX12_comesTo_151 ?_
          refine w_iload 0 154 hX rfl dX12_comesTo_154 ?_
          refine w_iconst 1 156 hX ic_1 dX12_comesTo_156 ?_
          refine w_isub 157 hX dX12_comesTo_157 ?_
          refine w_iload 2 158 hX rfl dX12_comesTo_158 ?_
          refine w_aload_n 3 160 hX rfl rfl dX12_comesTo_160 ?_
          refine w_getR 161 hX CI_12 s_146 rfl r_146_10 fl_X12_34 rfl dX12_comesTo_161 ?_
          refine w_iload 0 164 hX rfl dX12_comesTo_164 ?_
          refine w_iconst 1 166 hX ic_1 dX12_comesTo_166 ?_
          refine w_isub 167 hX dX12_comesTo_167 ?_
          obtain ⟨x7, gx7, h⟩ := o_bind h
          refine w_iald 168 hX s_155 gx7 dX12_comesTo_168 ?_
          refine w_aload_n 3 169 hX rfl rfl dX12_comesTo_169 ?_
          refine w_getR 170 hX CI_12 s_146 rfl r_146_10 fl_X12_34 rfl dX12_comesTo_170 ?_
          refine w_iload 0 173 hX rfl dX12_comesTo_173 ?_
          obtain ⟨x8, gx8, h⟩ := o_bind h
          refine w_iald 175 hX s_155 gx8 dX12_comesTo_175 ?_
          obtain ⟨x9, gx9, h⟩ := o_bind h
          refine w_invSi (av := [.int x2, .int x7, .int x8]) (st := [.int ((l4 + (-1)) - 1), .ref 155]) 176 hX ms_yX12_both mi_yX12_both ml_X12_285 (CX12_both x2 x7 x8 u gx9) rfl (by decide) (Nat.le_of_ble_eq_true rfl) (Nat.le_refl _) (Nat.le_refl _) dX12_comesTo_176 ?_
          obtain ⟨u10, gu10, h⟩ := o_bind h
          refine w_iast 179 hX s_155 gu10 dX12_comesTo_179 ?_
          exact w_sub [3, 4, 5, 0, 6] rfl (bX12_comesTo_146_180 hX hR hk6 l1 l3 (l4 + (-1)) l5 u10 h)
        · have h := it h c6
          refine w_aload_n 2 124 hX rfl rfl dX12_comesTo_124 ?_
          refine w_getR 125 hX CI_12 s_146 rfl r_146_10 fl_X12_34 rfl dX12_comesTo_125 ?_
          refine w_iload 5 128 hX rfl dX12_comesTo_128 ?_
          refine w_iconst 1 130 hX ic_1 dX12_comesTo_130 ?_
          refine w_isub 131 hX dX12_comesTo_131 ?_
          refine w_iconst 1 132 hX ic_1 dX12_comesTo_132 ?_
          refine w_aload_n 2 133 hX rfl rfl dX12_comesTo_133 ?_
          refine w_getR 134 hX CI_12 s_146 rfl r_146_10 fl_X12_34 rfl dX12_comesTo_134 ?_
          refine w_iload 5 137 hX rfl dX12_comesTo_137 ?_
          refine w_iconst 1 139 hX ic_1 dX12_comesTo_139 ?_
          refine w_isub 140 hX dX12_comesTo_140 ?_
          obtain ⟨x11, gx11, h⟩ := o_bind h
          refine w_iald 141 hX s_155 gx11 dX12_comesTo_141 ?_
          refine w_isub 142 hX dX12_comesTo_142 ?_
          obtain ⟨u12, gu12, h⟩ := o_bind h
          refine w_iast 143 hX s_155 gu12 dX12_comesTo_143 ?_
          refine w_goto (tgt := 180) 144 hX (by decide) dX12_comesTo_144 ?_
          exact w_sub [2, 3, 4, 5, 6] rfl (bX12_comesTo_146_180 hX hR hk6 l1 l3 l4 l5 u12 h)
      · have h := it h c5
        refine w_aload_n 2 100 hX rfl rfl dX12_comesTo_100 ?_
        refine w_getR 101 hX CI_12 s_146 rfl r_146_10 fl_X12_34 rfl dX12_comesTo_101 ?_
        refine w_iload 5 104 hX rfl dX12_comesTo_104 ?_
        refine w_iconst 1 106 hX ic_1 dX12_comesTo_106 ?_
        refine w_isub 107 hX dX12_comesTo_107 ?_
        refine w_dup2 108 hX rfl rfl dX12_comesTo_108 ?_
        obtain ⟨x13, gx13, h⟩ := o_bind h
        refine w_iald 109 hX s_155 gx13 dX12_comesTo_109 ?_
        refine w_iload 0 110 hX rfl dX12_comesTo_110 ?_
        obtain ⟨x14, gx14, h⟩ := o_bind h
        obtain ⟨qx14, jx14⟩ := dvI_ok gx14
        refine w_idiv 112 hX qx14 dX12_comesTo_112 ?_
        rw [jx14]
        obtain ⟨u15, gu15, h⟩ := o_bind h
        refine w_iast 113 hX s_155 gu15 dX12_comesTo_113 ?_
        refine w_goto (tgt := 180) 114 hX (by decide) dX12_comesTo_114 ?_
        exact w_sub [2, 3, 4, 5, 6] rfl (bX12_comesTo_146_180 hX hR hk6 l1 l3 l4 l5 u15 h)
    · have h := ie h c4
      refine w_aload_n 2 63 hX rfl rfl dX12_comesTo_63 ?_
      refine w_getR 64 hX CI_12 s_146 rfl r_146_10 fl_X12_34 rfl dX12_comesTo_64 ?_
      refine w_iload 5 67 hX rfl dX12_comesTo_67 ?_
      refine w_iload 1 69 hX rfl dX12_comesTo_69 ?_
      refine w_if_ne (tgt := 79) 71 hX dX12_comesTo_71 (by decide) (fun c16 => ?_) (fun c16 => ?_)
      · have h := ie h c16
        refine w_aload_n 2 79 hX rfl rfl dX12_comesTo_79 ?_
        refine w_getR 80 hX CI_12 s_146 rfl r_146_11 fl_X12_37 rfl dX12_comesTo_80 ?_
        refine w_iload 1 83 hX rfl dX12_comesTo_83 ?_
        obtain ⟨x17, gx17, h⟩ := o_bind h
        refine w_iald 85 hX s_156 gx17 dX12_comesTo_85 ?_
        exact w_sub [2, 3, 4, 5, 6] rfl (bX12_comesTo_146_86 hX hR hk6 l1 l3 l4 l5 l4 x17 u h)
      · have h := it h c16
        refine w_iload 0 74 hX rfl dX12_comesTo_74 ?_
        refine w_goto (tgt := 86) 76 hX (by decide) dX12_comesTo_76 ?_
        exact w_sub [2, 3, 4, 5, 6] rfl (bX12_comesTo_146_86 hX hR hk6 l1 l3 l4 l5 l4 x3 u h)
def FX12_comesTo_146_L6 : Nat → Int32 → Int32 → Int32 → Int32 → Mem → Option (Int32 × Mem)
  | 0, _, _, _, _, _ => none
  | n + 1, l1, l3, l4, l5, u => FX12_comesTo_146_b6 (FX12_comesTo_146_L6 n) l1 l3 l4 l5 u
theorem lX12_comesTo_146_6 {G : Gt} {X : Xt} {v : Int32} {u' : Mem} (hX : CxOk G X cX12_comesTo 8 RX12 (some (.int v), SH, RHO, u') 2) (hR : CxRet G X (some .int) (some (.int v), SH, RHO, u')) : ∀ (n : Nat) (l1 l3 l4 l5 : Int32) (u : Mem), FX12_comesTo_146_L6 n l1 l3 l4 l5 u = some (v, u') → WM G X 6 [(0, .ref 146), (1, .int l1), (3, .int l3), (4, .int l4), (5, .int l5)] [] SH RHO u := by
  intro n
  induction n with
  | zero =>
    intro l1 l3 l4 l5 u h
    exact nn_ h
  | succ n ih =>
    intro l1 l3 l4 l5 u h
    exact bX12_comesTo_146_6 hX hR ih l1 l3 l4 l5 u h
def FX12_comesTo_146 (p1 p2 p3 : Int32) (u : Mem) : Option (Int32 × Mem) :=
  FX12_comesTo_146_L6 FU p1 p3 0 p2 u
theorem CX12_comesTo_146 {G : Gt} (p1 p2 p3 : Int32) (u : Mem) {v : Int32} {u' : Mem} (h : FX12_comesTo_146 p1 p2 p3 u = some (v, u')) : CT G yX12_comesTo cX12_comesTo 8 (some .int) 2 [.ref 146, .int p1, .int p2, .int p3] SH RHO u (some (.int v), SH, RHO, u') :=
  ct_of (by decide) rfl (Nat.le_of_ble_eq_true rfl) (Nat.le_refl _) (Nat.le_refl _) (fun X hX hR => by
  unfold FX12_comesTo_146 at h
  refine w_iconst 0 0 hX ic_0 dX12_comesTo_0 ?_
  refine w_istore (lv' := [(4, .int 0), (0, .ref 146), (1, .int p1), (2, .int p2), (3, .int p3)]) 1 hX dX12_comesTo_1 (by decide) rfl ?_
  refine w_iload_n 3 3 hX rfl rfl dX12_comesTo_3 ?_
  refine w_istore (lv' := [(5, .int p2), (4, .int 0), (0, .ref 146), (1, .int p1), (2, .int p2), (3, .int p3)]) 4 hX dX12_comesTo_4 (by decide) rfl ?_
  exact w_sub [2, 3, 5, 1, 0] rfl (lX12_comesTo_146_6 hX hR FU p1 p3 0 p2 u h))
def FX12_isSo_146 (p1 : Int32) (u : Mem) : Option (Int32 × Mem) :=
  (rdA u 147 1786 (932 + p1)).bind fun x1 => (rdA u 147 1786 (916 + p1)).bind fun x2 => (if x1 = x2 then (some (1, u)) else ((rdA u 147 1786 (916 + p1)).bind fun x4 => (rdA u 147 1786 (932 + p1)).bind fun x5 => bnd2 (FX12_comesTo_146 0 x4 x5 u) fun x6 u7 => (if x6 = 1 then (some (1, u7)) else (some (0, u7)))))
theorem CX12_isSo_146 {G : Gt} (p1 : Int32) (u : Mem) {v : Int32} {u' : Mem} (h : FX12_isSo_146 p1 u = some (v, u')) : CT G yX12_isSo cX12_isSo 2 (some .boolean) 3 [.ref 146, .int p1] SH RHO u (some (.int v), SH, RHO, u') :=
  ct_of (by decide) rfl (Nat.le_of_ble_eq_true rfl) (Nat.le_refl _) (Nat.le_refl _) (fun X hX hR => by
  unfold FX12_isSo_146 at h
  refine w_aload_n 0 0 hX rfl rfl dX12_isSo_0 ?_
  refine w_getR 1 hX CI_12 s_146 rfl r_146_0 fl_X12_7 rfl dX12_isSo_1 ?_
  refine w_sipush 932 4 hX isp_932 dX12_isSo_4 ?_
  refine w_iload_n 1 7 hX rfl rfl dX12_isSo_7 ?_
  refine w_iadd 8 hX dX12_isSo_8 ?_
  obtain ⟨x1, gx1, h⟩ := o_bind h
  refine w_iald 9 hX s_147 gx1 dX12_isSo_9 ?_
  refine w_aload_n 0 10 hX rfl rfl dX12_isSo_10 ?_
  refine w_getR 11 hX CI_12 s_146 rfl r_146_0 fl_X12_7 rfl dX12_isSo_11 ?_
  refine w_sipush 916 14 hX isp_916 dX12_isSo_14 ?_
  refine w_iload_n 1 17 hX rfl rfl dX12_isSo_17 ?_
  refine w_iadd 18 hX dX12_isSo_18 ?_
  obtain ⟨x2, gx2, h⟩ := o_bind h
  refine w_iald 19 hX s_147 gx2 dX12_isSo_19 ?_
  refine w_icmp_eq (tgt := 52) 20 hX dX12_isSo_20 (by decide) (fun c3 => ?_) (fun c3 => ?_)
  · have h := it h c3
    refine w_iconst 1 52 hX ic_1 dX12_isSo_52 ?_
    refine w_goto (tgt := 57) 53 hX (by decide) dX12_isSo_53 ?_
    exact w_zret 57 hX hR (by decide) dX12_isSo_57 (by cases h; rfl)
  · have h := ie h c3
    refine w_aload_n 0 23 hX rfl rfl dX12_isSo_23 ?_
    refine w_iconst 0 24 hX ic_0 dX12_isSo_24 ?_
    refine w_aload_n 0 25 hX rfl rfl dX12_isSo_25 ?_
    refine w_getR 26 hX CI_12 s_146 rfl r_146_0 fl_X12_7 rfl dX12_isSo_26 ?_
    refine w_sipush 916 29 hX isp_916 dX12_isSo_29 ?_
    refine w_iload_n 1 32 hX rfl rfl dX12_isSo_32 ?_
    refine w_iadd 33 hX dX12_isSo_33 ?_
    obtain ⟨x4, gx4, h⟩ := o_bind h
    refine w_iald 34 hX s_147 gx4 dX12_isSo_34 ?_
    refine w_aload_n 0 35 hX rfl rfl dX12_isSo_35 ?_
    refine w_getR 36 hX CI_12 s_146 rfl r_146_0 fl_X12_7 rfl dX12_isSo_36 ?_
    refine w_sipush 932 39 hX isp_932 dX12_isSo_39 ?_
    refine w_iload_n 1 42 hX rfl rfl dX12_isSo_42 ?_
    refine w_iadd 43 hX dX12_isSo_43 ?_
    obtain ⟨x5, gx5, h⟩ := o_bind h
    refine w_iald 44 hX s_147 gx5 dX12_isSo_44 ?_
    obtain ⟨x6, u7, gx6, h⟩ := o_bnd2 h
    refine w_invVi (av := [.int 0, .int x4, .int x5]) (st := []) 45 hX CI_12 s_146 rfl mv_yX12_comesTo mi_yX12_comesTo ml_X12_288 (CX12_comesTo_146 0 x4 x5 u gx6) rfl (by decide) (Nat.le_of_ble_eq_true rfl) (Nat.le_refl _) (Nat.le_refl _) dX12_isSo_45 ?_
    refine w_iconst 1 48 hX ic_1 dX12_isSo_48 ?_
    refine w_icmp_ne (tgt := 56) 49 hX dX12_isSo_49 (by decide) (fun c8 => ?_) (fun c8 => ?_)
    · have h := ie h c8
      refine w_iconst 0 56 hX ic_0 dX12_isSo_56 ?_
      exact w_zret 57 hX hR (by decide) dX12_isSo_57 (by cases h; rfl)
    · have h := it h c8
      refine w_iconst 1 52 hX ic_1 dX12_isSo_52 ?_
      refine w_goto (tgt := 57) 53 hX (by decide) dX12_isSo_53 ?_
      exact w_zret 57 hX hR (by decide) dX12_isSo_57 (by cases h; rfl))
def FX12_says_146_b258 (k185 : Int32 → Int32 → Int32 → Int32 → Mem → Option (Int32 × Mem)) (l1 l3 l4 l6 : Int32) (u : Mem) : Option (Int32 × Mem) :=
  k185 l1 l3 l4 (l6 + 1) u
theorem bX12_says_146_258 {G : Gt} {X : Xt} {v : Int32} {u' : Mem} (hX : CxOk G X cX12_says 7 RX12 (some (.int v), SH, RHO, u') 4) (hR : CxRet G X (some .int) (some (.int v), SH, RHO, u')) {k185 : Int32 → Int32 → Int32 → Int32 → Mem → Option (Int32 × Mem)} (hk185 : ∀ (l1 l3 l4 l6 : Int32) (u : Mem), k185 l1 l3 l4 l6 u = some (v, u') → WM G X 185 [(0, .ref 146), (1, .int l1), (3, .int l3), (4, .int l4), (6, .int l6)] [] SH RHO u) (l1 l3 l4 l6 : Int32) (u : Mem) (h : FX12_says_146_b258 k185 l1 l3 l4 l6 u = some (v, u')) : WM G X 258 [(0, .ref 146), (1, .int l1), (3, .int l3), (4, .int l4), (6, .int l6)] [] SH RHO u := by
  unfold FX12_says_146_b258 at h
  refine w_iinc (lv' := [(6, .int (l6 + 1)), (0, .ref 146), (1, .int l1), (3, .int l3), (4, .int l4)]) 258 4 hX dX12_says_258 rfl (inc_1 _) (by decide) rfl ?_
  refine w_goto (tgt := 185) 261 hX (by decide) dX12_says_261 ?_
  exact w_sub [1, 2, 3, 4, 0] rfl (hk185 l1 l3 l4 (l6 + 1) u h)
def FX12_says_146_b185 (k185 : Int32 → Int32 → Int32 → Int32 → Mem → Option (Int32 × Mem)) (l1 l3 l4 l6 : Int32) (u : Mem) : Option (Int32 × Mem) :=
  (if (u 147 84) ≤ l6 then ((FX12_lesser l4 l3).bind fun x2 => (FX12_greater 0 x2).bind fun x3 => some (x3, u)) else ((rdA u 147 1786 (948 + l6)).bind fun x4 => (if x4 = l1 then (bnd2 (FX12_isSo_146 l6 u) fun x6 u7 => (if x6 = 0 then (FX12_says_146_b258 k185 l1 l3 l4 l6 u7) else ((rdA u7 147 1786 (900 + l6)).bind fun x9 => (rdA u7 147 1786 (916 + l6)).bind fun x10 => bnd2 (FX12_comesTo_146 0 x9 x10 u7) fun x11 u12 => (FX12_lesser l4 x11).bind fun x13 => (FX12_greater 0 x13).bind fun x14 => some (x14, u12)))) else (FX12_says_146_b258 k185 l1 l3 l4 l6 u))))
theorem bX12_says_146_185 {G : Gt} {X : Xt} {v : Int32} {u' : Mem} (hX : CxOk G X cX12_says 7 RX12 (some (.int v), SH, RHO, u') 4) (hR : CxRet G X (some .int) (some (.int v), SH, RHO, u')) {k185 : Int32 → Int32 → Int32 → Int32 → Mem → Option (Int32 × Mem)} (hk185 : ∀ (l1 l3 l4 l6 : Int32) (u : Mem), k185 l1 l3 l4 l6 u = some (v, u') → WM G X 185 [(0, .ref 146), (1, .int l1), (3, .int l3), (4, .int l4), (6, .int l6)] [] SH RHO u) (l1 l3 l4 l6 : Int32) (u : Mem) (h : FX12_says_146_b185 k185 l1 l3 l4 l6 u = some (v, u')) : WM G X 185 [(0, .ref 146), (1, .int l1), (3, .int l3), (4, .int l4), (6, .int l6)] [] SH RHO u := by
  unfold FX12_says_146_b185 at h
  refine w_iload 4 185 hX rfl dX12_says_185 ?_
  refine w_aload_n 0 187 hX rfl rfl dX12_says_187 ?_
  refine w_getR 188 hX CI_12 s_146 rfl r_146_0 fl_X12_7 rfl dX12_says_188 ?_
  refine w_bipush 84 191 hX ib_84 dX12_says_191 ?_
  refine w_iald 193 hX s_147 (rdK 84 84 n_84 (by decide) (by decide)) dX12_says_193 ?_
  refine w_icmp_ge (tgt := 264) 194 hX dX12_says_194 (by decide) (fun c1 => ?_) (fun c1 => ?_)
  · have h := it h c1
    refine w_iconst 0 264 hX ic_0 dX12_says_264 ?_
    refine w_iload 3 265 hX rfl dX12_says_265 ?_
    refine w_iload_n 2 267 hX rfl rfl dX12_says_267 ?_
    obtain ⟨x2, gx2, h⟩ := o_bind h
    refine w_invSi (av := [.int l4, .int l3]) (st := [.int 0]) 268 hX ms_yX12_lesser mi_yX12_lesser ml_X12_297 (CX12_lesser l4 l3 u gx2) rfl (by decide) (Nat.le_of_ble_eq_true rfl) (Nat.le_refl _) (Nat.le_refl _) dX12_says_268 ?_
    obtain ⟨x3, gx3, h⟩ := o_bind h
    refine w_invSi (av := [.int 0, .int x2]) (st := []) 271 hX ms_yX12_greater mi_yX12_greater ml_X12_300 (CX12_greater 0 x2 u gx3) rfl (by decide) (Nat.le_of_ble_eq_true rfl) (Nat.le_refl _) (Nat.le_refl _) dX12_says_271 ?_
    exact w_iret 274 hX hR dX12_says_274 (by cases h; rfl)
  · have h := ie h c1
    refine w_aload_n 0 197 hX rfl rfl dX12_says_197 ?_
    refine w_getR 198 hX CI_12 s_146 rfl r_146_0 fl_X12_7 rfl dX12_says_198 ?_
    refine w_sipush 948 201 hX isp_948 dX12_says_201 ?_
    refine w_iload 4 204 hX rfl dX12_says_204 ?_
    refine w_iadd 206 hX dX12_says_206 ?_
    obtain ⟨x4, gx4, h⟩ := o_bind h
    refine w_iald 207 hX s_147 gx4 dX12_says_207 ?_
    refine w_iload_n 1 208 hX rfl rfl dX12_says_208 ?_
    refine w_icmp_ne (tgt := 258) 209 hX dX12_says_209 (by decide) (fun c5 => ?_) (fun c5 => ?_)
    · have h := ie h c5
      exact bX12_says_146_258 hX hR hk185 l1 l3 l4 l6 u h
    · have h := it h c5
      refine w_aload_n 0 212 hX rfl rfl dX12_says_212 ?_
      refine w_iload 4 213 hX rfl dX12_says_213 ?_
      obtain ⟨x6, u7, gx6, h⟩ := o_bnd2 h
      refine w_invVi (av := [.int l6]) (st := []) 215 hX CI_12 s_146 rfl mv_yX12_isSo mi_yX12_isSo ml_X12_294 (CX12_isSo_146 l6 u gx6) rfl (by decide) (Nat.le_of_ble_eq_true rfl) (Nat.le_refl _) (Nat.le_refl _) dX12_says_215 ?_
      refine w_if_eq (tgt := 258) 218 hX dX12_says_218 (by decide) (fun c8 => ?_) (fun c8 => ?_)
      · have h := it h c8
        exact bX12_says_146_258 hX hR hk185 l1 l3 l4 l6 u7 h
      · have h := ie h c8
        refine w_iconst 0 221 hX ic_0 dX12_says_221 ?_
        refine w_iload 3 222 hX rfl dX12_says_222 ?_
        refine w_aload_n 0 224 hX rfl rfl dX12_says_224 ?_
        refine w_iconst 0 225 hX ic_0 dX12_says_225 ?_
        refine w_aload_n 0 226 hX rfl rfl dX12_says_226 ?_
        refine w_getR 227 hX CI_12 s_146 rfl r_146_0 fl_X12_7 rfl dX12_says_227 ?_
        refine w_sipush 900 230 hX isp_900 dX12_says_230 ?_
        refine w_iload 4 233 hX rfl dX12_says_233 ?_
        refine w_iadd 235 hX dX12_says_235 ?_
        obtain ⟨x9, gx9, h⟩ := o_bind h
        refine w_iald 236 hX s_147 gx9 dX12_says_236 ?_
        refine w_aload_n 0 237 hX rfl rfl dX12_says_237 ?_
        refine w_getR 238 hX CI_12 s_146 rfl r_146_0 fl_X12_7 rfl dX12_says_238 ?_
        refine w_sipush 916 241 hX isp_916 dX12_says_241 ?_
        refine w_iload 4 244 hX rfl dX12_says_244 ?_
        refine w_iadd 246 hX dX12_says_246 ?_
        obtain ⟨x10, gx10, h⟩ := o_bind h
        refine w_iald 247 hX s_147 gx10 dX12_says_247 ?_
        obtain ⟨x11, u12, gx11, h⟩ := o_bnd2 h
        refine w_invVi (av := [.int 0, .int x9, .int x10]) (st := [.int l4, .int 0]) 248 hX CI_12 s_146 rfl mv_yX12_comesTo mi_yX12_comesTo ml_X12_288 (CX12_comesTo_146 0 x9 x10 u7 gx11) rfl (by decide) (Nat.le_of_ble_eq_true rfl) (Nat.le_refl _) (Nat.le_refl _) dX12_says_248 ?_
        obtain ⟨x13, gx13, h⟩ := o_bind h
        refine w_invSi (av := [.int l4, .int x11]) (st := [.int 0]) 251 hX ms_yX12_lesser mi_yX12_lesser ml_X12_297 (CX12_lesser l4 x11 u12 gx13) rfl (by decide) (Nat.le_of_ble_eq_true rfl) (Nat.le_refl _) (Nat.le_refl _) dX12_says_251 ?_
        obtain ⟨x14, gx14, h⟩ := o_bind h
        refine w_invSi (av := [.int 0, .int x13]) (st := []) 254 hX ms_yX12_greater mi_yX12_greater ml_X12_300 (CX12_greater 0 x13 u12 gx14) rfl (by decide) (Nat.le_of_ble_eq_true rfl) (Nat.le_refl _) (Nat.le_refl _) dX12_says_254 ?_
        exact w_iret 257 hX hR dX12_says_257 (by cases h; rfl)
def FX12_says_146_L185 : Nat → Int32 → Int32 → Int32 → Int32 → Mem → Option (Int32 × Mem)
  | 0, _, _, _, _, _ => none
  | n + 1, l1, l3, l4, l6, u => FX12_says_146_b185 (FX12_says_146_L185 n) l1 l3 l4 l6 u
theorem lX12_says_146_185 {G : Gt} {X : Xt} {v : Int32} {u' : Mem} (hX : CxOk G X cX12_says 7 RX12 (some (.int v), SH, RHO, u') 4) (hR : CxRet G X (some .int) (some (.int v), SH, RHO, u')) : ∀ (n : Nat) (l1 l3 l4 l6 : Int32) (u : Mem), FX12_says_146_L185 n l1 l3 l4 l6 u = some (v, u') → WM G X 185 [(0, .ref 146), (1, .int l1), (3, .int l3), (4, .int l4), (6, .int l6)] [] SH RHO u := by
  intro n
  induction n with
  | zero =>
    intro l1 l3 l4 l6 u h
    exact nn_ h
  | succ n ih =>
    intro l1 l3 l4 l6 u h
    exact bX12_says_146_185 hX hR ih l1 l3 l4 l6 u h
def FX12_says_146_b181 (l1 l3 l4 t1 t2 : Int32) (u : Mem) : Option (Int32 × Mem) :=
  (wrA u 156 10 t1 t2).bind fun u1 => FX12_says_146_L185 FU l1 l3 l4 0 u1
theorem bX12_says_146_181 {G : Gt} {X : Xt} {v : Int32} {u' : Mem} (hX : CxOk G X cX12_says 7 RX12 (some (.int v), SH, RHO, u') 4) (hR : CxRet G X (some .int) (some (.int v), SH, RHO, u')) (l1 l3 l4 t1 t2 : Int32) (u : Mem) (h : FX12_says_146_b181 l1 l3 l4 t1 t2 u = some (v, u')) : WM G X 181 [(0, .ref 146), (1, .int l1), (3, .int l3), (4, .int l4)] [.int t2, .int t1, .ref 156] SH RHO u := by
  unfold FX12_says_146_b181 at h
  obtain ⟨u1, gu1, h⟩ := o_bind h
  refine w_iast 181 hX s_156 gu1 dX12_says_181 ?_
  refine w_iconst 0 182 hX ic_0 dX12_says_182 ?_
  refine w_istore (lv' := [(6, .int 0), (0, .ref 146), (1, .int l1), (3, .int l3), (4, .int l4)]) 183 hX dX12_says_183 (by decide) rfl ?_
  exact w_sub [1, 2, 3, 4, 0] rfl (lX12_says_146_185 hX hR FU l1 l3 l4 0 u1 h)
def FX12_says_146_b121 (l1 l2 l3 l4 l5 t1 t2 : Int32) (u : Mem) : Option (Int32 × Mem) :=
  (wrA u 156 10 t1 t2).bind fun u1 => (some (mupd u1 156 7 (u1 147 0))).bind fun u2 => (some (mupd u2 156 8 (u2 147 80))).bind fun u3 => (if l5 = 0 then (FX12_says_146_b181 l1 l3 l4 9 0 u3) else ((rdA u3 147 1786 (52 + l2)).bind fun x5 => (rdA u3 147 1786 (126 + x5)).bind fun x6 => FX12_says_146_b181 l1 l3 l4 9 x6 u3))
theorem bX12_says_146_121 {G : Gt} {X : Xt} {v : Int32} {u' : Mem} (hX : CxOk G X cX12_says 7 RX12 (some (.int v), SH, RHO, u') 4) (hR : CxRet G X (some .int) (some (.int v), SH, RHO, u')) (l1 l2 l3 l4 l5 t1 t2 : Int32) (u : Mem) (h : FX12_says_146_b121 l1 l2 l3 l4 l5 t1 t2 u = some (v, u')) : WM G X 121 [(0, .ref 146), (1, .int l1), (2, .int l2), (3, .int l3), (4, .int l4), (5, .int l5)] [.int t2, .int t1, .ref 156] SH RHO u := by
  unfold FX12_says_146_b121 at h
  obtain ⟨u1, gu1, h⟩ := o_bind h
  refine w_iast 121 hX s_156 gu1 dX12_says_121 ?_
  refine w_aload_n 0 122 hX rfl rfl dX12_says_122 ?_
  refine w_getR 123 hX CI_12 s_146 rfl r_146_11 fl_X12_37 rfl dX12_says_123 ?_
  refine w_bipush 7 126 hX ib_7 dX12_says_126 ?_
  refine w_aload_n 0 128 hX rfl rfl dX12_says_128 ?_
  refine w_getR 129 hX CI_12 s_146 rfl r_146_0 fl_X12_7 rfl dX12_says_129 ?_
  refine w_iconst 0 132 hX ic_0 dX12_says_132 ?_
  refine w_iald 133 hX s_147 (rdK 0 0 n_0 (by decide) (by decide)) dX12_says_133 ?_
  obtain ⟨u2, gu2, h⟩ := o_bind h
  refine w_iast 134 hX s_156 (wrK 7 7 n_7 (by decide) (by decide) gu2) dX12_says_134 ?_
  refine w_aload_n 0 135 hX rfl rfl dX12_says_135 ?_
  refine w_getR 136 hX CI_12 s_146 rfl r_146_11 fl_X12_37 rfl dX12_says_136 ?_
  refine w_bipush 8 139 hX ib_8 dX12_says_139 ?_
  refine w_aload_n 0 141 hX rfl rfl dX12_says_141 ?_
  refine w_getR 142 hX CI_12 s_146 rfl r_146_0 fl_X12_7 rfl dX12_says_142 ?_
  refine w_bipush 80 145 hX ib_80 dX12_says_145 ?_
  refine w_iald 147 hX s_147 (rdK 80 80 n_80 (by decide) (by decide)) dX12_says_147 ?_
  obtain ⟨u3, gu3, h⟩ := o_bind h
  refine w_iast 148 hX s_156 (wrK 8 8 n_8 (by decide) (by decide) gu3) dX12_says_148 ?_
  refine w_aload_n 0 149 hX rfl rfl dX12_says_149 ?_
  refine w_getR 150 hX CI_12 s_146 rfl r_146_11 fl_X12_37 rfl dX12_says_150 ?_
  refine w_bipush 9 153 hX ib_9 dX12_says_153 ?_
  refine w_iload 5 155 hX rfl dX12_says_155 ?_
  refine w_if_eq (tgt := 180) 157 hX dX12_says_157 (by decide) (fun c4 => ?_) (fun c4 => ?_)
  · have h := it h c4
    refine w_iconst 0 180 hX ic_0 dX12_says_180 ?_
    exact w_sub [0, 1, 3, 4] rfl (bX12_says_146_181 hX hR l1 l3 l4 9 0 u3 h)
  · have h := ie h c4
    refine w_aload_n 0 160 hX rfl rfl dX12_says_160 ?_
    refine w_getR 161 hX CI_12 s_146 rfl r_146_0 fl_X12_7 rfl dX12_says_161 ?_
    refine w_bipush 126 164 hX ib_126 dX12_says_164 ?_
    refine w_aload_n 0 166 hX rfl rfl dX12_says_166 ?_
    refine w_getR 167 hX CI_12 s_146 rfl r_146_0 fl_X12_7 rfl dX12_says_167 ?_
    refine w_bipush 52 170 hX ib_52 dX12_says_170 ?_
    refine w_iload_n 2 172 hX rfl rfl dX12_says_172 ?_
    refine w_iadd 173 hX dX12_says_173 ?_
    obtain ⟨x5, gx5, h⟩ := o_bind h
    refine w_iald 174 hX s_147 gx5 dX12_says_174 ?_
    refine w_iadd 175 hX dX12_says_175 ?_
    obtain ⟨x6, gx6, h⟩ := o_bind h
    refine w_iald 176 hX s_147 gx6 dX12_says_176 ?_
    refine w_goto (tgt := 181) 177 hX (by decide) dX12_says_177 ?_
    exact w_sub [0, 1, 3, 4] rfl (bX12_says_146_181 hX hR l1 l3 l4 9 x6 u3 h)
def FX12_says_146_b18 (l1 l2 l3 l4 t0 : Int32) (u : Mem) : Option (Int32 × Mem) :=
  (rdA u 147 1786 (90 + l2)).bind fun x1 => (some (mupd u 156 1 x1)).bind fun u2 => (rdA u2 147 1786 (102 + l2)).bind fun x3 => (some (mupd u2 156 2 x3)).bind fun u4 => (rdA u4 147 1786 (114 + l2)).bind fun x5 => (some (mupd u4 156 3 x5)).bind fun u6 => (rdA u6 147 1786 (4 + l2)).bind fun x7 => (some (mupd u6 156 4 x7)).bind fun u8 => (rdA u8 147 1786 (16 + l2)).bind fun x9 => (FX12_count x9).bind fun x10 => (some (mupd u8 156 5 x10)).bind fun u11 => (if t0 = 0 then (FX12_says_146_b121 l1 l2 l3 l4 t0 6 0 u11) else ((rdA u11 147 1786 (52 + l2)).bind fun x13 => FX12_says_146_b121 l1 l2 l3 l4 t0 6 x13 u11))
theorem bX12_says_146_18 {G : Gt} {X : Xt} {v : Int32} {u' : Mem} (hX : CxOk G X cX12_says 7 RX12 (some (.int v), SH, RHO, u') 4) (hR : CxRet G X (some .int) (some (.int v), SH, RHO, u')) (l1 l2 l3 l4 t0 : Int32) (u : Mem) (h : FX12_says_146_b18 l1 l2 l3 l4 t0 u = some (v, u')) : WM G X 18 [(0, .ref 146), (1, .int l1), (2, .int l2), (3, .int l3), (4, .int l4)] [.int t0] SH RHO u := by
  unfold FX12_says_146_b18 at h
  refine w_istore (lv' := [(5, .int t0), (0, .ref 146), (1, .int l1), (2, .int l2), (3, .int l3), (4, .int l4)]) 18 hX dX12_says_18 (by decide) rfl ?_
  refine w_aload_n 1 20 hX rfl rfl dX12_says_20 ?_
  refine w_getR 21 hX CI_12 s_146 rfl r_146_11 fl_X12_37 rfl dX12_says_21 ?_
  refine w_iconst 1 24 hX ic_1 dX12_says_24 ?_
  refine w_aload_n 1 25 hX rfl rfl dX12_says_25 ?_
  refine w_getR 26 hX CI_12 s_146 rfl r_146_0 fl_X12_7 rfl dX12_says_26 ?_
  refine w_bipush 90 29 hX ib_90 dX12_says_29 ?_
  refine w_iload_n 3 31 hX rfl rfl dX12_says_31 ?_
  refine w_iadd 32 hX dX12_says_32 ?_
  obtain ⟨x1, gx1, h⟩ := o_bind h
  refine w_iald 33 hX s_147 gx1 dX12_says_33 ?_
  obtain ⟨u2, gu2, h⟩ := o_bind h
  refine w_iast 34 hX s_156 (wrK 1 1 n_1 (by decide) (by decide) gu2) dX12_says_34 ?_
  refine w_aload_n 1 35 hX rfl rfl dX12_says_35 ?_
  refine w_getR 36 hX CI_12 s_146 rfl r_146_11 fl_X12_37 rfl dX12_says_36 ?_
  refine w_iconst 2 39 hX ic_2 dX12_says_39 ?_
  refine w_aload_n 1 40 hX rfl rfl dX12_says_40 ?_
  refine w_getR 41 hX CI_12 s_146 rfl r_146_0 fl_X12_7 rfl dX12_says_41 ?_
  refine w_bipush 102 44 hX ib_102 dX12_says_44 ?_
  refine w_iload_n 3 46 hX rfl rfl dX12_says_46 ?_
  refine w_iadd 47 hX dX12_says_47 ?_
  obtain ⟨x3, gx3, h⟩ := o_bind h
  refine w_iald 48 hX s_147 gx3 dX12_says_48 ?_
  obtain ⟨u4, gu4, h⟩ := o_bind h
  refine w_iast 49 hX s_156 (wrK 2 2 n_2 (by decide) (by decide) gu4) dX12_says_49 ?_
  refine w_aload_n 1 50 hX rfl rfl dX12_says_50 ?_
  refine w_getR 51 hX CI_12 s_146 rfl r_146_11 fl_X12_37 rfl dX12_says_51 ?_
  refine w_iconst 3 54 hX ic_3 dX12_says_54 ?_
  refine w_aload_n 1 55 hX rfl rfl dX12_says_55 ?_
  refine w_getR 56 hX CI_12 s_146 rfl r_146_0 fl_X12_7 rfl dX12_says_56 ?_
  refine w_bipush 114 59 hX ib_114 dX12_says_59 ?_
  refine w_iload_n 3 61 hX rfl rfl dX12_says_61 ?_
  refine w_iadd 62 hX dX12_says_62 ?_
  obtain ⟨x5, gx5, h⟩ := o_bind h
  refine w_iald 63 hX s_147 gx5 dX12_says_63 ?_
  obtain ⟨u6, gu6, h⟩ := o_bind h
  refine w_iast 64 hX s_156 (wrK 3 3 n_3 (by decide) (by decide) gu6) dX12_says_64 ?_
  refine w_aload_n 1 65 hX rfl rfl dX12_says_65 ?_
  refine w_getR 66 hX CI_12 s_146 rfl r_146_11 fl_X12_37 rfl dX12_says_66 ?_
  refine w_iconst 4 69 hX ic_4 dX12_says_69 ?_
  refine w_aload_n 1 70 hX rfl rfl dX12_says_70 ?_
  refine w_getR 71 hX CI_12 s_146 rfl r_146_0 fl_X12_7 rfl dX12_says_71 ?_
  refine w_iconst 4 74 hX ic_4 dX12_says_74 ?_
  refine w_iload_n 3 75 hX rfl rfl dX12_says_75 ?_
  refine w_iadd 76 hX dX12_says_76 ?_
  obtain ⟨x7, gx7, h⟩ := o_bind h
  refine w_iald 77 hX s_147 gx7 dX12_says_77 ?_
  obtain ⟨u8, gu8, h⟩ := o_bind h
  refine w_iast 78 hX s_156 (wrK 4 4 n_4 (by decide) (by decide) gu8) dX12_says_78 ?_
  refine w_aload_n 1 79 hX rfl rfl dX12_says_79 ?_
  refine w_getR 80 hX CI_12 s_146 rfl r_146_11 fl_X12_37 rfl dX12_says_80 ?_
  refine w_iconst 5 83 hX ic_5 dX12_says_83 ?_
  refine w_aload_n 1 84 hX rfl rfl dX12_says_84 ?_
  refine w_getR 85 hX CI_12 s_146 rfl r_146_0 fl_X12_7 rfl dX12_says_85 ?_
  refine w_bipush 16 88 hX ib_16 dX12_says_88 ?_
  refine w_iload_n 3 90 hX rfl rfl dX12_says_90 ?_
  refine w_iadd 91 hX dX12_says_91 ?_
  obtain ⟨x9, gx9, h⟩ := o_bind h
  refine w_iald 92 hX s_147 gx9 dX12_says_92 ?_
  obtain ⟨x10, gx10, h⟩ := o_bind h
  refine w_invSi (av := [.int x9]) (st := [.int 5, .ref 156]) 93 hX ms_yX12_count mi_yX12_count ml_X12_291 (CX12_count x9 u8 gx10) rfl (by decide) (Nat.le_of_ble_eq_true rfl) (Nat.le_refl _) (Nat.le_refl _) dX12_says_93 ?_
  obtain ⟨u11, gu11, h⟩ := o_bind h
  refine w_iast 96 hX s_156 (wrK 5 5 n_5 (by decide) (by decide) gu11) dX12_says_96 ?_
  refine w_aload_n 1 97 hX rfl rfl dX12_says_97 ?_
  refine w_getR 98 hX CI_12 s_146 rfl r_146_11 fl_X12_37 rfl dX12_says_98 ?_
  refine w_bipush 6 101 hX ib_6 dX12_says_101 ?_
  refine w_iload 0 103 hX rfl dX12_says_103 ?_
  refine w_if_eq (tgt := 120) 105 hX dX12_says_105 (by decide) (fun c12 => ?_) (fun c12 => ?_)
  · have h := it h c12
    refine w_iconst 0 120 hX ic_0 dX12_says_120 ?_
    exact w_sub [1, 2, 3, 4, 5, 0] rfl (bX12_says_146_121 hX hR l1 l2 l3 l4 t0 6 0 u11 h)
  · have h := ie h c12
    refine w_aload_n 1 108 hX rfl rfl dX12_says_108 ?_
    refine w_getR 109 hX CI_12 s_146 rfl r_146_0 fl_X12_7 rfl dX12_says_109 ?_
    refine w_bipush 52 112 hX ib_52 dX12_says_112 ?_
    refine w_iload_n 3 114 hX rfl rfl dX12_says_114 ?_
    refine w_iadd 115 hX dX12_says_115 ?_
    obtain ⟨x13, gx13, h⟩ := o_bind h
    refine w_iald 116 hX s_147 gx13 dX12_says_116 ?_
    refine w_goto (tgt := 121) 117 hX (by decide) dX12_says_117 ?_
    exact w_sub [1, 2, 3, 4, 5, 0] rfl (bX12_says_146_121 hX hR l1 l2 l3 l4 t0 6 x13 u11 h)
def FX12_says_146 (p1 p2 p3 p4 : Int32) (u : Mem) : Option (Int32 × Mem) :=
  (rdA u 147 1786 (40 + p2)).bind fun x1 => (if x1 = 1 then (FX12_says_146_b18 p1 p2 p3 p4 1 u) else (FX12_says_146_b18 p1 p2 p3 p4 0 u))
theorem CX12_says_146 {G : Gt} (p1 p2 p3 p4 : Int32) (u : Mem) {v : Int32} {u' : Mem} (h : FX12_says_146 p1 p2 p3 p4 u = some (v, u')) : CT G yX12_says cX12_says 7 (some .int) 4 [.ref 146, .int p1, .int p2, .int p3, .int p4] SH RHO u (some (.int v), SH, RHO, u') :=
  ct_of (by decide) rfl (Nat.le_of_ble_eq_true rfl) (Nat.le_refl _) (Nat.le_refl _) (fun X hX hR => by
  unfold FX12_says_146 at h
  refine w_aload_n 0 0 hX rfl rfl dX12_says_0 ?_
  refine w_getR 1 hX CI_12 s_146 rfl r_146_0 fl_X12_7 rfl dX12_says_1 ?_
  refine w_bipush 40 4 hX ib_40 dX12_says_4 ?_
  refine w_iload_n 2 6 hX rfl rfl dX12_says_6 ?_
  refine w_iadd 7 hX dX12_says_7 ?_
  obtain ⟨x1, gx1, h⟩ := o_bind h
  refine w_iald 8 hX s_147 gx1 dX12_says_8 ?_
  refine w_iconst 1 9 hX ic_1 dX12_says_9 ?_
  refine w_icmp_ne (tgt := 17) 10 hX dX12_says_10 (by decide) (fun c2 => ?_) (fun c2 => ?_)
  · have h := ie h c2
    refine w_iconst 0 17 hX ic_0 dX12_says_17 ?_
    exact bX12_says_146_18 hX hR p1 p2 p3 p4 0 u h
  · have h := it h c2
    refine w_iconst 1 13 hX ic_1 dX12_says_13 ?_
    refine w_goto (tgt := 18) 14 hX (by decide) dX12_says_14 ?_
    exact bX12_says_146_18 hX hR p1 p2 p3 p4 1 u h)
def FX12_callOf_146 (p1 : Int32) (u : Mem) : Option (Int32 × Mem) :=
  (rdA u 147 1786 (102 + p1)).bind fun x1 => (if (u 146 27) ≤ x1 then ((rdA u 147 1786 (102 + p1)).bind fun x3 => bnd2 (FX12_says_146 20 p1 (x3 - 59) 120 u) fun x4 u5 => some (x4, u5)) else (some (0, u)))
theorem CX12_callOf_146 {G : Gt} (p1 : Int32) (u : Mem) {v : Int32} {u' : Mem} (h : FX12_callOf_146 p1 u = some (v, u')) : CT G yX12_callOf cX12_callOf 2 (some .int) 5 [.ref 146, .int p1] SH RHO u (some (.int v), SH, RHO, u') :=
  ct_of (by decide) rfl (Nat.le_of_ble_eq_true rfl) (Nat.le_refl _) (Nat.le_refl _) (fun X hX hR => by
  unfold FX12_callOf_146 at h
  refine w_aload_n 0 0 hX rfl rfl dX12_callOf_0 ?_
  refine w_getR 1 hX CI_12 s_146 rfl r_146_0 fl_X12_7 rfl dX12_callOf_1 ?_
  refine w_bipush 102 4 hX ib_102 dX12_callOf_4 ?_
  refine w_iload_n 1 6 hX rfl rfl dX12_callOf_6 ?_
  refine w_iadd 7 hX dX12_callOf_7 ?_
  obtain ⟨x1, gx1, h⟩ := o_bind h
  refine w_iald 8 hX s_147 gx1 dX12_callOf_8 ?_
  refine w_aload_n 0 9 hX rfl rfl dX12_callOf_9 ?_
  refine w_getI (j := 27) 10 hX CI_12 s_146 rfl fl_X12_303 rfl dX12_callOf_10 ?_
  refine w_icmp_ge (tgt := 20) 13 hX dX12_callOf_13 (by decide) (fun c2 => ?_) (fun c2 => ?_)
  · have h := it h c2
    refine w_aload_n 0 20 hX rfl rfl dX12_callOf_20 ?_
    refine w_bipush 20 21 hX ib_20 dX12_callOf_21 ?_
    refine w_iload_n 1 23 hX rfl rfl dX12_callOf_23 ?_
    refine w_aload_n 0 24 hX rfl rfl dX12_callOf_24 ?_
    refine w_getR 25 hX CI_12 s_146 rfl r_146_0 fl_X12_7 rfl dX12_callOf_25 ?_
    refine w_bipush 102 28 hX ib_102 dX12_callOf_28 ?_
    refine w_iload_n 1 30 hX rfl rfl dX12_callOf_30 ?_
    refine w_iadd 31 hX dX12_callOf_31 ?_
    obtain ⟨x3, gx3, h⟩ := o_bind h
    refine w_iald 32 hX s_147 gx3 dX12_callOf_32 ?_
    refine w_bipush 59 33 hX ib_59 dX12_callOf_33 ?_
    refine w_isub 35 hX dX12_callOf_35 ?_
    refine w_bipush 120 36 hX ib_120 dX12_callOf_36 ?_
    obtain ⟨x4, u5, gx4, h⟩ := o_bnd2 h
    refine w_invVi (av := [.int 20, .int p1, .int (x3 - 59), .int 120]) (st := []) 38 hX CI_12 s_146 rfl mv_yX12_says mi_yX12_says ml_X12_306 (CX12_says_146 20 p1 (x3 - 59) 120 u gx4) rfl (by decide) (Nat.le_of_ble_eq_true rfl) (Nat.le_refl _) (Nat.le_refl _) dX12_callOf_38 ?_
    exact w_iret 41 hX hR dX12_callOf_41 (by cases h; rfl)
  · have h := ie h c2
    refine w_iconst 0 16 hX ic_0 dX12_callOf_16 ?_
    refine w_goto (tgt := 41) 17 hX (by decide) dX12_callOf_17 ?_
    exact w_iret 41 hX hR dX12_callOf_41 (by cases h; rfl))
def FX12_isCalledFirst_146 (p1 p2 : Int32) (u : Mem) : Option (Int32 × Mem) :=
  (if p2 = (-1) then (some (1, u)) else (bnd2 (FX12_callOf_146 p1 u) fun x2 u3 => bnd2 (FX12_callOf_146 p2 u3) fun x4 u5 => (if 0 < (x2 - x4) then (some (1, u5)) else ((if (x2 - x4) = 0 then ((rdA u5 147 1786 (102 + p1)).bind fun x8 => (rdA u5 147 1786 (102 + p2)).bind fun x9 => (if x8 ≤ x9 then (some (0, u5)) else (some (1, u5)))) else (some (0, u5)))))))
theorem CX12_isCalledFirst_146 {G : Gt} (p1 p2 : Int32) (u : Mem) {v : Int32} {u' : Mem} (h : FX12_isCalledFirst_146 p1 p2 u = some (v, u')) : CT G yX12_isCalledFirst cX12_isCalledFirst 4 (some .boolean) 6 [.ref 146, .int p1, .int p2] SH RHO u (some (.int v), SH, RHO, u') :=
  ct_of (by decide) rfl (Nat.le_of_ble_eq_true rfl) (Nat.le_refl _) (Nat.le_refl _) (fun X hX hR => by
  unfold FX12_isCalledFirst_146 at h
  refine w_iload_n 2 0 hX rfl rfl dX12_isCalledFirst_0 ?_
  refine w_iconst (-1) 1 hX ic_m1 dX12_isCalledFirst_1 ?_
  refine w_icmp_ne (tgt := 7) 2 hX dX12_isCalledFirst_2 (by decide) (fun c1 => ?_) (fun c1 => ?_)
  · have h := ie h c1
    refine w_aload_n 0 7 hX rfl rfl dX12_isCalledFirst_7 ?_
    refine w_iload_n 1 8 hX rfl rfl dX12_isCalledFirst_8 ?_
    obtain ⟨x2, u3, gx2, h⟩ := o_bnd2 h
    refine w_invVi (av := [.int p1]) (st := []) 9 hX CI_12 s_146 rfl mv_yX12_callOf mi_yX12_callOf ml_X12_326 (CX12_callOf_146 p1 u gx2) rfl (by decide) (Nat.le_of_ble_eq_true rfl) (Nat.le_refl _) (Nat.le_refl _) dX12_isCalledFirst_9 ?_
    refine w_aload_n 0 12 hX rfl rfl dX12_isCalledFirst_12 ?_
    refine w_iload_n 2 13 hX rfl rfl dX12_isCalledFirst_13 ?_
    obtain ⟨x4, u5, gx4, h⟩ := o_bnd2 h
    refine w_invVi (av := [.int p2]) (st := [.int x2]) 14 hX CI_12 s_146 rfl mv_yX12_callOf mi_yX12_callOf ml_X12_326 (CX12_callOf_146 p2 u3 gx4) rfl (by decide) (Nat.le_of_ble_eq_true rfl) (Nat.le_refl _) (Nat.le_refl _) dX12_isCalledFirst_14 ?_
    refine w_isub 17 hX dX12_isCalledFirst_17 ?_
    refine w_istore_n (lv' := [(3, .int (x2 - x4)), (0, .ref 146), (1, .int p1), (2, .int p2)]) 18 hX rfl dX12_isCalledFirst_18 (by decide) rfl ?_
    refine w_iload_n 0 19 hX rfl rfl dX12_isCalledFirst_19 ?_
    refine w_if_gt (tgt := 48) 20 hX dX12_isCalledFirst_20 (by decide) (fun c6 => ?_) (fun c6 => ?_)
    · have h := it h c6
      refine w_iconst 1 48 hX ic_1 dX12_isCalledFirst_48 ?_
      refine w_goto (tgt := 53) 49 hX (by decide) dX12_isCalledFirst_49 ?_
      exact w_zret 53 hX hR (by decide) dX12_isCalledFirst_53 (by cases h; rfl)
    · have h := ie h c6
      refine w_iload_n 0 23 hX rfl rfl dX12_isCalledFirst_23 ?_
      refine w_if_ne (tgt := 52) 24 hX dX12_isCalledFirst_24 (by decide) (fun c7 => ?_) (fun c7 => ?_)
      · have h := ie h c7
        refine w_iconst 0 52 hX ic_0 dX12_isCalledFirst_52 ?_
        exact w_zret 53 hX hR (by decide) dX12_isCalledFirst_53 (by cases h; rfl)
      · have h := it h c7
        refine w_aload_n 1 27 hX rfl rfl dX12_isCalledFirst_27 ?_
        refine w_getR 28 hX CI_12 s_146 rfl r_146_0 fl_X12_7 rfl dX12_isCalledFirst_28 ?_
        refine w_bipush 102 31 hX ib_102 dX12_isCalledFirst_31 ?_
        refine w_iload_n 2 33 hX rfl rfl dX12_isCalledFirst_33 ?_
        refine w_iadd 34 hX dX12_isCalledFirst_34 ?_
        obtain ⟨x8, gx8, h⟩ := o_bind h
        refine w_iald 35 hX s_147 gx8 dX12_isCalledFirst_35 ?_
        refine w_aload_n 1 36 hX rfl rfl dX12_isCalledFirst_36 ?_
        refine w_getR 37 hX CI_12 s_146 rfl r_146_0 fl_X12_7 rfl dX12_isCalledFirst_37 ?_
        refine w_bipush 102 40 hX ib_102 dX12_isCalledFirst_40 ?_
        refine w_iload_n 3 42 hX rfl rfl dX12_isCalledFirst_42 ?_
        refine w_iadd 43 hX dX12_isCalledFirst_43 ?_
        obtain ⟨x9, gx9, h⟩ := o_bind h
        refine w_iald 44 hX s_147 gx9 dX12_isCalledFirst_44 ?_
        refine w_icmp_le (tgt := 52) 45 hX dX12_isCalledFirst_45 (by decide) (fun c10 => ?_) (fun c10 => ?_)
        · have h := it h c10
          refine w_iconst 0 52 hX ic_0 dX12_isCalledFirst_52 ?_
          exact w_zret 53 hX hR (by decide) dX12_isCalledFirst_53 (by cases h; rfl)
        · have h := ie h c10
          refine w_iconst 1 48 hX ic_1 dX12_isCalledFirst_48 ?_
          refine w_goto (tgt := 53) 49 hX (by decide) dX12_isCalledFirst_49 ?_
          exact w_zret 53 hX hR (by decide) dX12_isCalledFirst_53 (by cases h; rfl)
  · have h := it h c1
    refine w_iconst 1 5 hX ic_1 dX12_isCalledFirst_5 ?_
    exact w_zret 6 hX hR (by decide) dX12_isCalledFirst_6 (by cases h; rfl))
def FX12_calls_146_b44 (k4 : Int32 → Int32 → Int32 → Mem → Option Mem) (l1 l2 l3 : Int32) (u : Mem) : Option Mem :=
  k4 l1 l2 (l3 + 1) u
theorem bX12_calls_146_44 {G : Gt} {X : Xt} {u' : Mem} (hX : CxOk G X cX12_calls 4 RX12 (none, SH, RHO, u') 7) (hR : CxRet G X none (none, SH, RHO, u')) {k4 : Int32 → Int32 → Int32 → Mem → Option Mem} (hk4 : ∀ (l1 l2 l3 : Int32) (u : Mem), k4 l1 l2 l3 u = some u' → WM G X 4 [(0, .ref 146), (1, .int l1), (2, .int l2), (3, .int l3)] [] SH RHO u) (l1 l2 l3 : Int32) (u : Mem) (h : FX12_calls_146_b44 k4 l1 l2 l3 u = some u') : WM G X 44 [(0, .ref 146), (1, .int l1), (2, .int l2), (3, .int l3)] [] SH RHO u := by
  unfold FX12_calls_146_b44 at h
  refine w_iinc (lv' := [(3, .int (l3 + 1)), (0, .ref 146), (1, .int l1), (2, .int l2)]) 44 3 hX dX12_calls_44 rfl (inc_1 _) (by decide) rfl ?_
  refine w_goto (tgt := 4) 47 hX (by decide) dX12_calls_47 ?_
  exact w_sub [1, 2, 3, 0] rfl (hk4 l1 l2 (l3 + 1) u h)
def FX12_calls_146_b4 (k4 : Int32 → Int32 → Int32 → Mem → Option Mem) (l1 l2 l3 : Int32) (u : Mem) : Option Mem :=
  (if (u 147 78) ≤ l3 then ((if l2 = (-1) then (some u) else ((FX12_takesField_146 l2 u).bind fun u4 => (rdA u4 147 1786 (52 + l2)).bind fun x5 => (FX12_notes_146 0 l2 x5 u4).bind fun u7 => some u7))) else ((FX12_isOf_146 l3 l1 0 u).bind fun x8 => (if x8 = 0 then (FX12_calls_146_b44 k4 l1 l2 l3 u) else (bnd2 (FX12_callOf_146 l3 u) fun x10 u11 => (if x10 ≤ 0 then (FX12_calls_146_b44 k4 l1 l2 l3 u11) else (bnd2 (FX12_isCalledFirst_146 l3 l2 u11) fun x13 u14 => (if x13 = 0 then (FX12_calls_146_b44 k4 l1 l2 l3 u14) else (FX12_calls_146_b44 k4 l1 l3 l3 u14))))))))
theorem bX12_calls_146_4 {G : Gt} {X : Xt} {u' : Mem} (hX : CxOk G X cX12_calls 4 RX12 (none, SH, RHO, u') 7) (hR : CxRet G X none (none, SH, RHO, u')) {k4 : Int32 → Int32 → Int32 → Mem → Option Mem} (hk4 : ∀ (l1 l2 l3 : Int32) (u : Mem), k4 l1 l2 l3 u = some u' → WM G X 4 [(0, .ref 146), (1, .int l1), (2, .int l2), (3, .int l3)] [] SH RHO u) (l1 l2 l3 : Int32) (u : Mem) (h : FX12_calls_146_b4 k4 l1 l2 l3 u = some u') : WM G X 4 [(0, .ref 146), (1, .int l1), (2, .int l2), (3, .int l3)] [] SH RHO u := by
  unfold FX12_calls_146_b4 at h
  refine w_iload_n 3 4 hX rfl rfl dX12_calls_4 ?_
  refine w_aload_n 0 5 hX rfl rfl dX12_calls_5 ?_
  refine w_getR 6 hX CI_12 s_146 rfl r_146_0 fl_X12_7 rfl dX12_calls_6 ?_
  refine w_bipush 78 9 hX ib_78 dX12_calls_9 ?_
  refine w_iald 11 hX s_147 (rdK 78 78 n_78 (by decide) (by decide)) dX12_calls_11 ?_
  refine w_icmp_ge (tgt := 50) 12 hX dX12_calls_12 (by decide) (fun c1 => ?_) (fun c1 => ?_)
  · have h := it h c1
    refine w_iload_n 2 50 hX rfl rfl dX12_calls_50 ?_
    refine w_iconst (-1) 51 hX ic_m1 dX12_calls_51 ?_
    refine w_icmp_ne (tgt := 56) 52 hX dX12_calls_52 (by decide) (fun c2 => ?_) (fun c2 => ?_)
    · have h := ie h c2
      refine w_aload_n 0 56 hX rfl rfl dX12_calls_56 ?_
      refine w_iload_n 2 57 hX rfl rfl dX12_calls_57 ?_
      obtain ⟨u4, gu4, h⟩ := o_bind h
      refine w_invVv (av := [.int l2]) (st := []) 58 hX CI_12 s_146 rfl mv_yX12_takesField mi_yX12_takesField ml_X12_332 (CX12_takesField_146 l2 u gu4) rfl (by decide) (Nat.le_of_ble_eq_true rfl) (Nat.le_refl _) (Nat.le_refl _) dX12_calls_58 ?_
      refine w_aload_n 0 61 hX rfl rfl dX12_calls_61 ?_
      refine w_iconst 0 62 hX ic_0 dX12_calls_62 ?_
      refine w_iload_n 2 63 hX rfl rfl dX12_calls_63 ?_
      refine w_aload_n 0 64 hX rfl rfl dX12_calls_64 ?_
      refine w_getR 65 hX CI_12 s_146 rfl r_146_0 fl_X12_7 rfl dX12_calls_65 ?_
      refine w_bipush 52 68 hX ib_52 dX12_calls_68 ?_
      refine w_iload_n 2 70 hX rfl rfl dX12_calls_70 ?_
      refine w_iadd 71 hX dX12_calls_71 ?_
      obtain ⟨x5, gx5, h⟩ := o_bind h
      refine w_iald 72 hX s_147 gx5 dX12_calls_72 ?_
      obtain ⟨u7, gu7, h⟩ := o_bind h
      refine w_invVv (av := [.int 0, .int l2, .int x5]) (st := []) 73 hX CI_12 s_146 rfl mv_yX12_notes mi_yX12_notes ml_X12_336 (CX12_notes_146 0 l2 x5 u4 gu7) rfl (by decide) (Nat.le_of_ble_eq_true rfl) (Nat.le_refl _) (Nat.le_refl _) dX12_calls_73 ?_
      exact w_vret 76 hX hR dX12_calls_76 (by cases h; rfl)
    · have h := it h c2
      exact w_vret 55 hX hR dX12_calls_55 (by cases h; rfl)
  · have h := ie h c1
    refine w_aload_n 0 15 hX rfl rfl dX12_calls_15 ?_
    refine w_iload_n 3 16 hX rfl rfl dX12_calls_16 ?_
    refine w_iload_n 1 17 hX rfl rfl dX12_calls_17 ?_
    refine w_iconst 0 18 hX ic_0 dX12_calls_18 ?_
    obtain ⟨x8, gx8, h⟩ := o_bind h
    refine w_invVi (av := [.int l3, .int l1, .int 0]) (st := []) 19 hX CI_12 s_146 rfl mv_yX12_isOf mi_yX12_isOf ml_X12_320 (CX12_isOf_146 l3 l1 0 u gx8) rfl (by decide) (Nat.le_of_ble_eq_true rfl) (Nat.le_refl _) (Nat.le_refl _) dX12_calls_19 ?_
    refine w_if_eq (tgt := 44) 22 hX dX12_calls_22 (by decide) (fun c9 => ?_) (fun c9 => ?_)
    · have h := it h c9
      exact bX12_calls_146_44 hX hR hk4 l1 l2 l3 u h
    · have h := ie h c9
      refine w_aload_n 0 25 hX rfl rfl dX12_calls_25 ?_
      refine w_iload_n 3 26 hX rfl rfl dX12_calls_26 ?_
      obtain ⟨x10, u11, gx10, h⟩ := o_bnd2 h
      refine w_invVi (av := [.int l3]) (st := []) 27 hX CI_12 s_146 rfl mv_yX12_callOf mi_yX12_callOf ml_X12_326 (CX12_callOf_146 l3 u gx10) rfl (by decide) (Nat.le_of_ble_eq_true rfl) (Nat.le_refl _) (Nat.le_refl _) dX12_calls_27 ?_
      refine w_if_le (tgt := 44) 30 hX dX12_calls_30 (by decide) (fun c12 => ?_) (fun c12 => ?_)
      · have h := it h c12
        exact bX12_calls_146_44 hX hR hk4 l1 l2 l3 u11 h
      · have h := ie h c12
        refine w_aload_n 0 33 hX rfl rfl dX12_calls_33 ?_
        refine w_iload_n 3 34 hX rfl rfl dX12_calls_34 ?_
        refine w_iload_n 2 35 hX rfl rfl dX12_calls_35 ?_
        obtain ⟨x13, u14, gx13, h⟩ := o_bnd2 h
        refine w_invVi (av := [.int l3, .int l2]) (st := []) 36 hX CI_12 s_146 rfl mv_yX12_isCalledFirst mi_yX12_isCalledFirst ml_X12_329 (CX12_isCalledFirst_146 l3 l2 u11 gx13) rfl (by decide) (Nat.le_of_ble_eq_true rfl) (Nat.le_refl _) (Nat.le_refl _) dX12_calls_36 ?_
        refine w_if_eq (tgt := 44) 39 hX dX12_calls_39 (by decide) (fun c15 => ?_) (fun c15 => ?_)
        · have h := it h c15
          exact bX12_calls_146_44 hX hR hk4 l1 l2 l3 u14 h
        · have h := ie h c15
          refine w_iload_n 3 42 hX rfl rfl dX12_calls_42 ?_
          refine w_istore_n (lv' := [(2, .int l3), (0, .ref 146), (1, .int l1), (3, .int l3)]) 43 hX rfl dX12_calls_43 (by decide) rfl ?_
          exact w_sub [1, 2, 0, 3] rfl (bX12_calls_146_44 hX hR hk4 l1 l3 l3 u14 h)
def FX12_calls_146_L4 : Nat → Int32 → Int32 → Int32 → Mem → Option Mem
  | 0, _, _, _, _ => none
  | n + 1, l1, l2, l3, u => FX12_calls_146_b4 (FX12_calls_146_L4 n) l1 l2 l3 u
theorem lX12_calls_146_4 {G : Gt} {X : Xt} {u' : Mem} (hX : CxOk G X cX12_calls 4 RX12 (none, SH, RHO, u') 7) (hR : CxRet G X none (none, SH, RHO, u')) : ∀ (n : Nat) (l1 l2 l3 : Int32) (u : Mem), FX12_calls_146_L4 n l1 l2 l3 u = some u' → WM G X 4 [(0, .ref 146), (1, .int l1), (2, .int l2), (3, .int l3)] [] SH RHO u := by
  intro n
  induction n with
  | zero =>
    intro l1 l2 l3 u h
    exact nn_ h
  | succ n ih =>
    intro l1 l2 l3 u h
    exact bX12_calls_146_4 hX hR ih l1 l2 l3 u h
def FX12_calls_146 (p1 : Int32) (u : Mem) : Option Mem :=
  FX12_calls_146_L4 FU p1 (-1) 0 u
theorem CX12_calls_146 {G : Gt} (p1 : Int32) (u : Mem) {u' : Mem} (h : FX12_calls_146 p1 u = some u') : CT G yX12_calls cX12_calls 4 none 7 [.ref 146, .int p1] SH RHO u (none, SH, RHO, u') :=
  ct_of (by decide) rfl (Nat.le_of_ble_eq_true rfl) (Nat.le_refl _) (Nat.le_refl _) (fun X hX hR => by
  unfold FX12_calls_146 at h
  refine w_iconst (-1) 0 hX ic_m1 dX12_calls_0 ?_
  refine w_istore_n (lv' := [(2, .int (-1)), (0, .ref 146), (1, .int p1)]) 1 hX rfl dX12_calls_1 (by decide) rfl ?_
  refine w_iconst 0 2 hX ic_0 dX12_calls_2 ?_
  refine w_istore_n (lv' := [(3, .int 0), (2, .int (-1)), (0, .ref 146), (1, .int p1)]) 3 hX rfl dX12_calls_3 (by decide) rfl ?_
  exact w_sub [2, 3, 1, 0] rfl (lX12_calls_146_4 hX hR FU p1 (-1) 0 u h))
def FX12_rests_146_b73 (k4 : Int32 → Int32 → Int32 → Mem → Option Int32) (l1 l2 l3 : Int32) (u : Mem) : Option Int32 :=
  k4 l1 l2 (l3 + 1) u
theorem bX12_rests_146_73 {G : Gt} {X : Xt} {v : Int32} {u : Mem} (hX : CxOk G X cX12_rests 5 RX12 (some (.int v), SH, RHO, u) 1) (hR : CxRet G X (some .boolean) (some (.int v), SH, RHO, u)) {k4 : Int32 → Int32 → Int32 → Mem → Option Int32} (hk4 : ∀ (l1 l2 l3 : Int32), k4 l1 l2 l3 u = some v → WM G X 4 [(0, .ref 146), (1, .int l1), (2, .int l2), (3, .int l3)] [] SH RHO u) (l1 l2 l3 : Int32) (h : FX12_rests_146_b73 k4 l1 l2 l3 u = some v) : WM G X 73 [(0, .ref 146), (1, .int l1), (2, .int l2), (3, .int l3)] [] SH RHO u := by
  unfold FX12_rests_146_b73 at h
  refine w_iinc (lv' := [(3, .int (l3 + 1)), (0, .ref 146), (1, .int l1), (2, .int l2)]) 73 3 hX dX12_rests_73 rfl (inc_1 _) (by decide) rfl ?_
  refine w_goto (tgt := 4) 76 hX (by decide) dX12_rests_76 ?_
  exact w_sub [1, 2, 3, 0] rfl (hk4 l1 l2 (l3 + 1) h)
def FX12_rests_146_b72 (k4 : Int32 → Int32 → Int32 → Mem → Option Int32) (l1 l3 t0 : Int32) (u : Mem) : Option Int32 :=
  FX12_rests_146_b73 k4 l1 t0 l3 u
theorem bX12_rests_146_72 {G : Gt} {X : Xt} {v : Int32} {u : Mem} (hX : CxOk G X cX12_rests 5 RX12 (some (.int v), SH, RHO, u) 1) (hR : CxRet G X (some .boolean) (some (.int v), SH, RHO, u)) {k4 : Int32 → Int32 → Int32 → Mem → Option Int32} (hk4 : ∀ (l1 l2 l3 : Int32), k4 l1 l2 l3 u = some v → WM G X 4 [(0, .ref 146), (1, .int l1), (2, .int l2), (3, .int l3)] [] SH RHO u) (l1 l3 t0 : Int32) (h : FX12_rests_146_b72 k4 l1 l3 t0 u = some v) : WM G X 72 [(0, .ref 146), (1, .int l1), (3, .int l3)] [.int t0] SH RHO u := by
  unfold FX12_rests_146_b72 at h
  refine w_istore_n (lv' := [(2, .int t0), (0, .ref 146), (1, .int l1), (3, .int l3)]) 72 hX rfl dX12_rests_72 (by decide) rfl ?_
  exact w_sub [1, 2, 0, 3] rfl (bX12_rests_146_73 hX hR hk4 l1 t0 l3 h)
def FX12_rests_146_b4 (k4 : Int32 → Int32 → Int32 → Mem → Option Int32) (l1 l2 l3 : Int32) (u : Mem) : Option Int32 :=
  (if (u 147 87) ≤ l3 then ((bchk l2).bind fun x2 => some x2) else ((rdA u 147 1786 (222 + (3 * l3))).bind fun x3 => (if x3 = (u 147 0) then ((rdA u 147 1786 ((222 + (3 * l3)) + 2)).bind fun x5 => (if x5 = l1 then ((rdA u 147 1786 ((222 + (3 * l3)) + 1)).bind fun x7 => (if x7 = 11 then (FX12_rests_146_b72 k4 l1 l3 1 u) else (FX12_rests_146_b72 k4 l1 l3 0 u))) else (FX12_rests_146_b73 k4 l1 l2 l3 u))) else (FX12_rests_146_b73 k4 l1 l2 l3 u))))
theorem bX12_rests_146_4 {G : Gt} {X : Xt} {v : Int32} {u : Mem} (hX : CxOk G X cX12_rests 5 RX12 (some (.int v), SH, RHO, u) 1) (hR : CxRet G X (some .boolean) (some (.int v), SH, RHO, u)) {k4 : Int32 → Int32 → Int32 → Mem → Option Int32} (hk4 : ∀ (l1 l2 l3 : Int32), k4 l1 l2 l3 u = some v → WM G X 4 [(0, .ref 146), (1, .int l1), (2, .int l2), (3, .int l3)] [] SH RHO u) (l1 l2 l3 : Int32) (h : FX12_rests_146_b4 k4 l1 l2 l3 u = some v) : WM G X 4 [(0, .ref 146), (1, .int l1), (2, .int l2), (3, .int l3)] [] SH RHO u := by
  unfold FX12_rests_146_b4 at h
  refine w_iload_n 3 4 hX rfl rfl dX12_rests_4 ?_
  refine w_aload_n 0 5 hX rfl rfl dX12_rests_5 ?_
  refine w_getR 6 hX CI_12 s_146 rfl r_146_0 fl_X12_7 rfl dX12_rests_6 ?_
  refine w_bipush 87 9 hX ib_87 dX12_rests_9 ?_
  refine w_iald 11 hX s_147 (rdK 87 87 n_87 (by decide) (by decide)) dX12_rests_11 ?_
  refine w_icmp_ge (tgt := 79) 12 hX dX12_rests_12 (by decide) (fun c1 => ?_) (fun c1 => ?_)
  · have h := it h c1
    refine w_iload_n 2 79 hX rfl rfl dX12_rests_79 ?_
    obtain ⟨x2, gx2, h⟩ := o_bind h
    obtain ⟨jx2, nx2, mx2⟩ := bchk_ok gx2
    rw [jx2]
    exact w_zret 80 hX hR nx2 dX12_rests_80 (by cases h; rfl)
  · have h := ie h c1
    refine w_sipush 222 15 hX isp_222 dX12_rests_15 ?_
    refine w_iconst 3 18 hX ic_3 dX12_rests_18 ?_
    refine w_iload_n 3 19 hX rfl rfl dX12_rests_19 ?_
    refine w_imul 20 hX dX12_rests_20 ?_
    refine w_iadd 21 hX dX12_rests_21 ?_
    refine w_istore (lv' := [(4, .int (222 + (3 * l3))), (0, .ref 146), (1, .int l1), (2, .int l2), (3, .int l3)]) 22 hX dX12_rests_22 (by decide) rfl ?_
    refine w_aload_n 1 24 hX rfl rfl dX12_rests_24 ?_
    refine w_getR 25 hX CI_12 s_146 rfl r_146_0 fl_X12_7 rfl dX12_rests_25 ?_
    refine w_iload 0 28 hX rfl dX12_rests_28 ?_
    obtain ⟨x3, gx3, h⟩ := o_bind h
    refine w_iald 30 hX s_147 gx3 dX12_rests_30 ?_
    refine w_aload_n 1 31 hX rfl rfl dX12_rests_31 ?_
    refine w_getR 32 hX CI_12 s_146 rfl r_146_0 fl_X12_7 rfl dX12_rests_32 ?_
    refine w_iconst 0 35 hX ic_0 dX12_rests_35 ?_
    refine w_iald 36 hX s_147 (rdK 0 0 n_0 (by decide) (by decide)) dX12_rests_36 ?_
    refine w_icmp_ne (tgt := 73) 37 hX dX12_rests_37 (by decide) (fun c4 => ?_) (fun c4 => ?_)
    · have h := ie h c4
      exact w_sub [1, 2, 3, 4] rfl (bX12_rests_146_73 hX hR hk4 l1 l2 l3 h)
    · have h := it h c4
      refine w_aload_n 1 40 hX rfl rfl dX12_rests_40 ?_
      refine w_getR 41 hX CI_12 s_146 rfl r_146_0 fl_X12_7 rfl dX12_rests_41 ?_
      refine w_iload 0 44 hX rfl dX12_rests_44 ?_
      refine w_iconst 2 46 hX ic_2 dX12_rests_46 ?_
      refine w_iadd 47 hX dX12_rests_47 ?_
      obtain ⟨x5, gx5, h⟩ := o_bind h
      refine w_iald 48 hX s_147 gx5 dX12_rests_48 ?_
      refine w_iload_n 2 49 hX rfl rfl dX12_rests_49 ?_
      refine w_icmp_ne (tgt := 73) 50 hX dX12_rests_50 (by decide) (fun c6 => ?_) (fun c6 => ?_)
      · have h := ie h c6
        exact w_sub [1, 2, 3, 4] rfl (bX12_rests_146_73 hX hR hk4 l1 l2 l3 h)
      · have h := it h c6
        refine w_aload_n 1 53 hX rfl rfl dX12_rests_53 ?_
        refine w_getR 54 hX CI_12 s_146 rfl r_146_0 fl_X12_7 rfl dX12_rests_54 ?_
        refine w_iload 0 57 hX rfl dX12_rests_57 ?_
        refine w_iconst 1 59 hX ic_1 dX12_rests_59 ?_
        refine w_iadd 60 hX dX12_rests_60 ?_
        obtain ⟨x7, gx7, h⟩ := o_bind h
        refine w_iald 61 hX s_147 gx7 dX12_rests_61 ?_
        refine w_bipush 11 62 hX ib_11 dX12_rests_62 ?_
        refine w_icmp_ne (tgt := 71) 64 hX dX12_rests_64 (by decide) (fun c8 => ?_) (fun c8 => ?_)
        · have h := ie h c8
          refine w_iconst 0 71 hX ic_0 dX12_rests_71 ?_
          exact w_sub [1, 2, 4] rfl (bX12_rests_146_72 hX hR hk4 l1 l3 0 h)
        · have h := it h c8
          refine w_iconst 1 67 hX ic_1 dX12_rests_67 ?_
          refine w_goto (tgt := 72) 68 hX (by decide) dX12_rests_68 ?_
          exact w_sub [1, 2, 4] rfl (bX12_rests_146_72 hX hR hk4 l1 l3 1 h)
def FX12_rests_146_L4 : Nat → Int32 → Int32 → Int32 → Mem → Option Int32
  | 0, _, _, _, _ => none
  | n + 1, l1, l2, l3, u => FX12_rests_146_b4 (FX12_rests_146_L4 n) l1 l2 l3 u
theorem lX12_rests_146_4 {G : Gt} {X : Xt} {v : Int32} {u : Mem} (hX : CxOk G X cX12_rests 5 RX12 (some (.int v), SH, RHO, u) 1) (hR : CxRet G X (some .boolean) (some (.int v), SH, RHO, u)) : ∀ (n : Nat) (l1 l2 l3 : Int32), FX12_rests_146_L4 n l1 l2 l3 u = some v → WM G X 4 [(0, .ref 146), (1, .int l1), (2, .int l2), (3, .int l3)] [] SH RHO u := by
  intro n
  induction n with
  | zero =>
    intro l1 l2 l3 h
    exact nn_ h
  | succ n ih =>
    intro l1 l2 l3 h
    exact bX12_rests_146_4 hX hR ih l1 l2 l3 h
def FX12_rests_146 (p1 : Int32) (u : Mem) : Option Int32 :=
  FX12_rests_146_L4 FU p1 0 0 u
theorem CX12_rests_146 {G : Gt} (p1 : Int32) (u : Mem) {v : Int32} (h : FX12_rests_146 p1 u = some v) : CT G yX12_rests cX12_rests 5 (some .boolean) 1 [.ref 146, .int p1] SH RHO u (some (.int v), SH, RHO, u) :=
  ct_of (by decide) rfl (Nat.le_of_ble_eq_true rfl) (Nat.le_refl _) (Nat.le_refl _) (fun X hX hR => by
  unfold FX12_rests_146 at h
  refine w_iconst 0 0 hX ic_0 dX12_rests_0 ?_
  refine w_istore_n (lv' := [(2, .int 0), (0, .ref 146), (1, .int p1)]) 1 hX rfl dX12_rests_1 (by decide) rfl ?_
  refine w_iconst 0 2 hX ic_0 dX12_rests_2 ?_
  refine w_istore_n (lv' := [(3, .int 0), (2, .int 0), (0, .ref 146), (1, .int p1)]) 3 hX rfl dX12_rests_3 (by decide) rfl ?_
  exact w_sub [2, 3, 1, 0] rfl (lX12_rests_146_4 hX hR FU p1 0 0 h))
def FX12_napOf_146 (p1 : Int32) (u : Mem) : Option (Int32 × Mem) :=
  bnd2 (FX12_says_146 22 p1 0 99 u) fun x1 u2 => some (x1, u2)
theorem CX12_napOf_146 {G : Gt} (p1 : Int32) (u : Mem) {v : Int32} {u' : Mem} (h : FX12_napOf_146 p1 u = some (v, u')) : CT G yX12_napOf cX12_napOf 2 (some .int) 5 [.ref 146, .int p1] SH RHO u (some (.int v), SH, RHO, u') :=
  ct_of (by decide) rfl (Nat.le_of_ble_eq_true rfl) (Nat.le_refl _) (Nat.le_refl _) (fun X hX hR => by
  unfold FX12_napOf_146 at h
  refine w_aload_n 0 0 hX rfl rfl dX12_napOf_0 ?_
  refine w_bipush 22 1 hX ib_22 dX12_napOf_1 ?_
  refine w_iload_n 1 3 hX rfl rfl dX12_napOf_3 ?_
  refine w_iconst 0 4 hX ic_0 dX12_napOf_4 ?_
  refine w_bipush 99 5 hX ib_99 dX12_napOf_5 ?_
  obtain ⟨x1, u2, gx1, h⟩ := o_bnd2 h
  refine w_invVi (av := [.int 22, .int p1, .int 0, .int 99]) (st := []) 7 hX CI_12 s_146 rfl mv_yX12_says mi_yX12_says ml_X12_306 (CX12_says_146 22 p1 0 99 u gx1) rfl (by decide) (Nat.le_of_ble_eq_true rfl) (Nat.le_refl _) (Nat.le_refl _) dX12_napOf_7 ?_
  exact w_iret 10 hX hR dX12_napOf_10 (by cases h; rfl))
def FX12_stepOf_146 (p1 : Int32) (u : Mem) : Option (Int32 × Mem) :=
  (rdA u 147 1786 (114 + p1)).bind fun x1 => bnd2 (FX12_says_146 21 p1 x1 9 u) fun x2 u3 => some (x2, u3)
theorem CX12_stepOf_146 {G : Gt} (p1 : Int32) (u : Mem) {v : Int32} {u' : Mem} (h : FX12_stepOf_146 p1 u = some (v, u')) : CT G yX12_stepOf cX12_stepOf 2 (some .int) 5 [.ref 146, .int p1] SH RHO u (some (.int v), SH, RHO, u') :=
  ct_of (by decide) rfl (Nat.le_of_ble_eq_true rfl) (Nat.le_refl _) (Nat.le_refl _) (fun X hX hR => by
  unfold FX12_stepOf_146 at h
  refine w_aload_n 0 0 hX rfl rfl dX12_stepOf_0 ?_
  refine w_bipush 21 1 hX ib_21 dX12_stepOf_1 ?_
  refine w_iload_n 1 3 hX rfl rfl dX12_stepOf_3 ?_
  refine w_aload_n 0 4 hX rfl rfl dX12_stepOf_4 ?_
  refine w_getR 5 hX CI_12 s_146 rfl r_146_0 fl_X12_7 rfl dX12_stepOf_5 ?_
  refine w_bipush 114 8 hX ib_114 dX12_stepOf_8 ?_
  refine w_iload_n 1 10 hX rfl rfl dX12_stepOf_10 ?_
  refine w_iadd 11 hX dX12_stepOf_11 ?_
  obtain ⟨x1, gx1, h⟩ := o_bind h
  refine w_iald 12 hX s_147 gx1 dX12_stepOf_12 ?_
  refine w_bipush 9 13 hX ib_9 dX12_stepOf_13 ?_
  obtain ⟨x2, u3, gx2, h⟩ := o_bnd2 h
  refine w_invVi (av := [.int 21, .int p1, .int x1, .int 9]) (st := []) 15 hX CI_12 s_146 rfl mv_yX12_says mi_yX12_says ml_X12_306 (CX12_says_146 21 p1 x1 9 u gx2) rfl (by decide) (Nat.le_of_ble_eq_true rfl) (Nat.le_refl _) (Nat.le_refl _) dX12_stepOf_15 ?_
  exact w_iret 18 hX hR dX12_stepOf_18 (by cases h; rfl))
def FX12_isHeld_146_b38 (k2 : Int32 → Int32 → Int32 → Mem → Option Int32) (l1 l2 l3 : Int32) (u : Mem) : Option Int32 :=
  k2 l1 l2 (l3 + 1) u
theorem bX12_isHeld_146_38 {G : Gt} {X : Xt} {v : Int32} {u : Mem} (hX : CxOk G X cX12_isHeld 4 RX12 (some (.int v), SH, RHO, u) 2) (hR : CxRet G X (some .boolean) (some (.int v), SH, RHO, u)) {k2 : Int32 → Int32 → Int32 → Mem → Option Int32} (hk2 : ∀ (l1 l2 l3 : Int32), k2 l1 l2 l3 u = some v → WM G X 2 [(0, .ref 146), (1, .int l1), (2, .int l2), (3, .int l3)] [] SH RHO u) (l1 l2 l3 : Int32) (h : FX12_isHeld_146_b38 k2 l1 l2 l3 u = some v) : WM G X 38 [(0, .ref 146), (1, .int l1), (2, .int l2), (3, .int l3)] [] SH RHO u := by
  unfold FX12_isHeld_146_b38 at h
  refine w_iinc (lv' := [(3, .int (l3 + 1)), (0, .ref 146), (1, .int l1), (2, .int l2)]) 38 3 hX dX12_isHeld_38 rfl (inc_1 _) (by decide) rfl ?_
  refine w_goto (tgt := 2) 41 hX (by decide) dX12_isHeld_41 ?_
  exact w_sub [1, 2, 3, 0] rfl (hk2 l1 l2 (l3 + 1) h)
def FX12_isHeld_146_b2 (k2 : Int32 → Int32 → Int32 → Mem → Option Int32) (l1 l2 l3 : Int32) (u : Mem) : Option Int32 :=
  (if (u 147 78) ≤ l3 then (some 0) else ((FX12_isOf_146 l3 l1 1 u).bind fun x2 => (if x2 = 0 then (FX12_isHeld_146_b38 k2 l1 l2 l3 u) else ((rdA u 147 1786 (52 + l3)).bind fun x4 => (if x4 = l2 then (some 1) else (FX12_isHeld_146_b38 k2 l1 l2 l3 u))))))
theorem bX12_isHeld_146_2 {G : Gt} {X : Xt} {v : Int32} {u : Mem} (hX : CxOk G X cX12_isHeld 4 RX12 (some (.int v), SH, RHO, u) 2) (hR : CxRet G X (some .boolean) (some (.int v), SH, RHO, u)) {k2 : Int32 → Int32 → Int32 → Mem → Option Int32} (hk2 : ∀ (l1 l2 l3 : Int32), k2 l1 l2 l3 u = some v → WM G X 2 [(0, .ref 146), (1, .int l1), (2, .int l2), (3, .int l3)] [] SH RHO u) (l1 l2 l3 : Int32) (h : FX12_isHeld_146_b2 k2 l1 l2 l3 u = some v) : WM G X 2 [(0, .ref 146), (1, .int l1), (2, .int l2), (3, .int l3)] [] SH RHO u := by
  unfold FX12_isHeld_146_b2 at h
  refine w_iload_n 3 2 hX rfl rfl dX12_isHeld_2 ?_
  refine w_aload_n 0 3 hX rfl rfl dX12_isHeld_3 ?_
  refine w_getR 4 hX CI_12 s_146 rfl r_146_0 fl_X12_7 rfl dX12_isHeld_4 ?_
  refine w_bipush 78 7 hX ib_78 dX12_isHeld_7 ?_
  refine w_iald 9 hX s_147 (rdK 78 78 n_78 (by decide) (by decide)) dX12_isHeld_9 ?_
  refine w_icmp_ge (tgt := 44) 10 hX dX12_isHeld_10 (by decide) (fun c1 => ?_) (fun c1 => ?_)
  · have h := it h c1
    refine w_iconst 0 44 hX ic_0 dX12_isHeld_44 ?_
    exact w_zret 45 hX hR (by decide) dX12_isHeld_45 (by cases h; rfl)
  · have h := ie h c1
    refine w_aload_n 0 13 hX rfl rfl dX12_isHeld_13 ?_
    refine w_iload_n 3 14 hX rfl rfl dX12_isHeld_14 ?_
    refine w_iload_n 1 15 hX rfl rfl dX12_isHeld_15 ?_
    refine w_iconst 1 16 hX ic_1 dX12_isHeld_16 ?_
    obtain ⟨x2, gx2, h⟩ := o_bind h
    refine w_invVi (av := [.int l3, .int l1, .int 1]) (st := []) 17 hX CI_12 s_146 rfl mv_yX12_isOf mi_yX12_isOf ml_X12_320 (CX12_isOf_146 l3 l1 1 u gx2) rfl (by decide) (Nat.le_of_ble_eq_true rfl) (Nat.le_refl _) (Nat.le_refl _) dX12_isHeld_17 ?_
    refine w_if_eq (tgt := 38) 20 hX dX12_isHeld_20 (by decide) (fun c3 => ?_) (fun c3 => ?_)
    · have h := it h c3
      exact bX12_isHeld_146_38 hX hR hk2 l1 l2 l3 h
    · have h := ie h c3
      refine w_aload_n 0 23 hX rfl rfl dX12_isHeld_23 ?_
      refine w_getR 24 hX CI_12 s_146 rfl r_146_0 fl_X12_7 rfl dX12_isHeld_24 ?_
      refine w_bipush 52 27 hX ib_52 dX12_isHeld_27 ?_
      refine w_iload_n 3 29 hX rfl rfl dX12_isHeld_29 ?_
      refine w_iadd 30 hX dX12_isHeld_30 ?_
      obtain ⟨x4, gx4, h⟩ := o_bind h
      refine w_iald 31 hX s_147 gx4 dX12_isHeld_31 ?_
      refine w_iload_n 2 32 hX rfl rfl dX12_isHeld_32 ?_
      refine w_icmp_ne (tgt := 38) 33 hX dX12_isHeld_33 (by decide) (fun c5 => ?_) (fun c5 => ?_)
      · have h := ie h c5
        exact bX12_isHeld_146_38 hX hR hk2 l1 l2 l3 h
      · have h := it h c5
        refine w_iconst 1 36 hX ic_1 dX12_isHeld_36 ?_
        exact w_zret 37 hX hR (by decide) dX12_isHeld_37 (by cases h; rfl)
def FX12_isHeld_146_L2 : Nat → Int32 → Int32 → Int32 → Mem → Option Int32
  | 0, _, _, _, _ => none
  | n + 1, l1, l2, l3, u => FX12_isHeld_146_b2 (FX12_isHeld_146_L2 n) l1 l2 l3 u
theorem lX12_isHeld_146_2 {G : Gt} {X : Xt} {v : Int32} {u : Mem} (hX : CxOk G X cX12_isHeld 4 RX12 (some (.int v), SH, RHO, u) 2) (hR : CxRet G X (some .boolean) (some (.int v), SH, RHO, u)) : ∀ (n : Nat) (l1 l2 l3 : Int32), FX12_isHeld_146_L2 n l1 l2 l3 u = some v → WM G X 2 [(0, .ref 146), (1, .int l1), (2, .int l2), (3, .int l3)] [] SH RHO u := by
  intro n
  induction n with
  | zero =>
    intro l1 l2 l3 h
    exact nn_ h
  | succ n ih =>
    intro l1 l2 l3 h
    exact bX12_isHeld_146_2 hX hR ih l1 l2 l3 h
def FX12_isHeld_146 (p1 p2 : Int32) (u : Mem) : Option Int32 :=
  FX12_isHeld_146_L2 FU p1 p2 0 u
theorem CX12_isHeld_146 {G : Gt} (p1 p2 : Int32) (u : Mem) {v : Int32} (h : FX12_isHeld_146 p1 p2 u = some v) : CT G yX12_isHeld cX12_isHeld 4 (some .boolean) 2 [.ref 146, .int p1, .int p2] SH RHO u (some (.int v), SH, RHO, u) :=
  ct_of (by decide) rfl (Nat.le_of_ble_eq_true rfl) (Nat.le_refl _) (Nat.le_refl _) (fun X hX hR => by
  unfold FX12_isHeld_146 at h
  refine w_iconst 0 0 hX ic_0 dX12_isHeld_0 ?_
  refine w_istore_n (lv' := [(3, .int 0), (0, .ref 146), (1, .int p1), (2, .int p2)]) 1 hX rfl dX12_isHeld_1 (by decide) rfl ?_
  exact w_sub [1, 2, 3, 0] rfl (lX12_isHeld_146_2 hX hR FU p1 p2 0 h))
def FX12_goesOn_146_b143 (k19 : Int32 → Int32 → Int32 → Int32 → Mem → Option Mem) (l1 l2 l3 l4 l6 : Int32) (u : Mem) : Option Mem :=
  k19 l1 l2 (l3 - l6) l4 u
theorem bX12_goesOn_146_143 {G : Gt} {X : Xt} {u' : Mem} (hX : CxOk G X cX12_goesOn 7 RX12 (none, SH, RHO, u') 6) (hR : CxRet G X none (none, SH, RHO, u')) {k19 : Int32 → Int32 → Int32 → Int32 → Mem → Option Mem} (hk19 : ∀ (l1 l2 l3 l4 : Int32) (u : Mem), k19 l1 l2 l3 l4 u = some u' → WM G X 19 [(0, .ref 146), (1, .int l1), (2, .int l2), (3, .int l3), (4, .int l4)] [] SH RHO u) (l1 l2 l3 l4 l6 : Int32) (u : Mem) (h : FX12_goesOn_146_b143 k19 l1 l2 l3 l4 l6 u = some u') : WM G X 143 [(0, .ref 146), (1, .int l1), (2, .int l2), (3, .int l3), (4, .int l4), (6, .int l6)] [] SH RHO u := by
  unfold FX12_goesOn_146_b143 at h
  refine w_iload_n 3 143 hX rfl rfl dX12_goesOn_143 ?_
  refine w_iload 5 144 hX rfl dX12_goesOn_144 ?_
  refine w_isub 146 hX dX12_goesOn_146 ?_
  refine w_istore_n (lv' := [(3, .int (l3 - l6)), (0, .ref 146), (1, .int l1), (2, .int l2), (4, .int l4), (6, .int l6)]) 147 hX rfl dX12_goesOn_147 (by decide) rfl ?_
  refine w_goto (tgt := 19) 148 hX (by decide) dX12_goesOn_148 ?_
  exact w_sub [1, 2, 3, 0, 4] rfl (hk19 l1 l2 (l3 - l6) l4 u h)
def FX12_goesOn_146_b125 (k19 : Int32 → Int32 → Int32 → Int32 → Mem → Option Mem) (l1 l2 l3 l5 l6 t0 : Int32) (u : Mem) : Option Mem :=
  (if t0 = 0 then (FX12_goesOn_146_b143 k19 l1 l2 l3 t0 l6 u) else ((wrA u 147 1786 (52 + l1) l5).bind fun u2 => FX12_goesOn_146_b143 k19 l1 l2 l3 t0 l6 u2))
theorem bX12_goesOn_146_125 {G : Gt} {X : Xt} {u' : Mem} (hX : CxOk G X cX12_goesOn 7 RX12 (none, SH, RHO, u') 6) (hR : CxRet G X none (none, SH, RHO, u')) {k19 : Int32 → Int32 → Int32 → Int32 → Mem → Option Mem} (hk19 : ∀ (l1 l2 l3 l4 : Int32) (u : Mem), k19 l1 l2 l3 l4 u = some u' → WM G X 19 [(0, .ref 146), (1, .int l1), (2, .int l2), (3, .int l3), (4, .int l4)] [] SH RHO u) (l1 l2 l3 l5 l6 t0 : Int32) (u : Mem) (h : FX12_goesOn_146_b125 k19 l1 l2 l3 l5 l6 t0 u = some u') : WM G X 125 [(0, .ref 146), (1, .int l1), (2, .int l2), (3, .int l3), (5, .int l5), (6, .int l6)] [.int t0] SH RHO u := by
  unfold FX12_goesOn_146_b125 at h
  refine w_istore (lv' := [(4, .int t0), (0, .ref 146), (1, .int l1), (2, .int l2), (3, .int l3), (5, .int l5), (6, .int l6)]) 125 hX dX12_goesOn_125 (by decide) rfl ?_
  refine w_iload 0 127 hX rfl dX12_goesOn_127 ?_
  refine w_if_eq (tgt := 143) 129 hX dX12_goesOn_129 (by decide) (fun c1 => ?_) (fun c1 => ?_)
  · have h := it h c1
    exact w_sub [1, 2, 3, 4, 0, 6] rfl (bX12_goesOn_146_143 hX hR hk19 l1 l2 l3 t0 l6 u h)
  · have h := ie h c1
    refine w_aload_n 1 132 hX rfl rfl dX12_goesOn_132 ?_
    refine w_getR 133 hX CI_12 s_146 rfl r_146_0 fl_X12_7 rfl dX12_goesOn_133 ?_
    refine w_bipush 52 136 hX ib_52 dX12_goesOn_136 ?_
    refine w_iload_n 2 138 hX rfl rfl dX12_goesOn_138 ?_
    refine w_iadd 139 hX dX12_goesOn_139 ?_
    refine w_iload 5 140 hX rfl dX12_goesOn_140 ?_
    obtain ⟨u2, gu2, h⟩ := o_bind h
    refine w_iast 142 hX s_147 gu2 dX12_goesOn_142 ?_
    exact w_sub [1, 2, 3, 4, 0, 6] rfl (bX12_goesOn_146_143 hX hR hk19 l1 l2 l3 t0 l6 u2 h)
def FX12_goesOn_146_b107 (k19 : Int32 → Int32 → Int32 → Int32 → Mem → Option Mem) (l1 l2 l3 l4 l5 t0 : Int32) (u : Mem) : Option Mem :=
  (if l4 = 0 then (FX12_goesOn_146_b125 k19 l1 l2 l3 l5 t0 0 u) else ((if l3 < t0 then (FX12_goesOn_146_b125 k19 l1 l2 l3 l5 t0 0 u) else (FX12_goesOn_146_b125 k19 l1 l2 l3 l5 t0 1 u))))
theorem bX12_goesOn_146_107 {G : Gt} {X : Xt} {u' : Mem} (hX : CxOk G X cX12_goesOn 7 RX12 (none, SH, RHO, u') 6) (hR : CxRet G X none (none, SH, RHO, u')) {k19 : Int32 → Int32 → Int32 → Int32 → Mem → Option Mem} (hk19 : ∀ (l1 l2 l3 l4 : Int32) (u : Mem), k19 l1 l2 l3 l4 u = some u' → WM G X 19 [(0, .ref 146), (1, .int l1), (2, .int l2), (3, .int l3), (4, .int l4)] [] SH RHO u) (l1 l2 l3 l4 l5 t0 : Int32) (u : Mem) (h : FX12_goesOn_146_b107 k19 l1 l2 l3 l4 l5 t0 u = some u') : WM G X 107 [(0, .ref 146), (1, .int l1), (2, .int l2), (3, .int l3), (4, .int l4), (5, .int l5)] [.int t0] SH RHO u := by
  unfold FX12_goesOn_146_b107 at h
  refine w_istore (lv' := [(6, .int t0), (0, .ref 146), (1, .int l1), (2, .int l2), (3, .int l3), (4, .int l4), (5, .int l5)]) 107 hX dX12_goesOn_107 (by decide) rfl ?_
  refine w_iload 5 109 hX rfl dX12_goesOn_109 ?_
  refine w_if_eq (tgt := 124) 111 hX dX12_goesOn_111 (by decide) (fun c1 => ?_) (fun c1 => ?_)
  · have h := it h c1
    refine w_iconst 0 124 hX ic_0 dX12_goesOn_124 ?_
    exact w_sub [1, 2, 3, 4, 6, 0] rfl (bX12_goesOn_146_125 hX hR hk19 l1 l2 l3 l5 t0 0 u h)
  · have h := ie h c1
    refine w_iload 0 114 hX rfl dX12_goesOn_114 ?_
    refine w_iload_n 4 116 hX rfl rfl dX12_goesOn_116 ?_
    refine w_icmp_gt (tgt := 124) 117 hX dX12_goesOn_117 (by decide) (fun c2 => ?_) (fun c2 => ?_)
    · have h := it h c2
      refine w_iconst 0 124 hX ic_0 dX12_goesOn_124 ?_
      exact w_sub [1, 2, 3, 4, 6, 0] rfl (bX12_goesOn_146_125 hX hR hk19 l1 l2 l3 l5 t0 0 u h)
    · have h := ie h c2
      refine w_iconst 1 120 hX ic_1 dX12_goesOn_120 ?_
      refine w_goto (tgt := 125) 121 hX (by decide) dX12_goesOn_121 ?_
      exact w_sub [1, 2, 3, 4, 6, 0] rfl (bX12_goesOn_146_125 hX hR hk19 l1 l2 l3 l5 t0 1 u h)
def FX12_goesOn_146_b84 (k19 : Int32 → Int32 → Int32 → Int32 → Mem → Option Mem) (l1 l2 l3 l5 t0 : Int32) (u : Mem) : Option Mem :=
  (if t0 = 0 then (FX12_goesOn_146_b107 k19 l1 l2 l3 t0 l5 0 u) else ((rdA u 147 1786 (126 + l5)).bind fun x2 => FX12_goesOn_146_b107 k19 l1 l2 l3 t0 l5 (1 + x2) u))
theorem bX12_goesOn_146_84 {G : Gt} {X : Xt} {u' : Mem} (hX : CxOk G X cX12_goesOn 7 RX12 (none, SH, RHO, u') 6) (hR : CxRet G X none (none, SH, RHO, u')) {k19 : Int32 → Int32 → Int32 → Int32 → Mem → Option Mem} (hk19 : ∀ (l1 l2 l3 l4 : Int32) (u : Mem), k19 l1 l2 l3 l4 u = some u' → WM G X 19 [(0, .ref 146), (1, .int l1), (2, .int l2), (3, .int l3), (4, .int l4)] [] SH RHO u) (l1 l2 l3 l5 t0 : Int32) (u : Mem) (h : FX12_goesOn_146_b84 k19 l1 l2 l3 l5 t0 u = some u') : WM G X 84 [(0, .ref 146), (1, .int l1), (2, .int l2), (3, .int l3), (5, .int l5)] [.int t0] SH RHO u := by
  unfold FX12_goesOn_146_b84 at h
  refine w_istore (lv' := [(4, .int t0), (0, .ref 146), (1, .int l1), (2, .int l2), (3, .int l3), (5, .int l5)]) 84 hX dX12_goesOn_84 (by decide) rfl ?_
  refine w_iload 0 86 hX rfl dX12_goesOn_86 ?_
  refine w_if_eq (tgt := 106) 88 hX dX12_goesOn_88 (by decide) (fun c1 => ?_) (fun c1 => ?_)
  · have h := it h c1
    refine w_iconst 0 106 hX ic_0 dX12_goesOn_106 ?_
    exact w_sub [1, 2, 3, 4, 0, 5] rfl (bX12_goesOn_146_107 hX hR hk19 l1 l2 l3 t0 l5 0 u h)
  · have h := ie h c1
    refine w_iconst 1 91 hX ic_1 dX12_goesOn_91 ?_
    refine w_aload_n 1 92 hX rfl rfl dX12_goesOn_92 ?_
    refine w_getR 93 hX CI_12 s_146 rfl r_146_0 fl_X12_7 rfl dX12_goesOn_93 ?_
    refine w_bipush 126 96 hX ib_126 dX12_goesOn_96 ?_
    refine w_iload 5 98 hX rfl dX12_goesOn_98 ?_
    refine w_iadd 100 hX dX12_goesOn_100 ?_
    obtain ⟨x2, gx2, h⟩ := o_bind h
    refine w_iald 101 hX s_147 gx2 dX12_goesOn_101 ?_
    refine w_iadd 102 hX dX12_goesOn_102 ?_
    refine w_goto (tgt := 107) 103 hX (by decide) dX12_goesOn_103 ?_
    exact w_sub [1, 2, 3, 4, 0, 5] rfl (bX12_goesOn_146_107 hX hR hk19 l1 l2 l3 t0 l5 (1 + x2) u h)
def FX12_goesOn_146_b42 (k19 : Int32 → Int32 → Int32 → Int32 → Mem → Option Mem) (l1 l2 l3 t0 t1 : Int32) (u : Mem) : Option Mem :=
  (if l3 ≤ 0 then (FX12_goesOn_146_b84 k19 l1 l2 l3 (t0 + t1) 0 u) else ((FX12_isIn (t0 + t1) 0 15).bind fun x2 => (if x2 = 0 then (FX12_goesOn_146_b84 k19 l1 l2 l3 (t0 + t1) 0 u) else ((rdA u 147 1786 (52 + l1)).bind fun x4 => (FX12_isHeld_146 (1 - l2) x4 u).bind fun x5 => (if x5 = 0 then (FX12_goesOn_146_b84 k19 l1 l2 l3 (t0 + t1) 1 u) else (FX12_goesOn_146_b84 k19 l1 l2 l3 (t0 + t1) 0 u))))))
theorem bX12_goesOn_146_42 {G : Gt} {X : Xt} {u' : Mem} (hX : CxOk G X cX12_goesOn 7 RX12 (none, SH, RHO, u') 6) (hR : CxRet G X none (none, SH, RHO, u')) {k19 : Int32 → Int32 → Int32 → Int32 → Mem → Option Mem} (hk19 : ∀ (l1 l2 l3 l4 : Int32) (u : Mem), k19 l1 l2 l3 l4 u = some u' → WM G X 19 [(0, .ref 146), (1, .int l1), (2, .int l2), (3, .int l3), (4, .int l4)] [] SH RHO u) (l1 l2 l3 t0 t1 : Int32) (u : Mem) (h : FX12_goesOn_146_b42 k19 l1 l2 l3 t0 t1 u = some u') : WM G X 42 [(0, .ref 146), (1, .int l1), (2, .int l2), (3, .int l3)] [.int t1, .int t0] SH RHO u := by
  unfold FX12_goesOn_146_b42 at h
  refine w_iadd 42 hX dX12_goesOn_42 ?_
  refine w_istore (lv' := [(5, .int (t0 + t1)), (0, .ref 146), (1, .int l1), (2, .int l2), (3, .int l3)]) 43 hX dX12_goesOn_43 (by decide) rfl ?_
  refine w_iload_n 4 45 hX rfl rfl dX12_goesOn_45 ?_
  refine w_if_le (tgt := 83) 46 hX dX12_goesOn_46 (by decide) (fun c1 => ?_) (fun c1 => ?_)
  · have h := it h c1
    refine w_iconst 0 83 hX ic_0 dX12_goesOn_83 ?_
    exact w_sub [1, 2, 3, 4, 0] rfl (bX12_goesOn_146_84 hX hR hk19 l1 l2 l3 (t0 + t1) 0 u h)
  · have h := ie h c1
    refine w_iload 0 49 hX rfl dX12_goesOn_49 ?_
    refine w_iconst 0 51 hX ic_0 dX12_goesOn_51 ?_
    refine w_bipush 15 52 hX ib_15 dX12_goesOn_52 ?_
    obtain ⟨x2, gx2, h⟩ := o_bind h
    refine w_invSi (av := [.int (t0 + t1), .int 0, .int 15]) (st := []) 54 hX ms_yX12_isIn mi_yX12_isIn ml_X12_54 (CX12_isIn (t0 + t1) 0 15 u gx2) rfl (by decide) (Nat.le_of_ble_eq_true rfl) (Nat.le_refl _) (Nat.le_refl _) dX12_goesOn_54 ?_
    refine w_if_eq (tgt := 83) 57 hX dX12_goesOn_57 (by decide) (fun c3 => ?_) (fun c3 => ?_)
    · have h := it h c3
      refine w_iconst 0 83 hX ic_0 dX12_goesOn_83 ?_
      exact w_sub [1, 2, 3, 4, 0] rfl (bX12_goesOn_146_84 hX hR hk19 l1 l2 l3 (t0 + t1) 0 u h)
    · have h := ie h c3
      refine w_aload_n 1 60 hX rfl rfl dX12_goesOn_60 ?_
      refine w_iconst 1 61 hX ic_1 dX12_goesOn_61 ?_
      refine w_iload_n 3 62 hX rfl rfl dX12_goesOn_62 ?_
      refine w_isub 63 hX dX12_goesOn_63 ?_
      refine w_aload_n 1 64 hX rfl rfl dX12_goesOn_64 ?_
      refine w_getR 65 hX CI_12 s_146 rfl r_146_0 fl_X12_7 rfl dX12_goesOn_65 ?_
      refine w_bipush 52 68 hX ib_52 dX12_goesOn_68 ?_
      refine w_iload_n 2 70 hX rfl rfl dX12_goesOn_70 ?_
      refine w_iadd 71 hX dX12_goesOn_71 ?_
      obtain ⟨x4, gx4, h⟩ := o_bind h
      refine w_iald 72 hX s_147 gx4 dX12_goesOn_72 ?_
      obtain ⟨x5, gx5, h⟩ := o_bind h
      refine w_invVi (av := [.int (1 - l2), .int x4]) (st := []) 73 hX CI_12 s_146 rfl mv_yX12_isHeld mi_yX12_isHeld ml_X12_343 (CX12_isHeld_146 (1 - l2) x4 u gx5) rfl (by decide) (Nat.le_of_ble_eq_true rfl) (Nat.le_refl _) (Nat.le_refl _) dX12_goesOn_73 ?_
      refine w_if_ne (tgt := 83) 76 hX dX12_goesOn_76 (by decide) (fun c6 => ?_) (fun c6 => ?_)
      · have h := ie h c6
        refine w_iconst 0 83 hX ic_0 dX12_goesOn_83 ?_
        exact w_sub [1, 2, 3, 4, 0] rfl (bX12_goesOn_146_84 hX hR hk19 l1 l2 l3 (t0 + t1) 0 u h)
      · have h := it h c6
        refine w_iconst 1 79 hX ic_1 dX12_goesOn_79 ?_
        refine w_goto (tgt := 84) 80 hX (by decide) dX12_goesOn_80 ?_
        exact w_sub [1, 2, 3, 4, 0] rfl (bX12_goesOn_146_84 hX hR hk19 l1 l2 l3 (t0 + t1) 1 u h)
def FX12_goesOn_146_b19 (k19 : Int32 → Int32 → Int32 → Int32 → Mem → Option Mem) (l1 l2 l3 l4 : Int32) (u : Mem) : Option Mem :=
  (if l4 = 0 then (some u) else ((rdA u 147 1786 (52 + l1)).bind fun x2 => (if l2 = 0 then (FX12_goesOn_146_b42 k19 l1 l2 l3 x2 1 u) else (FX12_goesOn_146_b42 k19 l1 l2 l3 x2 (-1) u))))
theorem bX12_goesOn_146_19 {G : Gt} {X : Xt} {u' : Mem} (hX : CxOk G X cX12_goesOn 7 RX12 (none, SH, RHO, u') 6) (hR : CxRet G X none (none, SH, RHO, u')) {k19 : Int32 → Int32 → Int32 → Int32 → Mem → Option Mem} (hk19 : ∀ (l1 l2 l3 l4 : Int32) (u : Mem), k19 l1 l2 l3 l4 u = some u' → WM G X 19 [(0, .ref 146), (1, .int l1), (2, .int l2), (3, .int l3), (4, .int l4)] [] SH RHO u) (l1 l2 l3 l4 : Int32) (u : Mem) (h : FX12_goesOn_146_b19 k19 l1 l2 l3 l4 u = some u') : WM G X 19 [(0, .ref 146), (1, .int l1), (2, .int l2), (3, .int l3), (4, .int l4)] [] SH RHO u := by
  unfold FX12_goesOn_146_b19 at h
  refine w_iload 4 19 hX rfl dX12_goesOn_19 ?_
  refine w_if_eq (tgt := 151) 21 hX dX12_goesOn_21 (by decide) (fun c1 => ?_) (fun c1 => ?_)
  · have h := it h c1
    exact w_vret 151 hX hR dX12_goesOn_151 (by cases h; rfl)
  · have h := ie h c1
    refine w_aload_n 0 24 hX rfl rfl dX12_goesOn_24 ?_
    refine w_getR 25 hX CI_12 s_146 rfl r_146_0 fl_X12_7 rfl dX12_goesOn_25 ?_
    refine w_bipush 52 28 hX ib_52 dX12_goesOn_28 ?_
    refine w_iload_n 1 30 hX rfl rfl dX12_goesOn_30 ?_
    refine w_iadd 31 hX dX12_goesOn_31 ?_
    obtain ⟨x2, gx2, h⟩ := o_bind h
    refine w_iald 32 hX s_147 gx2 dX12_goesOn_32 ?_
    refine w_iload_n 2 33 hX rfl rfl dX12_goesOn_33 ?_
    refine w_if_ne (tgt := 41) 34 hX dX12_goesOn_34 (by decide) (fun c3 => ?_) (fun c3 => ?_)
    · have h := ie h c3
      refine w_iconst (-1) 41 hX ic_m1 dX12_goesOn_41 ?_
      exact w_sub [0, 1, 2, 3] rfl (bX12_goesOn_146_42 hX hR hk19 l1 l2 l3 x2 (-1) u h)
    · have h := it h c3
      refine w_iconst 1 37 hX ic_1 dX12_goesOn_37 ?_
      refine w_goto (tgt := 42) 38 hX (by decide) dX12_goesOn_38 ?_
      exact w_sub [0, 1, 2, 3] rfl (bX12_goesOn_146_42 hX hR hk19 l1 l2 l3 x2 1 u h)
def FX12_goesOn_146_L19 : Nat → Int32 → Int32 → Int32 → Int32 → Mem → Option Mem
  | 0, _, _, _, _, _ => none
  | n + 1, l1, l2, l3, l4, u => FX12_goesOn_146_b19 (FX12_goesOn_146_L19 n) l1 l2 l3 l4 u
theorem lX12_goesOn_146_19 {G : Gt} {X : Xt} {u' : Mem} (hX : CxOk G X cX12_goesOn 7 RX12 (none, SH, RHO, u') 6) (hR : CxRet G X none (none, SH, RHO, u')) : ∀ (n : Nat) (l1 l2 l3 l4 : Int32) (u : Mem), FX12_goesOn_146_L19 n l1 l2 l3 l4 u = some u' → WM G X 19 [(0, .ref 146), (1, .int l1), (2, .int l2), (3, .int l3), (4, .int l4)] [] SH RHO u := by
  intro n
  induction n with
  | zero =>
    intro l1 l2 l3 l4 u h
    exact nn_ h
  | succ n ih =>
    intro l1 l2 l3 l4 u h
    exact bX12_goesOn_146_19 hX hR ih l1 l2 l3 l4 u h
def FX12_goesOn_146 (p1 : Int32) (u : Mem) : Option Mem :=
  (rdA u 147 1786 (90 + p1)).bind fun x1 => bnd2 (FX12_stepOf_146 p1 u) fun x2 u3 => FX12_goesOn_146_L19 FU p1 x1 x2 1 u3
theorem CX12_goesOn_146 {G : Gt} (p1 : Int32) (u : Mem) {u' : Mem} (h : FX12_goesOn_146 p1 u = some u') : CT G yX12_goesOn cX12_goesOn 7 none 6 [.ref 146, .int p1] SH RHO u (none, SH, RHO, u') :=
  ct_of (by decide) rfl (Nat.le_of_ble_eq_true rfl) (Nat.le_refl _) (Nat.le_refl _) (fun X hX hR => by
  unfold FX12_goesOn_146 at h
  refine w_aload_n 0 0 hX rfl rfl dX12_goesOn_0 ?_
  refine w_getR 1 hX CI_12 s_146 rfl r_146_0 fl_X12_7 rfl dX12_goesOn_1 ?_
  refine w_bipush 90 4 hX ib_90 dX12_goesOn_4 ?_
  refine w_iload_n 1 6 hX rfl rfl dX12_goesOn_6 ?_
  refine w_iadd 7 hX dX12_goesOn_7 ?_
  obtain ⟨x1, gx1, h⟩ := o_bind h
  refine w_iald 8 hX s_147 gx1 dX12_goesOn_8 ?_
  refine w_istore_n (lv' := [(2, .int x1), (0, .ref 146), (1, .int p1)]) 9 hX rfl dX12_goesOn_9 (by decide) rfl ?_
  refine w_aload_n 1 10 hX rfl rfl dX12_goesOn_10 ?_
  refine w_iload_n 2 11 hX rfl rfl dX12_goesOn_11 ?_
  obtain ⟨x2, u3, gx2, h⟩ := o_bnd2 h
  refine w_invVi (av := [.int p1]) (st := []) 12 hX CI_12 s_146 rfl mv_yX12_stepOf mi_yX12_stepOf ml_X12_340 (CX12_stepOf_146 p1 u gx2) rfl (by decide) (Nat.le_of_ble_eq_true rfl) (Nat.le_refl _) (Nat.le_refl _) dX12_goesOn_12 ?_
  refine w_istore_n (lv' := [(3, .int x2), (2, .int x1), (0, .ref 146), (1, .int p1)]) 15 hX rfl dX12_goesOn_15 (by decide) rfl ?_
  refine w_iconst 1 16 hX ic_1 dX12_goesOn_16 ?_
  refine w_istore (lv' := [(4, .int 1), (3, .int x2), (2, .int x1), (0, .ref 146), (1, .int p1)]) 17 hX dX12_goesOn_17 (by decide) rfl ?_
  exact w_sub [3, 4, 2, 1, 0] rfl (lX12_goesOn_146_19 hX hR FU p1 x1 x2 1 u3 h))
def FX12_breathes_146 (p1 p2 : Int32) (u : Mem) : Option Mem :=
  (rdA u 147 1786 (4 + p1)).bind fun x1 => (FX12_lesser 99 (x1 + p2)).bind fun x2 => (wrA u 147 1786 (4 + p1) x2).bind fun u3 => some u3
theorem CX12_breathes_146 {G : Gt} (p1 p2 : Int32) (u : Mem) {u' : Mem} (h : FX12_breathes_146 p1 p2 u = some u') : CT G yX12_breathes cX12_breathes 3 none 2 [.ref 146, .int p1, .int p2] SH RHO u (none, SH, RHO, u') :=
  ct_of (by decide) rfl (Nat.le_of_ble_eq_true rfl) (Nat.le_refl _) (Nat.le_refl _) (fun X hX hR => by
  unfold FX12_breathes_146 at h
  refine w_aload_n 0 0 hX rfl rfl dX12_breathes_0 ?_
  refine w_getR 1 hX CI_12 s_146 rfl r_146_0 fl_X12_7 rfl dX12_breathes_1 ?_
  refine w_iconst 4 4 hX ic_4 dX12_breathes_4 ?_
  refine w_iload_n 1 5 hX rfl rfl dX12_breathes_5 ?_
  refine w_iadd 6 hX dX12_breathes_6 ?_
  refine w_bipush 99 7 hX ib_99 dX12_breathes_7 ?_
  refine w_aload_n 0 9 hX rfl rfl dX12_breathes_9 ?_
  refine w_getR 10 hX CI_12 s_146 rfl r_146_0 fl_X12_7 rfl dX12_breathes_10 ?_
  refine w_iconst 4 13 hX ic_4 dX12_breathes_13 ?_
  refine w_iload_n 1 14 hX rfl rfl dX12_breathes_14 ?_
  refine w_iadd 15 hX dX12_breathes_15 ?_
  obtain ⟨x1, gx1, h⟩ := o_bind h
  refine w_iald 16 hX s_147 gx1 dX12_breathes_16 ?_
  refine w_iload_n 2 17 hX rfl rfl dX12_breathes_17 ?_
  refine w_iadd 18 hX dX12_breathes_18 ?_
  obtain ⟨x2, gx2, h⟩ := o_bind h
  refine w_invSi (av := [.int 99, .int (x1 + p2)]) (st := [.int (4 + p1), .ref 147]) 19 hX ms_yX12_lesser mi_yX12_lesser ml_X12_297 (CX12_lesser 99 (x1 + p2) u gx2) rfl (by decide) (Nat.le_of_ble_eq_true rfl) (Nat.le_refl _) (Nat.le_refl _) dX12_breathes_19 ?_
  obtain ⟨u3, gu3, h⟩ := o_bind h
  refine w_iast 22 hX s_147 gu3 dX12_breathes_22 ?_
  exact w_vret 23 hX hR dX12_breathes_23 (by cases h; rfl))
def FX12_marches_146 (p1 : Int32) (u : Mem) : Option Mem :=
  (rdA u 147 1786 (40 + p1)).bind fun x1 => (if x1 = 1 then ((rdA u 147 1786 (90 + p1)).bind fun x3 => (FX12_rests_146 x3 u).bind fun x4 => (if x4 = 0 then (bnd2 (FX12_napOf_146 p1 u) fun x6 u7 => (if x6 ≤ 0 then ((FX12_goesOn_146 p1 u7).bind fun u10 => some u10) else ((FX12_breathes_146 p1 x6 u7).bind fun u12 => some u12))) else ((FX12_breathes_146 p1 10 u).bind fun u14 => some u14))) else (some u))
theorem CX12_marches_146 {G : Gt} (p1 : Int32) (u : Mem) {u' : Mem} (h : FX12_marches_146 p1 u = some u') : CT G yX12_marches cX12_marches 3 none 7 [.ref 146, .int p1] SH RHO u (none, SH, RHO, u') :=
  ct_of (by decide) rfl (Nat.le_of_ble_eq_true rfl) (Nat.le_refl _) (Nat.le_refl _) (fun X hX hR => by
  unfold FX12_marches_146 at h
  refine w_aload_n 0 0 hX rfl rfl dX12_marches_0 ?_
  refine w_getR 1 hX CI_12 s_146 rfl r_146_0 fl_X12_7 rfl dX12_marches_1 ?_
  refine w_bipush 40 4 hX ib_40 dX12_marches_4 ?_
  refine w_iload_n 1 6 hX rfl rfl dX12_marches_6 ?_
  refine w_iadd 7 hX dX12_marches_7 ?_
  obtain ⟨x1, gx1, h⟩ := o_bind h
  refine w_iald 8 hX s_147 gx1 dX12_marches_8 ?_
  refine w_iconst 1 9 hX ic_1 dX12_marches_9 ?_
  refine w_icmp_eq (tgt := 14) 10 hX dX12_marches_10 (by decide) (fun c2 => ?_) (fun c2 => ?_)
  · have h := it h c2
    refine w_aload_n 0 14 hX rfl rfl dX12_marches_14 ?_
    refine w_aload_n 0 15 hX rfl rfl dX12_marches_15 ?_
    refine w_getR 16 hX CI_12 s_146 rfl r_146_0 fl_X12_7 rfl dX12_marches_16 ?_
    refine w_bipush 90 19 hX ib_90 dX12_marches_19 ?_
    refine w_iload_n 1 21 hX rfl rfl dX12_marches_21 ?_
    refine w_iadd 22 hX dX12_marches_22 ?_
    obtain ⟨x3, gx3, h⟩ := o_bind h
    refine w_iald 23 hX s_147 gx3 dX12_marches_23 ?_
    obtain ⟨x4, gx4, h⟩ := o_bind h
    refine w_invVi (av := [.int x3]) (st := []) 24 hX CI_12 s_146 rfl mv_yX12_rests mi_yX12_rests ml_X12_346 (CX12_rests_146 x3 u gx4) rfl (by decide) (Nat.le_of_ble_eq_true rfl) (Nat.le_refl _) (Nat.le_refl _) dX12_marches_24 ?_
    refine w_if_eq (tgt := 38) 27 hX dX12_marches_27 (by decide) (fun c5 => ?_) (fun c5 => ?_)
    · have h := it h c5
      refine w_aload_n 0 38 hX rfl rfl dX12_marches_38 ?_
      refine w_iload_n 1 39 hX rfl rfl dX12_marches_39 ?_
      obtain ⟨x6, u7, gx6, h⟩ := o_bnd2 h
      refine w_invVi (av := [.int p1]) (st := []) 40 hX CI_12 s_146 rfl mv_yX12_napOf mi_yX12_napOf ml_X12_352 (CX12_napOf_146 p1 u gx6) rfl (by decide) (Nat.le_of_ble_eq_true rfl) (Nat.le_refl _) (Nat.le_refl _) dX12_marches_40 ?_
      refine w_istore_n (lv' := [(2, .int x6), (0, .ref 146), (1, .int p1)]) 43 hX rfl dX12_marches_43 (by decide) rfl ?_
      refine w_iload_n 0 44 hX rfl rfl dX12_marches_44 ?_
      refine w_if_le (tgt := 57) 45 hX dX12_marches_45 (by decide) (fun c8 => ?_) (fun c8 => ?_)
      · have h := it h c8
        refine w_aload_n 1 57 hX rfl rfl dX12_marches_57 ?_
        refine w_iload_n 2 58 hX rfl rfl dX12_marches_58 ?_
        obtain ⟨u10, gu10, h⟩ := o_bind h
        refine w_invVv (av := [.int p1]) (st := []) 59 hX CI_12 s_146 rfl mv_yX12_goesOn mi_yX12_goesOn ml_X12_355 (CX12_goesOn_146 p1 u7 gu10) rfl (by decide) (Nat.le_of_ble_eq_true rfl) (Nat.le_refl _) (Nat.le_refl _) dX12_marches_59 ?_
        exact w_vret 62 hX hR dX12_marches_62 (by cases h; rfl)
      · have h := ie h c8
        refine w_aload_n 1 48 hX rfl rfl dX12_marches_48 ?_
        refine w_iload_n 2 49 hX rfl rfl dX12_marches_49 ?_
        refine w_iload_n 0 50 hX rfl rfl dX12_marches_50 ?_
        obtain ⟨u12, gu12, h⟩ := o_bind h
        refine w_invVv (av := [.int p1, .int x6]) (st := []) 51 hX CI_12 s_146 rfl mv_yX12_breathes mi_yX12_breathes ml_X12_349 (CX12_breathes_146 p1 x6 u7 gu12) rfl (by decide) (Nat.le_of_ble_eq_true rfl) (Nat.le_refl _) (Nat.le_refl _) dX12_marches_51 ?_
        refine w_goto (tgt := 62) 54 hX (by decide) dX12_marches_54 ?_
        exact w_vret 62 hX hR dX12_marches_62 (by cases h; rfl)
    · have h := ie h c5
      refine w_aload_n 0 30 hX rfl rfl dX12_marches_30 ?_
      refine w_iload_n 1 31 hX rfl rfl dX12_marches_31 ?_
      refine w_bipush 10 32 hX ib_10 dX12_marches_32 ?_
      obtain ⟨u14, gu14, h⟩ := o_bind h
      refine w_invVv (av := [.int p1, .int 10]) (st := []) 34 hX CI_12 s_146 rfl mv_yX12_breathes mi_yX12_breathes ml_X12_349 (CX12_breathes_146 p1 10 u gu14) rfl (by decide) (Nat.le_of_ble_eq_true rfl) (Nat.le_refl _) (Nat.le_refl _) dX12_marches_34 ?_
      exact w_vret 37 hX hR dX12_marches_37 (by cases h; rfl)
  · have h := ie h c2
    exact w_vret 13 hX hR dX12_marches_13 (by cases h; rfl))
def FX12_isThrough_146 (p1 : Int32) (u : Mem) : Option Int32 :=
  (FX12_endOf (1 - p1)).bind fun x1 => (FX12_isHeld_146 p1 x1 u).bind fun x2 => (if x2 = 0 then (some 0) else ((FX12_endOf (1 - p1)).bind fun x4 => (FX12_isHeld_146 (1 - p1) x4 u).bind fun x5 => (if x5 = 0 then (some 1) else (some 0))))
theorem CX12_isThrough_146 {G : Gt} (p1 : Int32) (u : Mem) {v : Int32} (h : FX12_isThrough_146 p1 u = some v) : CT G yX12_isThrough cX12_isThrough 2 (some .boolean) 3 [.ref 146, .int p1] SH RHO u (some (.int v), SH, RHO, u) :=
  ct_of (by decide) rfl (Nat.le_of_ble_eq_true rfl) (Nat.le_refl _) (Nat.le_refl _) (fun X hX hR => by
  unfold FX12_isThrough_146 at h
  refine w_aload_n 0 0 hX rfl rfl dX12_isThrough_0 ?_
  refine w_iload_n 1 1 hX rfl rfl dX12_isThrough_1 ?_
  refine w_iconst 1 2 hX ic_1 dX12_isThrough_2 ?_
  refine w_iload_n 1 3 hX rfl rfl dX12_isThrough_3 ?_
  refine w_isub 4 hX dX12_isThrough_4 ?_
  obtain ⟨x1, gx1, h⟩ := o_bind h
  refine w_invSi (av := [.int (1 - p1)]) (st := [.int p1, .ref 146]) 5 hX ms_yX12_endOf mi_yX12_endOf ml_X12_323 (CX12_endOf (1 - p1) u gx1) rfl (by decide) (Nat.le_of_ble_eq_true rfl) (Nat.le_refl _) (Nat.le_refl _) dX12_isThrough_5 ?_
  obtain ⟨x2, gx2, h⟩ := o_bind h
  refine w_invVi (av := [.int p1, .int x1]) (st := []) 8 hX CI_12 s_146 rfl mv_yX12_isHeld mi_yX12_isHeld ml_X12_343 (CX12_isHeld_146 p1 x1 u gx2) rfl (by decide) (Nat.le_of_ble_eq_true rfl) (Nat.le_refl _) (Nat.le_refl _) dX12_isThrough_8 ?_
  refine w_if_eq (tgt := 34) 11 hX dX12_isThrough_11 (by decide) (fun c3 => ?_) (fun c3 => ?_)
  · have h := it h c3
    refine w_iconst 0 34 hX ic_0 dX12_isThrough_34 ?_
    exact w_zret 35 hX hR (by decide) dX12_isThrough_35 (by cases h; rfl)
  · have h := ie h c3
    refine w_aload_n 0 14 hX rfl rfl dX12_isThrough_14 ?_
    refine w_iconst 1 15 hX ic_1 dX12_isThrough_15 ?_
    refine w_iload_n 1 16 hX rfl rfl dX12_isThrough_16 ?_
    refine w_isub 17 hX dX12_isThrough_17 ?_
    refine w_iconst 1 18 hX ic_1 dX12_isThrough_18 ?_
    refine w_iload_n 1 19 hX rfl rfl dX12_isThrough_19 ?_
    refine w_isub 20 hX dX12_isThrough_20 ?_
    obtain ⟨x4, gx4, h⟩ := o_bind h
    refine w_invSi (av := [.int (1 - p1)]) (st := [.int (1 - p1), .ref 146]) 21 hX ms_yX12_endOf mi_yX12_endOf ml_X12_323 (CX12_endOf (1 - p1) u gx4) rfl (by decide) (Nat.le_of_ble_eq_true rfl) (Nat.le_refl _) (Nat.le_refl _) dX12_isThrough_21 ?_
    obtain ⟨x5, gx5, h⟩ := o_bind h
    refine w_invVi (av := [.int (1 - p1), .int x4]) (st := []) 24 hX CI_12 s_146 rfl mv_yX12_isHeld mi_yX12_isHeld ml_X12_343 (CX12_isHeld_146 (1 - p1) x4 u gx5) rfl (by decide) (Nat.le_of_ble_eq_true rfl) (Nat.le_refl _) (Nat.le_refl _) dX12_isThrough_24 ?_
    refine w_if_ne (tgt := 34) 27 hX dX12_isThrough_27 (by decide) (fun c6 => ?_) (fun c6 => ?_)
    · have h := ie h c6
      refine w_iconst 0 34 hX ic_0 dX12_isThrough_34 ?_
      exact w_zret 35 hX hR (by decide) dX12_isThrough_35 (by cases h; rfl)
    · have h := it h c6
      refine w_iconst 1 30 hX ic_1 dX12_isThrough_30 ?_
      refine w_goto (tgt := 35) 31 hX (by decide) dX12_isThrough_31 ?_
      exact w_zret 35 hX hR (by decide) dX12_isThrough_35 (by cases h; rfl))
def FX12_breathAt_146_b56 (k5 : Int32 → Int32 → Int32 → Int32 → Mem → Option Int32) (l1 l2 l4 t0 t1 : Int32) (u : Mem) : Option Int32 :=
  k5 l1 l2 (t0 + t1) (l4 + 1) u
theorem bX12_breathAt_146_56 {G : Gt} {X : Xt} {v : Int32} {u : Mem} (hX : CxOk G X cX12_breathAt 5 RX12 (some (.int v), SH, RHO, u) 2) (hR : CxRet G X (some .int) (some (.int v), SH, RHO, u)) {k5 : Int32 → Int32 → Int32 → Int32 → Mem → Option Int32} (hk5 : ∀ (l1 l2 l3 l4 : Int32), k5 l1 l2 l3 l4 u = some v → WM G X 5 [(0, .ref 146), (1, .int l1), (2, .int l2), (3, .int l3), (4, .int l4)] [] SH RHO u) (l1 l2 l4 t0 t1 : Int32) (h : FX12_breathAt_146_b56 k5 l1 l2 l4 t0 t1 u = some v) : WM G X 56 [(0, .ref 146), (1, .int l1), (2, .int l2), (4, .int l4)] [.int t1, .int t0] SH RHO u := by
  unfold FX12_breathAt_146_b56 at h
  refine w_iadd 56 hX dX12_breathAt_56 ?_
  refine w_istore_n (lv' := [(3, .int (t0 + t1)), (0, .ref 146), (1, .int l1), (2, .int l2), (4, .int l4)]) 57 hX rfl dX12_breathAt_57 (by decide) rfl ?_
  refine w_iinc (lv' := [(4, .int (l4 + 1)), (3, .int (t0 + t1)), (0, .ref 146), (1, .int l1), (2, .int l2)]) 58 4 hX dX12_breathAt_58 rfl (inc_1 _) (by decide) rfl ?_
  refine w_goto (tgt := 5) 61 hX (by decide) dX12_breathAt_61 ?_
  exact w_sub [2, 3, 4, 1, 0] rfl (hk5 l1 l2 (t0 + t1) (l4 + 1) h)
def FX12_breathAt_146_b5 (k5 : Int32 → Int32 → Int32 → Int32 → Mem → Option Int32) (l1 l2 l3 l4 : Int32) (u : Mem) : Option Int32 :=
  (if (u 147 78) ≤ l4 then (some l3) else ((FX12_isOf_146 l4 l1 1 u).bind fun x2 => (if x2 = 0 then (FX12_breathAt_146_b56 k5 l1 l2 l4 l3 0 u) else ((rdA u 147 1786 (52 + l4)).bind fun x4 => (if x4 = l2 then ((rdA u 147 1786 (4 + l4)).bind fun x6 => FX12_breathAt_146_b56 k5 l1 l2 l4 l3 x6 u) else (FX12_breathAt_146_b56 k5 l1 l2 l4 l3 0 u))))))
theorem bX12_breathAt_146_5 {G : Gt} {X : Xt} {v : Int32} {u : Mem} (hX : CxOk G X cX12_breathAt 5 RX12 (some (.int v), SH, RHO, u) 2) (hR : CxRet G X (some .int) (some (.int v), SH, RHO, u)) {k5 : Int32 → Int32 → Int32 → Int32 → Mem → Option Int32} (hk5 : ∀ (l1 l2 l3 l4 : Int32), k5 l1 l2 l3 l4 u = some v → WM G X 5 [(0, .ref 146), (1, .int l1), (2, .int l2), (3, .int l3), (4, .int l4)] [] SH RHO u) (l1 l2 l3 l4 : Int32) (h : FX12_breathAt_146_b5 k5 l1 l2 l3 l4 u = some v) : WM G X 5 [(0, .ref 146), (1, .int l1), (2, .int l2), (3, .int l3), (4, .int l4)] [] SH RHO u := by
  unfold FX12_breathAt_146_b5 at h
  refine w_iload 4 5 hX rfl dX12_breathAt_5 ?_
  refine w_aload_n 0 7 hX rfl rfl dX12_breathAt_7 ?_
  refine w_getR 8 hX CI_12 s_146 rfl r_146_0 fl_X12_7 rfl dX12_breathAt_8 ?_
  refine w_bipush 78 11 hX ib_78 dX12_breathAt_11 ?_
  refine w_iald 13 hX s_147 (rdK 78 78 n_78 (by decide) (by decide)) dX12_breathAt_13 ?_
  refine w_icmp_ge (tgt := 64) 14 hX dX12_breathAt_14 (by decide) (fun c1 => ?_) (fun c1 => ?_)
  · have h := it h c1
    refine w_iload_n 3 64 hX rfl rfl dX12_breathAt_64 ?_
    exact w_iret 65 hX hR dX12_breathAt_65 (by cases h; rfl)
  · have h := ie h c1
    refine w_iload_n 3 17 hX rfl rfl dX12_breathAt_17 ?_
    refine w_aload_n 0 18 hX rfl rfl dX12_breathAt_18 ?_
    refine w_iload 4 19 hX rfl dX12_breathAt_19 ?_
    refine w_iload_n 1 21 hX rfl rfl dX12_breathAt_21 ?_
    refine w_iconst 1 22 hX ic_1 dX12_breathAt_22 ?_
    obtain ⟨x2, gx2, h⟩ := o_bind h
    refine w_invVi (av := [.int l4, .int l1, .int 1]) (st := [.int l3]) 23 hX CI_12 s_146 rfl mv_yX12_isOf mi_yX12_isOf ml_X12_320 (CX12_isOf_146 l4 l1 1 u gx2) rfl (by decide) (Nat.le_of_ble_eq_true rfl) (Nat.le_refl _) (Nat.le_refl _) dX12_breathAt_23 ?_
    refine w_if_eq (tgt := 55) 26 hX dX12_breathAt_26 (by decide) (fun c3 => ?_) (fun c3 => ?_)
    · have h := it h c3
      refine w_iconst 0 55 hX ic_0 dX12_breathAt_55 ?_
      exact w_sub [0, 1, 2, 4] rfl (bX12_breathAt_146_56 hX hR hk5 l1 l2 l4 l3 0 h)
    · have h := ie h c3
      refine w_aload_n 0 29 hX rfl rfl dX12_breathAt_29 ?_
      refine w_getR 30 hX CI_12 s_146 rfl r_146_0 fl_X12_7 rfl dX12_breathAt_30 ?_
      refine w_bipush 52 33 hX ib_52 dX12_breathAt_33 ?_
      refine w_iload 4 35 hX rfl dX12_breathAt_35 ?_
      refine w_iadd 37 hX dX12_breathAt_37 ?_
      obtain ⟨x4, gx4, h⟩ := o_bind h
      refine w_iald 38 hX s_147 gx4 dX12_breathAt_38 ?_
      refine w_iload_n 2 39 hX rfl rfl dX12_breathAt_39 ?_
      refine w_icmp_ne (tgt := 55) 40 hX dX12_breathAt_40 (by decide) (fun c5 => ?_) (fun c5 => ?_)
      · have h := ie h c5
        refine w_iconst 0 55 hX ic_0 dX12_breathAt_55 ?_
        exact w_sub [0, 1, 2, 4] rfl (bX12_breathAt_146_56 hX hR hk5 l1 l2 l4 l3 0 h)
      · have h := it h c5
        refine w_aload_n 0 43 hX rfl rfl dX12_breathAt_43 ?_
        refine w_getR 44 hX CI_12 s_146 rfl r_146_0 fl_X12_7 rfl dX12_breathAt_44 ?_
        refine w_iconst 4 47 hX ic_4 dX12_breathAt_47 ?_
        refine w_iload 4 48 hX rfl dX12_breathAt_48 ?_
        refine w_iadd 50 hX dX12_breathAt_50 ?_
        obtain ⟨x6, gx6, h⟩ := o_bind h
        refine w_iald 51 hX s_147 gx6 dX12_breathAt_51 ?_
        refine w_goto (tgt := 56) 52 hX (by decide) dX12_breathAt_52 ?_
        exact w_sub [0, 1, 2, 4] rfl (bX12_breathAt_146_56 hX hR hk5 l1 l2 l4 l3 x6 h)
def FX12_breathAt_146_L5 : Nat → Int32 → Int32 → Int32 → Int32 → Mem → Option Int32
  | 0, _, _, _, _, _ => none
  | n + 1, l1, l2, l3, l4, u => FX12_breathAt_146_b5 (FX12_breathAt_146_L5 n) l1 l2 l3 l4 u
theorem lX12_breathAt_146_5 {G : Gt} {X : Xt} {v : Int32} {u : Mem} (hX : CxOk G X cX12_breathAt 5 RX12 (some (.int v), SH, RHO, u) 2) (hR : CxRet G X (some .int) (some (.int v), SH, RHO, u)) : ∀ (n : Nat) (l1 l2 l3 l4 : Int32), FX12_breathAt_146_L5 n l1 l2 l3 l4 u = some v → WM G X 5 [(0, .ref 146), (1, .int l1), (2, .int l2), (3, .int l3), (4, .int l4)] [] SH RHO u := by
  intro n
  induction n with
  | zero =>
    intro l1 l2 l3 l4 h
    exact nn_ h
  | succ n ih =>
    intro l1 l2 l3 l4 h
    exact bX12_breathAt_146_5 hX hR ih l1 l2 l3 l4 h
def FX12_breathAt_146 (p1 p2 : Int32) (u : Mem) : Option Int32 :=
  FX12_breathAt_146_L5 FU p1 p2 0 0 u
theorem CX12_breathAt_146 {G : Gt} (p1 p2 : Int32) (u : Mem) {v : Int32} (h : FX12_breathAt_146 p1 p2 u = some v) : CT G yX12_breathAt cX12_breathAt 5 (some .int) 2 [.ref 146, .int p1, .int p2] SH RHO u (some (.int v), SH, RHO, u) :=
  ct_of (by decide) rfl (Nat.le_of_ble_eq_true rfl) (Nat.le_refl _) (Nat.le_refl _) (fun X hX hR => by
  unfold FX12_breathAt_146 at h
  refine w_iconst 0 0 hX ic_0 dX12_breathAt_0 ?_
  refine w_istore_n (lv' := [(3, .int 0), (0, .ref 146), (1, .int p1), (2, .int p2)]) 1 hX rfl dX12_breathAt_1 (by decide) rfl ?_
  refine w_iconst 0 2 hX ic_0 dX12_breathAt_2 ?_
  refine w_istore (lv' := [(4, .int 0), (3, .int 0), (0, .ref 146), (1, .int p1), (2, .int p2)]) 3 hX dX12_breathAt_3 (by decide) rfl ?_
  exact w_sub [2, 3, 4, 1, 0] rfl (lX12_breathAt_146_5 hX hR FU p1 p2 0 0 h))
def FX12_youngestAt_146_b72 (k5 : Int32 → Int32 → Int32 → Int32 → Mem → Option Int32) (l1 l2 l3 l4 : Int32) (u : Mem) : Option Int32 :=
  k5 l1 l2 l3 (l4 + 1) u
theorem bX12_youngestAt_146_72 {G : Gt} {X : Xt} {v : Int32} {u : Mem} (hX : CxOk G X cX12_youngestAt 5 RX12 (some (.int v), SH, RHO, u) 2) (hR : CxRet G X (some .int) (some (.int v), SH, RHO, u)) {k5 : Int32 → Int32 → Int32 → Int32 → Mem → Option Int32} (hk5 : ∀ (l1 l2 l3 l4 : Int32), k5 l1 l2 l3 l4 u = some v → WM G X 5 [(0, .ref 146), (1, .int l1), (2, .int l2), (3, .int l3), (4, .int l4)] [] SH RHO u) (l1 l2 l3 l4 : Int32) (h : FX12_youngestAt_146_b72 k5 l1 l2 l3 l4 u = some v) : WM G X 72 [(0, .ref 146), (1, .int l1), (2, .int l2), (3, .int l3), (4, .int l4)] [] SH RHO u := by
  unfold FX12_youngestAt_146_b72 at h
  refine w_iinc (lv' := [(4, .int (l4 + 1)), (0, .ref 146), (1, .int l1), (2, .int l2), (3, .int l3)]) 72 4 hX dX12_youngestAt_72 rfl (inc_1 _) (by decide) rfl ?_
  refine w_goto (tgt := 5) 75 hX (by decide) dX12_youngestAt_75 ?_
  exact w_sub [1, 2, 3, 4, 0] rfl (hk5 l1 l2 l3 (l4 + 1) h)
def FX12_youngestAt_146_b69 (k5 : Int32 → Int32 → Int32 → Int32 → Mem → Option Int32) (l1 l2 l4 : Int32) (u : Mem) : Option Int32 :=
  FX12_youngestAt_146_b72 k5 l1 l2 l4 l4 u
theorem bX12_youngestAt_146_69 {G : Gt} {X : Xt} {v : Int32} {u : Mem} (hX : CxOk G X cX12_youngestAt 5 RX12 (some (.int v), SH, RHO, u) 2) (hR : CxRet G X (some .int) (some (.int v), SH, RHO, u)) {k5 : Int32 → Int32 → Int32 → Int32 → Mem → Option Int32} (hk5 : ∀ (l1 l2 l3 l4 : Int32), k5 l1 l2 l3 l4 u = some v → WM G X 5 [(0, .ref 146), (1, .int l1), (2, .int l2), (3, .int l3), (4, .int l4)] [] SH RHO u) (l1 l2 l4 : Int32) (h : FX12_youngestAt_146_b69 k5 l1 l2 l4 u = some v) : WM G X 69 [(0, .ref 146), (1, .int l1), (2, .int l2), (4, .int l4)] [] SH RHO u := by
  unfold FX12_youngestAt_146_b69 at h
  refine w_iload 3 69 hX rfl dX12_youngestAt_69 ?_
  refine w_istore_n (lv' := [(3, .int l4), (0, .ref 146), (1, .int l1), (2, .int l2), (4, .int l4)]) 71 hX rfl dX12_youngestAt_71 (by decide) rfl ?_
  exact w_sub [1, 2, 3, 0, 4] rfl (bX12_youngestAt_146_72 hX hR hk5 l1 l2 l4 l4 h)
def FX12_youngestAt_146_b5 (k5 : Int32 → Int32 → Int32 → Int32 → Mem → Option Int32) (l1 l2 l3 l4 : Int32) (u : Mem) : Option Int32 :=
  (if (u 147 78) ≤ l4 then (some l3) else ((FX12_isOf_146 l4 l1 1 u).bind fun x2 => (if x2 = 0 then (FX12_youngestAt_146_b72 k5 l1 l2 l3 l4 u) else ((rdA u 147 1786 (52 + l4)).bind fun x4 => (if x4 = l2 then ((if l3 = (-1) then (FX12_youngestAt_146_b69 k5 l1 l2 l4 u) else ((rdA u 147 1786 (102 + l4)).bind fun x7 => (rdA u 147 1786 (102 + l3)).bind fun x8 => (if x8 ≤ x7 then (FX12_youngestAt_146_b72 k5 l1 l2 l3 l4 u) else (FX12_youngestAt_146_b69 k5 l1 l2 l4 u))))) else (FX12_youngestAt_146_b72 k5 l1 l2 l3 l4 u))))))
theorem bX12_youngestAt_146_5 {G : Gt} {X : Xt} {v : Int32} {u : Mem} (hX : CxOk G X cX12_youngestAt 5 RX12 (some (.int v), SH, RHO, u) 2) (hR : CxRet G X (some .int) (some (.int v), SH, RHO, u)) {k5 : Int32 → Int32 → Int32 → Int32 → Mem → Option Int32} (hk5 : ∀ (l1 l2 l3 l4 : Int32), k5 l1 l2 l3 l4 u = some v → WM G X 5 [(0, .ref 146), (1, .int l1), (2, .int l2), (3, .int l3), (4, .int l4)] [] SH RHO u) (l1 l2 l3 l4 : Int32) (h : FX12_youngestAt_146_b5 k5 l1 l2 l3 l4 u = some v) : WM G X 5 [(0, .ref 146), (1, .int l1), (2, .int l2), (3, .int l3), (4, .int l4)] [] SH RHO u := by
  unfold FX12_youngestAt_146_b5 at h
  refine w_iload 4 5 hX rfl dX12_youngestAt_5 ?_
  refine w_aload_n 0 7 hX rfl rfl dX12_youngestAt_7 ?_
  refine w_getR 8 hX CI_12 s_146 rfl r_146_0 fl_X12_7 rfl dX12_youngestAt_8 ?_
  refine w_bipush 78 11 hX ib_78 dX12_youngestAt_11 ?_
  refine w_iald 13 hX s_147 (rdK 78 78 n_78 (by decide) (by decide)) dX12_youngestAt_13 ?_
  refine w_icmp_ge (tgt := 78) 14 hX dX12_youngestAt_14 (by decide) (fun c1 => ?_) (fun c1 => ?_)
  · have h := it h c1
    refine w_iload_n 3 78 hX rfl rfl dX12_youngestAt_78 ?_
    exact w_iret 79 hX hR dX12_youngestAt_79 (by cases h; rfl)
  · have h := ie h c1
    refine w_aload_n 0 17 hX rfl rfl dX12_youngestAt_17 ?_
    refine w_iload 4 18 hX rfl dX12_youngestAt_18 ?_
    refine w_iload_n 1 20 hX rfl rfl dX12_youngestAt_20 ?_
    refine w_iconst 1 21 hX ic_1 dX12_youngestAt_21 ?_
    obtain ⟨x2, gx2, h⟩ := o_bind h
    refine w_invVi (av := [.int l4, .int l1, .int 1]) (st := []) 22 hX CI_12 s_146 rfl mv_yX12_isOf mi_yX12_isOf ml_X12_320 (CX12_isOf_146 l4 l1 1 u gx2) rfl (by decide) (Nat.le_of_ble_eq_true rfl) (Nat.le_refl _) (Nat.le_refl _) dX12_youngestAt_22 ?_
    refine w_if_eq (tgt := 72) 25 hX dX12_youngestAt_25 (by decide) (fun c3 => ?_) (fun c3 => ?_)
    · have h := it h c3
      exact bX12_youngestAt_146_72 hX hR hk5 l1 l2 l3 l4 h
    · have h := ie h c3
      refine w_aload_n 0 28 hX rfl rfl dX12_youngestAt_28 ?_
      refine w_getR 29 hX CI_12 s_146 rfl r_146_0 fl_X12_7 rfl dX12_youngestAt_29 ?_
      refine w_bipush 52 32 hX ib_52 dX12_youngestAt_32 ?_
      refine w_iload 4 34 hX rfl dX12_youngestAt_34 ?_
      refine w_iadd 36 hX dX12_youngestAt_36 ?_
      obtain ⟨x4, gx4, h⟩ := o_bind h
      refine w_iald 37 hX s_147 gx4 dX12_youngestAt_37 ?_
      refine w_iload_n 2 38 hX rfl rfl dX12_youngestAt_38 ?_
      refine w_icmp_ne (tgt := 72) 39 hX dX12_youngestAt_39 (by decide) (fun c5 => ?_) (fun c5 => ?_)
      · have h := ie h c5
        exact bX12_youngestAt_146_72 hX hR hk5 l1 l2 l3 l4 h
      · have h := it h c5
        refine w_iload_n 3 42 hX rfl rfl dX12_youngestAt_42 ?_
        refine w_iconst (-1) 43 hX ic_m1 dX12_youngestAt_43 ?_
        refine w_icmp_eq (tgt := 69) 44 hX dX12_youngestAt_44 (by decide) (fun c6 => ?_) (fun c6 => ?_)
        · have h := it h c6
          exact w_sub [0, 1, 2, 4] rfl (bX12_youngestAt_146_69 hX hR hk5 l1 l2 l4 h)
        · have h := ie h c6
          refine w_aload_n 0 47 hX rfl rfl dX12_youngestAt_47 ?_
          refine w_getR 48 hX CI_12 s_146 rfl r_146_0 fl_X12_7 rfl dX12_youngestAt_48 ?_
          refine w_bipush 102 51 hX ib_102 dX12_youngestAt_51 ?_
          refine w_iload 4 53 hX rfl dX12_youngestAt_53 ?_
          refine w_iadd 55 hX dX12_youngestAt_55 ?_
          obtain ⟨x7, gx7, h⟩ := o_bind h
          refine w_iald 56 hX s_147 gx7 dX12_youngestAt_56 ?_
          refine w_aload_n 0 57 hX rfl rfl dX12_youngestAt_57 ?_
          refine w_getR 58 hX CI_12 s_146 rfl r_146_0 fl_X12_7 rfl dX12_youngestAt_58 ?_
          refine w_bipush 102 61 hX ib_102 dX12_youngestAt_61 ?_
          refine w_iload_n 3 63 hX rfl rfl dX12_youngestAt_63 ?_
          refine w_iadd 64 hX dX12_youngestAt_64 ?_
          obtain ⟨x8, gx8, h⟩ := o_bind h
          refine w_iald 65 hX s_147 gx8 dX12_youngestAt_65 ?_
          refine w_icmp_ge (tgt := 72) 66 hX dX12_youngestAt_66 (by decide) (fun c9 => ?_) (fun c9 => ?_)
          · have h := it h c9
            exact bX12_youngestAt_146_72 hX hR hk5 l1 l2 l3 l4 h
          · have h := ie h c9
            exact w_sub [0, 1, 2, 4] rfl (bX12_youngestAt_146_69 hX hR hk5 l1 l2 l4 h)
def FX12_youngestAt_146_L5 : Nat → Int32 → Int32 → Int32 → Int32 → Mem → Option Int32
  | 0, _, _, _, _, _ => none
  | n + 1, l1, l2, l3, l4, u => FX12_youngestAt_146_b5 (FX12_youngestAt_146_L5 n) l1 l2 l3 l4 u
theorem lX12_youngestAt_146_5 {G : Gt} {X : Xt} {v : Int32} {u : Mem} (hX : CxOk G X cX12_youngestAt 5 RX12 (some (.int v), SH, RHO, u) 2) (hR : CxRet G X (some .int) (some (.int v), SH, RHO, u)) : ∀ (n : Nat) (l1 l2 l3 l4 : Int32), FX12_youngestAt_146_L5 n l1 l2 l3 l4 u = some v → WM G X 5 [(0, .ref 146), (1, .int l1), (2, .int l2), (3, .int l3), (4, .int l4)] [] SH RHO u := by
  intro n
  induction n with
  | zero =>
    intro l1 l2 l3 l4 h
    exact nn_ h
  | succ n ih =>
    intro l1 l2 l3 l4 h
    exact bX12_youngestAt_146_5 hX hR ih l1 l2 l3 l4 h
def FX12_youngestAt_146 (p1 p2 : Int32) (u : Mem) : Option Int32 :=
  FX12_youngestAt_146_L5 FU p1 p2 (-1) 0 u
theorem CX12_youngestAt_146 {G : Gt} (p1 p2 : Int32) (u : Mem) {v : Int32} (h : FX12_youngestAt_146 p1 p2 u = some v) : CT G yX12_youngestAt cX12_youngestAt 5 (some .int) 2 [.ref 146, .int p1, .int p2] SH RHO u (some (.int v), SH, RHO, u) :=
  ct_of (by decide) rfl (Nat.le_of_ble_eq_true rfl) (Nat.le_refl _) (Nat.le_refl _) (fun X hX hR => by
  unfold FX12_youngestAt_146 at h
  refine w_iconst (-1) 0 hX ic_m1 dX12_youngestAt_0 ?_
  refine w_istore_n (lv' := [(3, .int (-1)), (0, .ref 146), (1, .int p1), (2, .int p2)]) 1 hX rfl dX12_youngestAt_1 (by decide) rfl ?_
  refine w_iconst 0 2 hX ic_0 dX12_youngestAt_2 ?_
  refine w_istore (lv' := [(4, .int 0), (3, .int (-1)), (0, .ref 146), (1, .int p1), (2, .int p2)]) 3 hX dX12_youngestAt_3 (by decide) rfl ?_
  exact w_sub [2, 3, 4, 1, 0] rfl (lX12_youngestAt_146_5 hX hR FU p1 p2 (-1) 0 h))
def FX12_isBeaten_146_b169 (k52 : Int32 → Int32 → Int32 → Mem → Option Mem) (l1 l2 l4 : Int32) (u : Mem) : Option Mem :=
  k52 l1 l2 (l4 + 1) u
theorem bX12_isBeaten_146_169 {G : Gt} {X : Xt} {u' : Mem} (hX : CxOk G X cX12_isBeaten 5 RX12 (none, SH, RHO, u') 3) (hR : CxRet G X none (none, SH, RHO, u')) {k52 : Int32 → Int32 → Int32 → Mem → Option Mem} (hk52 : ∀ (l1 l2 l4 : Int32) (u : Mem), k52 l1 l2 l4 u = some u' → WM G X 52 [(0, .ref 146), (1, .int l1), (2, .int l2), (4, .int l4)] [] SH RHO u) (l1 l2 l4 : Int32) (u : Mem) (h : FX12_isBeaten_146_b169 k52 l1 l2 l4 u = some u') : WM G X 169 [(0, .ref 146), (1, .int l1), (2, .int l2), (4, .int l4)] [] SH RHO u := by
  unfold FX12_isBeaten_146_b169 at h
  refine w_iinc (lv' := [(4, .int (l4 + 1)), (0, .ref 146), (1, .int l1), (2, .int l2)]) 169 3 hX dX12_isBeaten_169 rfl (inc_1 _) (by decide) rfl ?_
  refine w_goto (tgt := 52) 172 hX (by decide) dX12_isBeaten_172 ?_
  exact w_sub [1, 2, 3, 0] rfl (hk52 l1 l2 (l4 + 1) u h)
def FX12_isBeaten_146_b52 (k52 : Int32 → Int32 → Int32 → Mem → Option Mem) (l1 l2 l4 : Int32) (u : Mem) : Option Mem :=
  (if (u 147 78) ≤ l4 then (some u) else ((rdA u 147 1786 (40 + l4)).bind fun x2 => (if x2 = 1 then ((rdA u 147 1786 (52 + l4)).bind fun x4 => (if x4 = l2 then ((rdA u 147 1786 (90 + l4)).bind fun x6 => (if x6 = l1 then ((wrA u 147 1786 (40 + l4) 0).bind fun u8 => (rdA u8 147 1786 (4 + l4)).bind fun x9 => (dvI x9 2).bind fun x10 => (wrA u8 147 1786 (4 + l4) x10).bind fun u11 => (FX12_notes_146 2 l4 l2 u11).bind fun u13 => FX12_isBeaten_146_b169 k52 l1 l2 l4 u13) else ((rdA u 147 1786 (4 + l4)).bind fun x14 => (FX12_greater 0 (x14 - 10)).bind fun x15 => (wrA u 147 1786 (4 + l4) x15).bind fun u16 => FX12_isBeaten_146_b169 k52 l1 l2 l4 u16))) else (FX12_isBeaten_146_b169 k52 l1 l2 l4 u))) else (FX12_isBeaten_146_b169 k52 l1 l2 l4 u))))
theorem bX12_isBeaten_146_52 {G : Gt} {X : Xt} {u' : Mem} (hX : CxOk G X cX12_isBeaten 5 RX12 (none, SH, RHO, u') 3) (hR : CxRet G X none (none, SH, RHO, u')) {k52 : Int32 → Int32 → Int32 → Mem → Option Mem} (hk52 : ∀ (l1 l2 l4 : Int32) (u : Mem), k52 l1 l2 l4 u = some u' → WM G X 52 [(0, .ref 146), (1, .int l1), (2, .int l2), (4, .int l4)] [] SH RHO u) (l1 l2 l4 : Int32) (u : Mem) (h : FX12_isBeaten_146_b52 k52 l1 l2 l4 u = some u') : WM G X 52 [(0, .ref 146), (1, .int l1), (2, .int l2), (4, .int l4)] [] SH RHO u := by
  unfold FX12_isBeaten_146_b52 at h
  refine w_iload 3 52 hX rfl dX12_isBeaten_52 ?_
  refine w_aload_n 0 54 hX rfl rfl dX12_isBeaten_54 ?_
  refine w_getR 55 hX CI_12 s_146 rfl r_146_0 fl_X12_7 rfl dX12_isBeaten_55 ?_
  refine w_bipush 78 58 hX ib_78 dX12_isBeaten_58 ?_
  refine w_iald 60 hX s_147 (rdK 78 78 n_78 (by decide) (by decide)) dX12_isBeaten_60 ?_
  refine w_icmp_ge (tgt := 175) 61 hX dX12_isBeaten_61 (by decide) (fun c1 => ?_) (fun c1 => ?_)
  · have h := it h c1
    exact w_vret 175 hX hR dX12_isBeaten_175 (by cases h; rfl)
  · have h := ie h c1
    refine w_aload_n 0 64 hX rfl rfl dX12_isBeaten_64 ?_
    refine w_getR 65 hX CI_12 s_146 rfl r_146_0 fl_X12_7 rfl dX12_isBeaten_65 ?_
    refine w_bipush 40 68 hX ib_40 dX12_isBeaten_68 ?_
    refine w_iload 3 70 hX rfl dX12_isBeaten_70 ?_
    refine w_iadd 72 hX dX12_isBeaten_72 ?_
    obtain ⟨x2, gx2, h⟩ := o_bind h
    refine w_iald 73 hX s_147 gx2 dX12_isBeaten_73 ?_
    refine w_iconst 1 74 hX ic_1 dX12_isBeaten_74 ?_
    refine w_icmp_ne (tgt := 169) 75 hX dX12_isBeaten_75 (by decide) (fun c3 => ?_) (fun c3 => ?_)
    · have h := ie h c3
      exact bX12_isBeaten_146_169 hX hR hk52 l1 l2 l4 u h
    · have h := it h c3
      refine w_aload_n 0 78 hX rfl rfl dX12_isBeaten_78 ?_
      refine w_getR 79 hX CI_12 s_146 rfl r_146_0 fl_X12_7 rfl dX12_isBeaten_79 ?_
      refine w_bipush 52 82 hX ib_52 dX12_isBeaten_82 ?_
      refine w_iload 3 84 hX rfl dX12_isBeaten_84 ?_
      refine w_iadd 86 hX dX12_isBeaten_86 ?_
      obtain ⟨x4, gx4, h⟩ := o_bind h
      refine w_iald 87 hX s_147 gx4 dX12_isBeaten_87 ?_
      refine w_iload_n 2 88 hX rfl rfl dX12_isBeaten_88 ?_
      refine w_icmp_eq (tgt := 95) 89 hX dX12_isBeaten_89 (by decide) (fun c5 => ?_) (fun c5 => ?_)
      · have h := it h c5
        refine w_aload_n 0 95 hX rfl rfl dX12_isBeaten_95 ?_
        refine w_getR 96 hX CI_12 s_146 rfl r_146_0 fl_X12_7 rfl dX12_isBeaten_96 ?_
        refine w_bipush 90 99 hX ib_90 dX12_isBeaten_99 ?_
        refine w_iload 3 101 hX rfl dX12_isBeaten_101 ?_
        refine w_iadd 103 hX dX12_isBeaten_103 ?_
        obtain ⟨x6, gx6, h⟩ := o_bind h
        refine w_iald 104 hX s_147 gx6 dX12_isBeaten_104 ?_
        refine w_iload_n 1 105 hX rfl rfl dX12_isBeaten_105 ?_
        refine w_icmp_eq (tgt := 137) 106 hX dX12_isBeaten_106 (by decide) (fun c7 => ?_) (fun c7 => ?_)
        · have h := it h c7
          refine w_aload_n 0 137 hX rfl rfl dX12_isBeaten_137 ?_
          refine w_getR 138 hX CI_12 s_146 rfl r_146_0 fl_X12_7 rfl dX12_isBeaten_138 ?_
          refine w_bipush 40 141 hX ib_40 dX12_isBeaten_141 ?_
          refine w_iload 3 143 hX rfl dX12_isBeaten_143 ?_
          refine w_iadd 145 hX dX12_isBeaten_145 ?_
          refine w_iconst 0 146 hX ic_0 dX12_isBeaten_146 ?_
          obtain ⟨u8, gu8, h⟩ := o_bind h
          refine w_iast 147 hX s_147 gu8 dX12_isBeaten_147 ?_
          refine w_aload_n 0 148 hX rfl rfl dX12_isBeaten_148 ?_
          refine w_getR 149 hX CI_12 s_146 rfl r_146_0 fl_X12_7 rfl dX12_isBeaten_149 ?_
          refine w_iconst 4 152 hX ic_4 dX12_isBeaten_152 ?_
          refine w_iload 3 153 hX rfl dX12_isBeaten_153 ?_
          refine w_iadd 155 hX dX12_isBeaten_155 ?_
          refine w_dup2 156 hX rfl rfl dX12_isBeaten_156 ?_
          obtain ⟨x9, gx9, h⟩ := o_bind h
          refine w_iald 157 hX s_147 gx9 dX12_isBeaten_157 ?_
          refine w_iconst 2 158 hX ic_2 dX12_isBeaten_158 ?_
          obtain ⟨x10, gx10, h⟩ := o_bind h
          obtain ⟨qx10, jx10⟩ := dvI_ok gx10
          refine w_idiv 159 hX qx10 dX12_isBeaten_159 ?_
          rw [jx10]
          obtain ⟨u11, gu11, h⟩ := o_bind h
          refine w_iast 160 hX s_147 gu11 dX12_isBeaten_160 ?_
          refine w_aload_n 0 161 hX rfl rfl dX12_isBeaten_161 ?_
          refine w_iconst 2 162 hX ic_2 dX12_isBeaten_162 ?_
          refine w_iload 3 163 hX rfl dX12_isBeaten_163 ?_
          refine w_iload_n 2 165 hX rfl rfl dX12_isBeaten_165 ?_
          obtain ⟨u13, gu13, h⟩ := o_bind h
          refine w_invVv (av := [.int 2, .int l4, .int l2]) (st := []) 166 hX CI_12 s_146 rfl mv_yX12_notes mi_yX12_notes ml_X12_336 (CX12_notes_146 2 l4 l2 u11 gu13) rfl (by decide) (Nat.le_of_ble_eq_true rfl) (Nat.le_refl _) (Nat.le_refl _) dX12_isBeaten_166 ?_
          exact bX12_isBeaten_146_169 hX hR hk52 l1 l2 l4 u13 h
        · have h := ie h c7
          refine w_aload_n 0 109 hX rfl rfl dX12_isBeaten_109 ?_
          refine w_getR 110 hX CI_12 s_146 rfl r_146_0 fl_X12_7 rfl dX12_isBeaten_110 ?_
          refine w_iconst 4 113 hX ic_4 dX12_isBeaten_113 ?_
          refine w_iload 3 114 hX rfl dX12_isBeaten_114 ?_
          refine w_iadd 116 hX dX12_isBeaten_116 ?_
          refine w_iconst 0 117 hX ic_0 dX12_isBeaten_117 ?_
          refine w_aload_n 0 118 hX rfl rfl dX12_isBeaten_118 ?_
          refine w_getR 119 hX CI_12 s_146 rfl r_146_0 fl_X12_7 rfl dX12_isBeaten_119 ?_
          refine w_iconst 4 122 hX ic_4 dX12_isBeaten_122 ?_
          refine w_iload 3 123 hX rfl dX12_isBeaten_123 ?_
          refine w_iadd 125 hX dX12_isBeaten_125 ?_
          obtain ⟨x14, gx14, h⟩ := o_bind h
          refine w_iald 126 hX s_147 gx14 dX12_isBeaten_126 ?_
          refine w_bipush 10 127 hX ib_10 dX12_isBeaten_127 ?_
          refine w_isub 129 hX dX12_isBeaten_129 ?_
          obtain ⟨x15, gx15, h⟩ := o_bind h
          refine w_invSi (av := [.int 0, .int (x14 - 10)]) (st := [.int (4 + l4), .ref 147]) 130 hX ms_yX12_greater mi_yX12_greater ml_X12_300 (CX12_greater 0 (x14 - 10) u gx15) rfl (by decide) (Nat.le_of_ble_eq_true rfl) (Nat.le_refl _) (Nat.le_refl _) dX12_isBeaten_130 ?_
          obtain ⟨u16, gu16, h⟩ := o_bind h
          refine w_iast 133 hX s_147 gu16 dX12_isBeaten_133 ?_
          refine w_goto (tgt := 169) 134 hX (by decide) dX12_isBeaten_134 ?_
          exact bX12_isBeaten_146_169 hX hR hk52 l1 l2 l4 u16 h
      · have h := ie h c5
        refine w_goto (tgt := 169) 92 hX (by decide) dX12_isBeaten_92 ?_
        exact bX12_isBeaten_146_169 hX hR hk52 l1 l2 l4 u h
def FX12_isBeaten_146_L52 : Nat → Int32 → Int32 → Int32 → Mem → Option Mem
  | 0, _, _, _, _ => none
  | n + 1, l1, l2, l4, u => FX12_isBeaten_146_b52 (FX12_isBeaten_146_L52 n) l1 l2 l4 u
theorem lX12_isBeaten_146_52 {G : Gt} {X : Xt} {u' : Mem} (hX : CxOk G X cX12_isBeaten 5 RX12 (none, SH, RHO, u') 3) (hR : CxRet G X none (none, SH, RHO, u')) : ∀ (n : Nat) (l1 l2 l4 : Int32) (u : Mem), FX12_isBeaten_146_L52 n l1 l2 l4 u = some u' → WM G X 52 [(0, .ref 146), (1, .int l1), (2, .int l2), (4, .int l4)] [] SH RHO u := by
  intro n
  induction n with
  | zero =>
    intro l1 l2 l4 u h
    exact nn_ h
  | succ n ih =>
    intro l1 l2 l4 u h
    exact bX12_isBeaten_146_52 hX hR ih l1 l2 l4 u h
def FX12_isBeaten_146 (p1 p2 : Int32) (u : Mem) : Option Mem :=
  (FX12_youngestAt_146 p1 p2 u).bind fun x1 => (wrA u 147 1786 (40 + x1) 2).bind fun u2 => (wrA u2 147 1786 (64 + x1) (u2 147 0)).bind fun u3 => (some (mupd u3 146 29 ((u3 146 29) + 1))).bind fun u4 => (FX12_notes_146 1 x1 p2 u4).bind fun u6 => FX12_isBeaten_146_L52 FU p1 p2 0 u6
theorem CX12_isBeaten_146 {G : Gt} (p1 p2 : Int32) (u : Mem) {u' : Mem} (h : FX12_isBeaten_146 p1 p2 u = some u') : CT G yX12_isBeaten cX12_isBeaten 5 none 3 [.ref 146, .int p1, .int p2] SH RHO u (none, SH, RHO, u') :=
  ct_of (by decide) rfl (Nat.le_of_ble_eq_true rfl) (Nat.le_refl _) (Nat.le_refl _) (fun X hX hR => by
  unfold FX12_isBeaten_146 at h
  refine w_aload_n 0 0 hX rfl rfl dX12_isBeaten_0 ?_
  refine w_iload_n 1 1 hX rfl rfl dX12_isBeaten_1 ?_
  refine w_iload_n 2 2 hX rfl rfl dX12_isBeaten_2 ?_
  obtain ⟨x1, gx1, h⟩ := o_bind h
  refine w_invVi (av := [.int p1, .int p2]) (st := []) 3 hX CI_12 s_146 rfl mv_yX12_youngestAt mi_yX12_youngestAt ml_X12_358 (CX12_youngestAt_146 p1 p2 u gx1) rfl (by decide) (Nat.le_of_ble_eq_true rfl) (Nat.le_refl _) (Nat.le_refl _) dX12_isBeaten_3 ?_
  refine w_istore_n (lv' := [(3, .int x1), (0, .ref 146), (1, .int p1), (2, .int p2)]) 6 hX rfl dX12_isBeaten_6 (by decide) rfl ?_
  refine w_aload_n 1 7 hX rfl rfl dX12_isBeaten_7 ?_
  refine w_getR 8 hX CI_12 s_146 rfl r_146_0 fl_X12_7 rfl dX12_isBeaten_8 ?_
  refine w_bipush 40 11 hX ib_40 dX12_isBeaten_11 ?_
  refine w_iload_n 0 13 hX rfl rfl dX12_isBeaten_13 ?_
  refine w_iadd 14 hX dX12_isBeaten_14 ?_
  refine w_iconst 2 15 hX ic_2 dX12_isBeaten_15 ?_
  obtain ⟨u2, gu2, h⟩ := o_bind h
  refine w_iast 16 hX s_147 gu2 dX12_isBeaten_16 ?_
  refine w_aload_n 1 17 hX rfl rfl dX12_isBeaten_17 ?_
  refine w_getR 18 hX CI_12 s_146 rfl r_146_0 fl_X12_7 rfl dX12_isBeaten_18 ?_
  refine w_bipush 64 21 hX ib_64 dX12_isBeaten_21 ?_
  refine w_iload_n 0 23 hX rfl rfl dX12_isBeaten_23 ?_
  refine w_iadd 24 hX dX12_isBeaten_24 ?_
  refine w_aload_n 1 25 hX rfl rfl dX12_isBeaten_25 ?_
  refine w_getR 26 hX CI_12 s_146 rfl r_146_0 fl_X12_7 rfl dX12_isBeaten_26 ?_
  refine w_iconst 0 29 hX ic_0 dX12_isBeaten_29 ?_
  refine w_iald 30 hX s_147 (rdK 0 0 n_0 (by decide) (by decide)) dX12_isBeaten_30 ?_
  obtain ⟨u3, gu3, h⟩ := o_bind h
  refine w_iast 31 hX s_147 gu3 dX12_isBeaten_31 ?_
  refine w_aload_n 1 32 hX rfl rfl dX12_isBeaten_32 ?_
  refine w_dup 33 hX rfl dX12_isBeaten_33 ?_
  refine w_getI (j := 29) 34 hX CI_12 s_146 rfl fl_X12_361 rfl dX12_isBeaten_34 ?_
  refine w_iconst 1 37 hX ic_1 dX12_isBeaten_37 ?_
  refine w_iadd 38 hX dX12_isBeaten_38 ?_
  obtain ⟨u4, gu4, h⟩ := o_bind h
  refine w_putI (j := 29) 39 hX CI_12 s_146 rfl fl_X12_361 rfl rfl rfl rfl dX12_isBeaten_39 ?_
  rw [Option.some.inj gu4]
  refine w_aload_n 1 42 hX rfl rfl dX12_isBeaten_42 ?_
  refine w_iconst 1 43 hX ic_1 dX12_isBeaten_43 ?_
  refine w_iload_n 0 44 hX rfl rfl dX12_isBeaten_44 ?_
  refine w_iload_n 3 45 hX rfl rfl dX12_isBeaten_45 ?_
  obtain ⟨u6, gu6, h⟩ := o_bind h
  refine w_invVv (av := [.int 1, .int x1, .int p2]) (st := []) 46 hX CI_12 s_146 rfl mv_yX12_notes mi_yX12_notes ml_X12_336 (CX12_notes_146 1 x1 p2 u4 gu6) rfl (by decide) (Nat.le_of_ble_eq_true rfl) (Nat.le_refl _) (Nat.le_refl _) dX12_isBeaten_46 ?_
  refine w_iconst 0 49 hX ic_0 dX12_isBeaten_49 ?_
  refine w_istore (lv' := [(4, .int 0), (3, .int x1), (0, .ref 146), (1, .int p1), (2, .int p2)]) 50 hX dX12_isBeaten_50 (by decide) rfl ?_
  exact w_sub [2, 3, 4, 0] rfl (lX12_isBeaten_146_52 hX hR FU p1 p2 0 u6 h))
def FX12_fights_146_b103 (k54 : Int32 → Int32 → Mem → Option Mem) (l1 l3 : Int32) (u : Mem) : Option Mem :=
  k54 l1 (l3 + 1) u
theorem bX12_fights_146_103 {G : Gt} {X : Xt} {u' : Mem} (hX : CxOk G X cX12_fights 4 RX12 (none, SH, RHO, u') 4) (hR : CxRet G X none (none, SH, RHO, u')) {k54 : Int32 → Int32 → Mem → Option Mem} (hk54 : ∀ (l1 l3 : Int32) (u : Mem), k54 l1 l3 u = some u' → WM G X 54 [(0, .ref 146), (1, .int l1), (3, .int l3)] [] SH RHO u) (l1 l3 : Int32) (u : Mem) (h : FX12_fights_146_b103 k54 l1 l3 u = some u') : WM G X 103 [(0, .ref 146), (1, .int l1), (3, .int l3)] [] SH RHO u := by
  unfold FX12_fights_146_b103 at h
  refine w_iinc (lv' := [(3, .int (l3 + 1)), (0, .ref 146), (1, .int l1)]) 103 2 hX dX12_fights_103 rfl (inc_1 _) (by decide) rfl ?_
  refine w_goto (tgt := 54) 106 hX (by decide) dX12_fights_106 ?_
  exact w_sub [1, 2, 0] rfl (hk54 l1 (l3 + 1) u h)
def FX12_fights_146_b54 (k54 : Int32 → Int32 → Mem → Option Mem) (l1 l3 : Int32) (u : Mem) : Option Mem :=
  (if (u 147 78) ≤ l3 then (some u) else ((rdA u 147 1786 (40 + l3)).bind fun x2 => (if x2 = 1 then ((rdA u 147 1786 (52 + l3)).bind fun x4 => (if x4 = l1 then ((rdA u 147 1786 (4 + l3)).bind fun x6 => (dvI x6 2).bind fun x7 => (wrA u 147 1786 (4 + l3) x7).bind fun u8 => FX12_fights_146_b103 k54 l1 l3 u8) else (FX12_fights_146_b103 k54 l1 l3 u))) else (FX12_fights_146_b103 k54 l1 l3 u))))
theorem bX12_fights_146_54 {G : Gt} {X : Xt} {u' : Mem} (hX : CxOk G X cX12_fights 4 RX12 (none, SH, RHO, u') 4) (hR : CxRet G X none (none, SH, RHO, u')) {k54 : Int32 → Int32 → Mem → Option Mem} (hk54 : ∀ (l1 l3 : Int32) (u : Mem), k54 l1 l3 u = some u' → WM G X 54 [(0, .ref 146), (1, .int l1), (3, .int l3)] [] SH RHO u) (l1 l3 : Int32) (u : Mem) (h : FX12_fights_146_b54 k54 l1 l3 u = some u') : WM G X 54 [(0, .ref 146), (1, .int l1), (3, .int l3)] [] SH RHO u := by
  unfold FX12_fights_146_b54 at h
  refine w_iload_n 2 54 hX rfl rfl dX12_fights_54 ?_
  refine w_aload_n 0 55 hX rfl rfl dX12_fights_55 ?_
  refine w_getR 56 hX CI_12 s_146 rfl r_146_0 fl_X12_7 rfl dX12_fights_56 ?_
  refine w_bipush 78 59 hX ib_78 dX12_fights_59 ?_
  refine w_iald 61 hX s_147 (rdK 78 78 n_78 (by decide) (by decide)) dX12_fights_61 ?_
  refine w_icmp_ge (tgt := 109) 62 hX dX12_fights_62 (by decide) (fun c1 => ?_) (fun c1 => ?_)
  · have h := it h c1
    exact w_vret 109 hX hR dX12_fights_109 (by cases h; rfl)
  · have h := ie h c1
    refine w_aload_n 0 65 hX rfl rfl dX12_fights_65 ?_
    refine w_getR 66 hX CI_12 s_146 rfl r_146_0 fl_X12_7 rfl dX12_fights_66 ?_
    refine w_bipush 40 69 hX ib_40 dX12_fights_69 ?_
    refine w_iload_n 2 71 hX rfl rfl dX12_fights_71 ?_
    refine w_iadd 72 hX dX12_fights_72 ?_
    obtain ⟨x2, gx2, h⟩ := o_bind h
    refine w_iald 73 hX s_147 gx2 dX12_fights_73 ?_
    refine w_iconst 1 74 hX ic_1 dX12_fights_74 ?_
    refine w_icmp_ne (tgt := 103) 75 hX dX12_fights_75 (by decide) (fun c3 => ?_) (fun c3 => ?_)
    · have h := ie h c3
      exact bX12_fights_146_103 hX hR hk54 l1 l3 u h
    · have h := it h c3
      refine w_aload_n 0 78 hX rfl rfl dX12_fights_78 ?_
      refine w_getR 79 hX CI_12 s_146 rfl r_146_0 fl_X12_7 rfl dX12_fights_79 ?_
      refine w_bipush 52 82 hX ib_52 dX12_fights_82 ?_
      refine w_iload_n 2 84 hX rfl rfl dX12_fights_84 ?_
      refine w_iadd 85 hX dX12_fights_85 ?_
      obtain ⟨x4, gx4, h⟩ := o_bind h
      refine w_iald 86 hX s_147 gx4 dX12_fights_86 ?_
      refine w_iload_n 1 87 hX rfl rfl dX12_fights_87 ?_
      refine w_icmp_ne (tgt := 103) 88 hX dX12_fights_88 (by decide) (fun c5 => ?_) (fun c5 => ?_)
      · have h := ie h c5
        exact bX12_fights_146_103 hX hR hk54 l1 l3 u h
      · have h := it h c5
        refine w_aload_n 0 91 hX rfl rfl dX12_fights_91 ?_
        refine w_getR 92 hX CI_12 s_146 rfl r_146_0 fl_X12_7 rfl dX12_fights_92 ?_
        refine w_iconst 4 95 hX ic_4 dX12_fights_95 ?_
        refine w_iload_n 2 96 hX rfl rfl dX12_fights_96 ?_
        refine w_iadd 97 hX dX12_fights_97 ?_
        refine w_dup2 98 hX rfl rfl dX12_fights_98 ?_
        obtain ⟨x6, gx6, h⟩ := o_bind h
        refine w_iald 99 hX s_147 gx6 dX12_fights_99 ?_
        refine w_iconst 2 100 hX ic_2 dX12_fights_100 ?_
        obtain ⟨x7, gx7, h⟩ := o_bind h
        obtain ⟨qx7, jx7⟩ := dvI_ok gx7
        refine w_idiv 101 hX qx7 dX12_fights_101 ?_
        rw [jx7]
        obtain ⟨u8, gu8, h⟩ := o_bind h
        refine w_iast 102 hX s_147 gu8 dX12_fights_102 ?_
        exact bX12_fights_146_103 hX hR hk54 l1 l3 u8 h
def FX12_fights_146_L54 : Nat → Int32 → Int32 → Mem → Option Mem
  | 0, _, _, _ => none
  | n + 1, l1, l3, u => FX12_fights_146_b54 (FX12_fights_146_L54 n) l1 l3 u
theorem lX12_fights_146_54 {G : Gt} {X : Xt} {u' : Mem} (hX : CxOk G X cX12_fights 4 RX12 (none, SH, RHO, u') 4) (hR : CxRet G X none (none, SH, RHO, u')) : ∀ (n : Nat) (l1 l3 : Int32) (u : Mem), FX12_fights_146_L54 n l1 l3 u = some u' → WM G X 54 [(0, .ref 146), (1, .int l1), (3, .int l3)] [] SH RHO u := by
  intro n
  induction n with
  | zero =>
    intro l1 l3 u h
    exact nn_ h
  | succ n ih =>
    intro l1 l3 u h
    exact bX12_fights_146_54 hX hR ih l1 l3 u h
def FX12_fights_146_b47 (l1 t1 : Int32) (u : Mem) : Option Mem :=
  (FX12_isBeaten_146 t1 l1 u).bind fun u2 => some u2
theorem bX12_fights_146_47 {G : Gt} {X : Xt} {u' : Mem} (hX : CxOk G X cX12_fights 4 RX12 (none, SH, RHO, u') 4) (hR : CxRet G X none (none, SH, RHO, u')) (l1 t1 : Int32) (u : Mem) (h : FX12_fights_146_b47 l1 t1 u = some u') : WM G X 47 [(1, .int l1)] [.int t1, .ref 146] SH RHO u := by
  unfold FX12_fights_146_b47 at h
  refine w_iload_n 0 47 hX rfl rfl dX12_fights_47 ?_
  obtain ⟨u2, gu2, h⟩ := o_bind h
  refine w_invVv (av := [.int t1, .int l1]) (st := []) 48 hX CI_12 s_146 rfl mv_yX12_isBeaten mi_yX12_isBeaten ml_X12_367 (CX12_isBeaten_146 t1 l1 u gu2) rfl (by decide) (Nat.le_of_ble_eq_true rfl) (Nat.le_refl _) (Nat.le_refl _) dX12_fights_48 ?_
  exact w_vret 51 hX hR dX12_fights_51 (by cases h; rfl)
def FX12_fights_146 (p1 : Int32) (u : Mem) : Option Mem :=
  (FX12_isHeld_146 0 p1 u).bind fun x1 => (if x1 = 0 then (some u) else ((FX12_isHeld_146 1 p1 u).bind fun x3 => (if x3 = 0 then (some u) else ((FX12_breathAt_146 0 p1 u).bind fun x5 => (FX12_breathAt_146 1 p1 u).bind fun x6 => (if (x5 - x6) = 0 then (FX12_fights_146_L54 FU p1 0 u) else ((if 0 ≤ (x5 - x6) then (FX12_fights_146_b47 p1 1 u) else (FX12_fights_146_b47 p1 0 u))))))))
theorem CX12_fights_146 {G : Gt} (p1 : Int32) (u : Mem) {u' : Mem} (h : FX12_fights_146 p1 u = some u') : CT G yX12_fights cX12_fights 4 none 4 [.ref 146, .int p1] SH RHO u (none, SH, RHO, u') :=
  ct_of (by decide) rfl (Nat.le_of_ble_eq_true rfl) (Nat.le_refl _) (Nat.le_refl _) (fun X hX hR => by
  unfold FX12_fights_146 at h
  refine w_aload_n 0 0 hX rfl rfl dX12_fights_0 ?_
  refine w_iconst 0 1 hX ic_0 dX12_fights_1 ?_
  refine w_iload_n 1 2 hX rfl rfl dX12_fights_2 ?_
  obtain ⟨x1, gx1, h⟩ := o_bind h
  refine w_invVi (av := [.int 0, .int p1]) (st := []) 3 hX CI_12 s_146 rfl mv_yX12_isHeld mi_yX12_isHeld ml_X12_343 (CX12_isHeld_146 0 p1 u gx1) rfl (by decide) (Nat.le_of_ble_eq_true rfl) (Nat.le_refl _) (Nat.le_refl _) dX12_fights_3 ?_
  refine w_if_eq (tgt := 18) 6 hX dX12_fights_6 (by decide) (fun c2 => ?_) (fun c2 => ?_)
  · have h := it h c2
    exact w_vret 18 hX hR dX12_fights_18 (by cases h; rfl)
  · have h := ie h c2
    refine w_aload_n 0 9 hX rfl rfl dX12_fights_9 ?_
    refine w_iconst 1 10 hX ic_1 dX12_fights_10 ?_
    refine w_iload_n 1 11 hX rfl rfl dX12_fights_11 ?_
    obtain ⟨x3, gx3, h⟩ := o_bind h
    refine w_invVi (av := [.int 1, .int p1]) (st := []) 12 hX CI_12 s_146 rfl mv_yX12_isHeld mi_yX12_isHeld ml_X12_343 (CX12_isHeld_146 1 p1 u gx3) rfl (by decide) (Nat.le_of_ble_eq_true rfl) (Nat.le_refl _) (Nat.le_refl _) dX12_fights_12 ?_
    refine w_if_ne (tgt := 19) 15 hX dX12_fights_15 (by decide) (fun c4 => ?_) (fun c4 => ?_)
    · have h := ie h c4
      refine w_aload_n 0 19 hX rfl rfl dX12_fights_19 ?_
      refine w_iconst 0 20 hX ic_0 dX12_fights_20 ?_
      refine w_iload_n 1 21 hX rfl rfl dX12_fights_21 ?_
      obtain ⟨x5, gx5, h⟩ := o_bind h
      refine w_invVi (av := [.int 0, .int p1]) (st := []) 22 hX CI_12 s_146 rfl mv_yX12_breathAt mi_yX12_breathAt ml_X12_364 (CX12_breathAt_146 0 p1 u gx5) rfl (by decide) (Nat.le_of_ble_eq_true rfl) (Nat.le_refl _) (Nat.le_refl _) dX12_fights_22 ?_
      refine w_aload_n 0 25 hX rfl rfl dX12_fights_25 ?_
      refine w_iconst 1 26 hX ic_1 dX12_fights_26 ?_
      refine w_iload_n 1 27 hX rfl rfl dX12_fights_27 ?_
      obtain ⟨x6, gx6, h⟩ := o_bind h
      refine w_invVi (av := [.int 1, .int p1]) (st := [.int x5]) 28 hX CI_12 s_146 rfl mv_yX12_breathAt mi_yX12_breathAt ml_X12_364 (CX12_breathAt_146 1 p1 u gx6) rfl (by decide) (Nat.le_of_ble_eq_true rfl) (Nat.le_refl _) (Nat.le_refl _) dX12_fights_28 ?_
      refine w_isub 31 hX dX12_fights_31 ?_
      refine w_istore_n (lv' := [(2, .int (x5 - x6)), (0, .ref 146), (1, .int p1)]) 32 hX rfl dX12_fights_32 (by decide) rfl ?_
      refine w_iload_n 0 33 hX rfl rfl dX12_fights_33 ?_
      refine w_if_eq (tgt := 52) 34 hX dX12_fights_34 (by decide) (fun c7 => ?_) (fun c7 => ?_)
      · have h := it h c7
        refine w_iconst 0 52 hX ic_0 dX12_fights_52 ?_
        refine w_istore_n (lv' := [(3, .int 0), (2, .int (x5 - x6)), (0, .ref 146), (1, .int p1)]) 53 hX rfl dX12_fights_53 (by decide) rfl ?_
        exact w_sub [2, 3, 0] rfl (lX12_fights_146_54 hX hR FU p1 0 u h)
      · have h := ie h c7
        refine w_aload_n 1 37 hX rfl rfl dX12_fights_37 ?_
        refine w_iload_n 0 38 hX rfl rfl dX12_fights_38 ?_
        refine w_if_ge (tgt := 46) 39 hX dX12_fights_39 (by decide) (fun c8 => ?_) (fun c8 => ?_)
        · have h := it h c8
          refine w_iconst 1 46 hX ic_1 dX12_fights_46 ?_
          exact w_sub [2] rfl (bX12_fights_146_47 hX hR p1 1 u h)
        · have h := ie h c8
          refine w_iconst 0 42 hX ic_0 dX12_fights_42 ?_
          refine w_goto (tgt := 47) 43 hX (by decide) dX12_fights_43 ?_
          exact w_sub [2] rfl (bX12_fights_146_47 hX hR p1 0 u h)
    · have h := it h c4
      exact w_vret 18 hX hR dX12_fights_18 (by cases h; rfl))
def FX12_wages_146_b94 (u : Mem) : Option Mem :=
  (some (mupd u 147 1 0)).bind fun u1 => some u1
theorem bX12_wages_146_94 {G : Gt} {X : Xt} {u' : Mem} (hX : CxOk G X cX12_wages 2 RX12 (none, SH, RHO, u') 8) (hR : CxRet G X none (none, SH, RHO, u')) (u : Mem) (h : FX12_wages_146_b94 u = some u') : WM G X 94 [(0, .ref 146)] [] SH RHO u := by
  unfold FX12_wages_146_b94 at h
  refine w_aload_n 0 94 hX rfl rfl dX12_wages_94 ?_
  refine w_getR 95 hX CI_12 s_146 rfl r_146_0 fl_X12_7 rfl dX12_wages_95 ?_
  refine w_iconst 1 98 hX ic_1 dX12_wages_98 ?_
  refine w_iconst 0 99 hX ic_0 dX12_wages_99 ?_
  obtain ⟨u1, gu1, h⟩ := o_bind h
  refine w_iast 100 hX s_147 (wrK 1 1 n_1 (by decide) (by decide) gu1) dX12_wages_100 ?_
  exact w_vret 101 hX hR dX12_wages_101 (by cases h; rfl)
def FX12_wages_146_b61 (k61 : Int32 → Mem → Option Mem) (l1 : Int32) (u : Mem) : Option Mem :=
  (if 16 ≤ l1 then ((FX12_isThrough_146 0 u).bind fun x2 => (if x2 = 0 then ((FX12_isThrough_146 1 u).bind fun x4 => (if x4 = 0 then (some u) else (FX12_wages_146_b94 u))) else (FX12_wages_146_b94 u))) else ((FX12_fights_146 l1 u).bind fun u7 => k61 (l1 + 1) u7))
theorem bX12_wages_146_61 {G : Gt} {X : Xt} {u' : Mem} (hX : CxOk G X cX12_wages 2 RX12 (none, SH, RHO, u') 8) (hR : CxRet G X none (none, SH, RHO, u')) {k61 : Int32 → Mem → Option Mem} (hk61 : ∀ (l1 : Int32) (u : Mem), k61 l1 u = some u' → WM G X 61 [(0, .ref 146), (1, .int l1)] [] SH RHO u) (l1 : Int32) (u : Mem) (h : FX12_wages_146_b61 k61 l1 u = some u') : WM G X 61 [(0, .ref 146), (1, .int l1)] [] SH RHO u := by
  unfold FX12_wages_146_b61 at h
  refine w_iload_n 1 61 hX rfl rfl dX12_wages_61 ?_
  refine w_bipush 16 62 hX ib_16 dX12_wages_62 ?_
  refine w_icmp_ge (tgt := 78) 64 hX dX12_wages_64 (by decide) (fun c1 => ?_) (fun c1 => ?_)
  · have h := it h c1
    refine w_aload_n 0 78 hX rfl rfl dX12_wages_78 ?_
    refine w_iconst 0 79 hX ic_0 dX12_wages_79 ?_
    obtain ⟨x2, gx2, h⟩ := o_bind h
    refine w_invVi (av := [.int 0]) (st := []) 80 hX CI_12 s_146 rfl mv_yX12_isThrough mi_yX12_isThrough ml_X12_397 (CX12_isThrough_146 0 u gx2) rfl (by decide) (Nat.le_of_ble_eq_true rfl) (Nat.le_refl _) (Nat.le_refl _) dX12_wages_80 ?_
    refine w_if_ne (tgt := 94) 83 hX dX12_wages_83 (by decide) (fun c3 => ?_) (fun c3 => ?_)
    · have h := ie h c3
      exact w_sub [0] rfl (bX12_wages_146_94 hX hR u h)
    · have h := it h c3
      refine w_aload_n 0 86 hX rfl rfl dX12_wages_86 ?_
      refine w_iconst 1 87 hX ic_1 dX12_wages_87 ?_
      obtain ⟨x4, gx4, h⟩ := o_bind h
      refine w_invVi (av := [.int 1]) (st := []) 88 hX CI_12 s_146 rfl mv_yX12_isThrough mi_yX12_isThrough ml_X12_397 (CX12_isThrough_146 1 u gx4) rfl (by decide) (Nat.le_of_ble_eq_true rfl) (Nat.le_refl _) (Nat.le_refl _) dX12_wages_88 ?_
      refine w_if_eq (tgt := 101) 91 hX dX12_wages_91 (by decide) (fun c5 => ?_) (fun c5 => ?_)
      · have h := it h c5
        exact w_vret 101 hX hR dX12_wages_101 (by cases h; rfl)
      · have h := ie h c5
        exact w_sub [0] rfl (bX12_wages_146_94 hX hR u h)
  · have h := ie h c1
    refine w_aload_n 0 67 hX rfl rfl dX12_wages_67 ?_
    refine w_iload_n 1 68 hX rfl rfl dX12_wages_68 ?_
    obtain ⟨u7, gu7, h⟩ := o_bind h
    refine w_invVv (av := [.int l1]) (st := []) 69 hX CI_12 s_146 rfl mv_yX12_fights mi_yX12_fights ml_X12_394 (CX12_fights_146 l1 u gu7) rfl (by decide) (Nat.le_of_ble_eq_true rfl) (Nat.le_refl _) (Nat.le_refl _) dX12_wages_69 ?_
    refine w_iinc (lv' := [(1, .int (l1 + 1)), (0, .ref 146)]) 72 1 hX dX12_wages_72 rfl (inc_1 _) (by decide) rfl ?_
    refine w_goto (tgt := 61) 75 hX (by decide) dX12_wages_75 ?_
    exact w_sub [1, 0] rfl (hk61 (l1 + 1) u7 h)
def FX12_wages_146_L61 : Nat → Int32 → Mem → Option Mem
  | 0, _, _ => none
  | n + 1, l1, u => FX12_wages_146_b61 (FX12_wages_146_L61 n) l1 u
theorem lX12_wages_146_61 {G : Gt} {X : Xt} {u' : Mem} (hX : CxOk G X cX12_wages 2 RX12 (none, SH, RHO, u') 8) (hR : CxRet G X none (none, SH, RHO, u')) : ∀ (n : Nat) (l1 : Int32) (u : Mem), FX12_wages_146_L61 n l1 u = some u' → WM G X 61 [(0, .ref 146), (1, .int l1)] [] SH RHO u := by
  intro n
  induction n with
  | zero =>
    intro l1 u h
    exact nn_ h
  | succ n ih =>
    intro l1 u h
    exact bX12_wages_146_61 hX hR ih l1 u h
def FX12_wages_146_b37 (k37 : Int32 → Mem → Option Mem) (l1 : Int32) (u : Mem) : Option Mem :=
  (if (u 147 78) ≤ l1 then (FX12_wages_146_L61 FU 0 u) else ((FX12_marches_146 l1 u).bind fun u3 => k37 (l1 + 1) u3))
theorem bX12_wages_146_37 {G : Gt} {X : Xt} {u' : Mem} (hX : CxOk G X cX12_wages 2 RX12 (none, SH, RHO, u') 8) (hR : CxRet G X none (none, SH, RHO, u')) {k37 : Int32 → Mem → Option Mem} (hk37 : ∀ (l1 : Int32) (u : Mem), k37 l1 u = some u' → WM G X 37 [(0, .ref 146), (1, .int l1)] [] SH RHO u) (l1 : Int32) (u : Mem) (h : FX12_wages_146_b37 k37 l1 u = some u') : WM G X 37 [(0, .ref 146), (1, .int l1)] [] SH RHO u := by
  unfold FX12_wages_146_b37 at h
  refine w_iload_n 1 37 hX rfl rfl dX12_wages_37 ?_
  refine w_aload_n 0 38 hX rfl rfl dX12_wages_38 ?_
  refine w_getR 39 hX CI_12 s_146 rfl r_146_0 fl_X12_7 rfl dX12_wages_39 ?_
  refine w_bipush 78 42 hX ib_78 dX12_wages_42 ?_
  refine w_iald 44 hX s_147 (rdK 78 78 n_78 (by decide) (by decide)) dX12_wages_44 ?_
  refine w_icmp_ge (tgt := 59) 45 hX dX12_wages_45 (by decide) (fun c1 => ?_) (fun c1 => ?_)
  · have h := it h c1
    refine w_iconst 0 59 hX ic_0 dX12_wages_59 ?_
    refine w_istore_n (lv' := [(1, .int 0), (0, .ref 146)]) 60 hX rfl dX12_wages_60 (by decide) rfl ?_
    exact w_sub [1, 0] rfl (lX12_wages_146_61 hX hR FU 0 u h)
  · have h := ie h c1
    refine w_aload_n 0 48 hX rfl rfl dX12_wages_48 ?_
    refine w_iload_n 1 49 hX rfl rfl dX12_wages_49 ?_
    obtain ⟨u3, gu3, h⟩ := o_bind h
    refine w_invVv (av := [.int l1]) (st := []) 50 hX CI_12 s_146 rfl mv_yX12_marches mi_yX12_marches ml_X12_391 (CX12_marches_146 l1 u gu3) rfl (by decide) (Nat.le_of_ble_eq_true rfl) (Nat.le_refl _) (Nat.le_refl _) dX12_wages_50 ?_
    refine w_iinc (lv' := [(1, .int (l1 + 1)), (0, .ref 146)]) 53 1 hX dX12_wages_53 rfl (inc_1 _) (by decide) rfl ?_
    refine w_goto (tgt := 37) 56 hX (by decide) dX12_wages_56 ?_
    exact w_sub [1, 0] rfl (hk37 (l1 + 1) u3 h)
def FX12_wages_146_L37 : Nat → Int32 → Mem → Option Mem
  | 0, _, _ => none
  | n + 1, l1, u => FX12_wages_146_b37 (FX12_wages_146_L37 n) l1 u
theorem lX12_wages_146_37 {G : Gt} {X : Xt} {u' : Mem} (hX : CxOk G X cX12_wages 2 RX12 (none, SH, RHO, u') 8) (hR : CxRet G X none (none, SH, RHO, u')) : ∀ (n : Nat) (l1 : Int32) (u : Mem), FX12_wages_146_L37 n l1 u = some u' → WM G X 37 [(0, .ref 146), (1, .int l1)] [] SH RHO u := by
  intro n
  induction n with
  | zero =>
    intro l1 u h
    exact nn_ h
  | succ n ih =>
    intro l1 u h
    exact bX12_wages_146_37 hX hR ih l1 u h
def FX12_wages_146_b29 (k2 : Int32 → Mem → Option Mem) (l1 : Int32) (u : Mem) : Option Mem :=
  k2 (l1 + 1) u
theorem bX12_wages_146_29 {G : Gt} {X : Xt} {u' : Mem} (hX : CxOk G X cX12_wages 2 RX12 (none, SH, RHO, u') 8) (hR : CxRet G X none (none, SH, RHO, u')) {k2 : Int32 → Mem → Option Mem} (hk2 : ∀ (l1 : Int32) (u : Mem), k2 l1 u = some u' → WM G X 2 [(0, .ref 146), (1, .int l1)] [] SH RHO u) (l1 : Int32) (u : Mem) (h : FX12_wages_146_b29 k2 l1 u = some u') : WM G X 29 [(0, .ref 146), (1, .int l1)] [] SH RHO u := by
  unfold FX12_wages_146_b29 at h
  refine w_iinc (lv' := [(1, .int (l1 + 1)), (0, .ref 146)]) 29 1 hX dX12_wages_29 rfl (inc_1 _) (by decide) rfl ?_
  refine w_goto (tgt := 2) 32 hX (by decide) dX12_wages_32 ?_
  exact w_sub [1, 0] rfl (hk2 (l1 + 1) u h)
def FX12_wages_146_b2 (k2 : Int32 → Mem → Option Mem) (l1 : Int32) (u : Mem) : Option Mem :=
  (if 2 ≤ l1 then (FX12_wages_146_L37 FU 0 u) else ((FX12_inField_146 l1 u).bind fun x2 => (rdA u 147 1786 (82 + l1)).bind fun x3 => (if x3 ≤ x2 then (FX12_wages_146_b29 k2 l1 u) else ((FX12_calls_146 l1 u).bind fun u6 => FX12_wages_146_b29 k2 l1 u6))))
theorem bX12_wages_146_2 {G : Gt} {X : Xt} {u' : Mem} (hX : CxOk G X cX12_wages 2 RX12 (none, SH, RHO, u') 8) (hR : CxRet G X none (none, SH, RHO, u')) {k2 : Int32 → Mem → Option Mem} (hk2 : ∀ (l1 : Int32) (u : Mem), k2 l1 u = some u' → WM G X 2 [(0, .ref 146), (1, .int l1)] [] SH RHO u) (l1 : Int32) (u : Mem) (h : FX12_wages_146_b2 k2 l1 u = some u') : WM G X 2 [(0, .ref 146), (1, .int l1)] [] SH RHO u := by
  unfold FX12_wages_146_b2 at h
  refine w_iload_n 1 2 hX rfl rfl dX12_wages_2 ?_
  refine w_iconst 2 3 hX ic_2 dX12_wages_3 ?_
  refine w_icmp_ge (tgt := 35) 4 hX dX12_wages_4 (by decide) (fun c1 => ?_) (fun c1 => ?_)
  · have h := it h c1
    refine w_iconst 0 35 hX ic_0 dX12_wages_35 ?_
    refine w_istore_n (lv' := [(1, .int 0), (0, .ref 146)]) 36 hX rfl dX12_wages_36 (by decide) rfl ?_
    exact w_sub [1, 0] rfl (lX12_wages_146_37 hX hR FU 0 u h)
  · have h := ie h c1
    refine w_aload_n 0 7 hX rfl rfl dX12_wages_7 ?_
    refine w_iload_n 1 8 hX rfl rfl dX12_wages_8 ?_
    obtain ⟨x2, gx2, h⟩ := o_bind h
    refine w_invVi (av := [.int l1]) (st := []) 9 hX CI_12 s_146 rfl mv_yX12_inField mi_yX12_inField ml_X12_385 (CX12_inField_146 l1 u gx2) rfl (by decide) (Nat.le_of_ble_eq_true rfl) (Nat.le_refl _) (Nat.le_refl _) dX12_wages_9 ?_
    refine w_aload_n 0 12 hX rfl rfl dX12_wages_12 ?_
    refine w_getR 13 hX CI_12 s_146 rfl r_146_0 fl_X12_7 rfl dX12_wages_13 ?_
    refine w_bipush 82 16 hX ib_82 dX12_wages_16 ?_
    refine w_iload_n 1 18 hX rfl rfl dX12_wages_18 ?_
    refine w_iadd 19 hX dX12_wages_19 ?_
    obtain ⟨x3, gx3, h⟩ := o_bind h
    refine w_iald 20 hX s_147 gx3 dX12_wages_20 ?_
    refine w_icmp_ge (tgt := 29) 21 hX dX12_wages_21 (by decide) (fun c4 => ?_) (fun c4 => ?_)
    · have h := it h c4
      exact bX12_wages_146_29 hX hR hk2 l1 u h
    · have h := ie h c4
      refine w_aload_n 0 24 hX rfl rfl dX12_wages_24 ?_
      refine w_iload_n 1 25 hX rfl rfl dX12_wages_25 ?_
      obtain ⟨u6, gu6, h⟩ := o_bind h
      refine w_invVv (av := [.int l1]) (st := []) 26 hX CI_12 s_146 rfl mv_yX12_calls mi_yX12_calls ml_X12_388 (CX12_calls_146 l1 u gu6) rfl (by decide) (Nat.le_of_ble_eq_true rfl) (Nat.le_refl _) (Nat.le_refl _) dX12_wages_26 ?_
      exact bX12_wages_146_29 hX hR hk2 l1 u6 h
def FX12_wages_146_L2 : Nat → Int32 → Mem → Option Mem
  | 0, _, _ => none
  | n + 1, l1, u => FX12_wages_146_b2 (FX12_wages_146_L2 n) l1 u
theorem lX12_wages_146_2 {G : Gt} {X : Xt} {u' : Mem} (hX : CxOk G X cX12_wages 2 RX12 (none, SH, RHO, u') 8) (hR : CxRet G X none (none, SH, RHO, u')) : ∀ (n : Nat) (l1 : Int32) (u : Mem), FX12_wages_146_L2 n l1 u = some u' → WM G X 2 [(0, .ref 146), (1, .int l1)] [] SH RHO u := by
  intro n
  induction n with
  | zero =>
    intro l1 u h
    exact nn_ h
  | succ n ih =>
    intro l1 u h
    exact bX12_wages_146_2 hX hR ih l1 u h
def FX12_wages_146 (u : Mem) : Option Mem :=
  FX12_wages_146_L2 FU 0 u
theorem CX12_wages_146 {G : Gt} (u : Mem) {u' : Mem} (h : FX12_wages_146 u = some u') : CT G yX12_wages cX12_wages 2 none 8 [.ref 146] SH RHO u (none, SH, RHO, u') :=
  ct_of (by decide) rfl (Nat.le_of_ble_eq_true rfl) (Nat.le_refl _) (Nat.le_refl _) (fun X hX hR => by
  unfold FX12_wages_146 at h
  refine w_iconst 0 0 hX ic_0 dX12_wages_0 ?_
  refine w_istore_n (lv' := [(1, .int 0), (0, .ref 146)]) 1 hX rfl dX12_wages_1 (by decide) rfl ?_
  exact w_sub [1, 0] rfl (lX12_wages_146_2 hX hR FU 0 u h))
def FX12_toldBy_146_b48 (k4 : Int32 → Int32 → Int32 → Mem → Option Int32) (l1 l2 l3 : Int32) (u : Mem) : Option Int32 :=
  k4 l1 l2 (l3 + 1) u
theorem bX12_toldBy_146_48 {G : Gt} {X : Xt} {v : Int32} {u : Mem} (hX : CxOk G X cX12_toldBy 4 RX12 (some (.int v), SH, RHO, u) 1) (hR : CxRet G X (some .int) (some (.int v), SH, RHO, u)) {k4 : Int32 → Int32 → Int32 → Mem → Option Int32} (hk4 : ∀ (l1 l2 l3 : Int32), k4 l1 l2 l3 u = some v → WM G X 4 [(0, .ref 146), (1, .int l1), (2, .int l2), (3, .int l3)] [] SH RHO u) (l1 l2 l3 : Int32) (h : FX12_toldBy_146_b48 k4 l1 l2 l3 u = some v) : WM G X 48 [(0, .ref 146), (1, .int l1), (2, .int l2), (3, .int l3)] [] SH RHO u := by
  unfold FX12_toldBy_146_b48 at h
  refine w_iinc (lv' := [(3, .int (l3 + 1)), (0, .ref 146), (1, .int l1), (2, .int l2)]) 48 3 hX dX12_toldBy_48 rfl (inc_1 _) (by decide) rfl ?_
  refine w_goto (tgt := 4) 51 hX (by decide) dX12_toldBy_51 ?_
  exact w_sub [1, 2, 3, 0] rfl (hk4 l1 l2 (l3 + 1) h)
def FX12_toldBy_146_b4 (k4 : Int32 → Int32 → Int32 → Mem → Option Int32) (l1 l2 l3 : Int32) (u : Mem) : Option Int32 :=
  (if (u 147 85) ≤ l3 then (some l2) else ((rdA u 147 1786 (158 + (2 * l3))).bind fun x2 => (if x2 = l1 then ((rdA u 147 1786 ((158 + (2 * l3)) + 1)).bind fun x4 => FX12_toldBy_146_b48 k4 l1 (l2 ||| x4) l3 u) else (FX12_toldBy_146_b48 k4 l1 l2 l3 u))))
theorem bX12_toldBy_146_4 {G : Gt} {X : Xt} {v : Int32} {u : Mem} (hX : CxOk G X cX12_toldBy 4 RX12 (some (.int v), SH, RHO, u) 1) (hR : CxRet G X (some .int) (some (.int v), SH, RHO, u)) {k4 : Int32 → Int32 → Int32 → Mem → Option Int32} (hk4 : ∀ (l1 l2 l3 : Int32), k4 l1 l2 l3 u = some v → WM G X 4 [(0, .ref 146), (1, .int l1), (2, .int l2), (3, .int l3)] [] SH RHO u) (l1 l2 l3 : Int32) (h : FX12_toldBy_146_b4 k4 l1 l2 l3 u = some v) : WM G X 4 [(0, .ref 146), (1, .int l1), (2, .int l2), (3, .int l3)] [] SH RHO u := by
  unfold FX12_toldBy_146_b4 at h
  refine w_iload_n 3 4 hX rfl rfl dX12_toldBy_4 ?_
  refine w_aload_n 0 5 hX rfl rfl dX12_toldBy_5 ?_
  refine w_getR 6 hX CI_12 s_146 rfl r_146_0 fl_X12_7 rfl dX12_toldBy_6 ?_
  refine w_bipush 85 9 hX ib_85 dX12_toldBy_9 ?_
  refine w_iald 11 hX s_147 (rdK 85 85 n_85 (by decide) (by decide)) dX12_toldBy_11 ?_
  refine w_icmp_ge (tgt := 54) 12 hX dX12_toldBy_12 (by decide) (fun c1 => ?_) (fun c1 => ?_)
  · have h := it h c1
    refine w_iload_n 2 54 hX rfl rfl dX12_toldBy_54 ?_
    exact w_iret 55 hX hR dX12_toldBy_55 (by cases h; rfl)
  · have h := ie h c1
    refine w_aload_n 0 15 hX rfl rfl dX12_toldBy_15 ?_
    refine w_getR 16 hX CI_12 s_146 rfl r_146_0 fl_X12_7 rfl dX12_toldBy_16 ?_
    refine w_sipush 158 19 hX isp_158 dX12_toldBy_19 ?_
    refine w_iconst 2 22 hX ic_2 dX12_toldBy_22 ?_
    refine w_iload_n 3 23 hX rfl rfl dX12_toldBy_23 ?_
    refine w_imul 24 hX dX12_toldBy_24 ?_
    refine w_iadd 25 hX dX12_toldBy_25 ?_
    obtain ⟨x2, gx2, h⟩ := o_bind h
    refine w_iald 26 hX s_147 gx2 dX12_toldBy_26 ?_
    refine w_iload_n 1 27 hX rfl rfl dX12_toldBy_27 ?_
    refine w_icmp_ne (tgt := 48) 28 hX dX12_toldBy_28 (by decide) (fun c3 => ?_) (fun c3 => ?_)
    · have h := ie h c3
      exact bX12_toldBy_146_48 hX hR hk4 l1 l2 l3 h
    · have h := it h c3
      refine w_iload_n 2 31 hX rfl rfl dX12_toldBy_31 ?_
      refine w_aload_n 0 32 hX rfl rfl dX12_toldBy_32 ?_
      refine w_getR 33 hX CI_12 s_146 rfl r_146_0 fl_X12_7 rfl dX12_toldBy_33 ?_
      refine w_sipush 158 36 hX isp_158 dX12_toldBy_36 ?_
      refine w_iconst 2 39 hX ic_2 dX12_toldBy_39 ?_
      refine w_iload_n 3 40 hX rfl rfl dX12_toldBy_40 ?_
      refine w_imul 41 hX dX12_toldBy_41 ?_
      refine w_iadd 42 hX dX12_toldBy_42 ?_
      refine w_iconst 1 43 hX ic_1 dX12_toldBy_43 ?_
      refine w_iadd 44 hX dX12_toldBy_44 ?_
      obtain ⟨x4, gx4, h⟩ := o_bind h
      refine w_iald 45 hX s_147 gx4 dX12_toldBy_45 ?_
      refine w_ior 46 hX dX12_toldBy_46 ?_
      refine w_istore_n (lv' := [(2, .int (l2 ||| x4)), (0, .ref 146), (1, .int l1), (3, .int l3)]) 47 hX rfl dX12_toldBy_47 (by decide) rfl ?_
      exact w_sub [1, 2, 0, 3] rfl (bX12_toldBy_146_48 hX hR hk4 l1 (l2 ||| x4) l3 h)
def FX12_toldBy_146_L4 : Nat → Int32 → Int32 → Int32 → Mem → Option Int32
  | 0, _, _, _, _ => none
  | n + 1, l1, l2, l3, u => FX12_toldBy_146_b4 (FX12_toldBy_146_L4 n) l1 l2 l3 u
theorem lX12_toldBy_146_4 {G : Gt} {X : Xt} {v : Int32} {u : Mem} (hX : CxOk G X cX12_toldBy 4 RX12 (some (.int v), SH, RHO, u) 1) (hR : CxRet G X (some .int) (some (.int v), SH, RHO, u)) : ∀ (n : Nat) (l1 l2 l3 : Int32), FX12_toldBy_146_L4 n l1 l2 l3 u = some v → WM G X 4 [(0, .ref 146), (1, .int l1), (2, .int l2), (3, .int l3)] [] SH RHO u := by
  intro n
  induction n with
  | zero =>
    intro l1 l2 l3 h
    exact nn_ h
  | succ n ih =>
    intro l1 l2 l3 h
    exact bX12_toldBy_146_4 hX hR ih l1 l2 l3 h
def FX12_toldBy_146 (p1 : Int32) (u : Mem) : Option Int32 :=
  FX12_toldBy_146_L4 FU p1 0 0 u
theorem CX12_toldBy_146 {G : Gt} (p1 : Int32) (u : Mem) {v : Int32} (h : FX12_toldBy_146 p1 u = some v) : CT G yX12_toldBy cX12_toldBy 4 (some .int) 1 [.ref 146, .int p1] SH RHO u (some (.int v), SH, RHO, u) :=
  ct_of (by decide) rfl (Nat.le_of_ble_eq_true rfl) (Nat.le_refl _) (Nat.le_refl _) (fun X hX hR => by
  unfold FX12_toldBy_146 at h
  refine w_iconst 0 0 hX ic_0 dX12_toldBy_0 ?_
  refine w_istore_n (lv' := [(2, .int 0), (0, .ref 146), (1, .int p1)]) 1 hX rfl dX12_toldBy_1 (by decide) rfl ?_
  refine w_iconst 0 2 hX ic_0 dX12_toldBy_2 ?_
  refine w_istore_n (lv' := [(3, .int 0), (2, .int 0), (0, .ref 146), (1, .int p1)]) 3 hX rfl dX12_toldBy_3 (by decide) rfl ?_
  exact w_sub [2, 3, 1, 0] rfl (lX12_toldBy_146_4 hX hR FU p1 0 0 h))
