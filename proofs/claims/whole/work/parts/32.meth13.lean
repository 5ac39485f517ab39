def FX12_march_146_b103 (l5 : Int32) (u : Mem) : Option Int32 :=
  some l5
theorem bX12_march_146_103 {G : Gt} {X : Xt} {v : Int32} {u : Mem} (hX : CxOk G X cX12_march 9 RX12 (some (.int v), SH, RHO, u) 3) (hR : CxRet G X (some .int) (some (.int v), SH, RHO, u)) (l5 : Int32) (h : FX12_march_146_b103 l5 u = some v) : WM G X 103 [(5, .int l5)] [] SH RHO u := by
  unfold FX12_march_146_b103 at h
  refine w_iload 0 103 hX rfl dX12_march_103 ?_
  refine w_goto (tgt := 114) 105 hX (by decide) dX12_march_105 ?_
  exact w_iret 114 hX hR dX12_march_114 (by cases h; rfl)
def FX12_march_146_b86 (k49 : Int32 → Int32 → Int32 → Int32 → Int32 → Int32 → Int32 → Mem → Option Int32) (l1 l2 l3 l4 l5 l6 l7 : Int32) (u : Mem) : Option Int32 :=
  k49 l1 l2 l3 l4 l5 l6 (l7 + 1) u
theorem bX12_march_146_86 {G : Gt} {X : Xt} {v : Int32} {u : Mem} (hX : CxOk G X cX12_march 9 RX12 (some (.int v), SH, RHO, u) 3) (hR : CxRet G X (some .int) (some (.int v), SH, RHO, u)) {k49 : Int32 → Int32 → Int32 → Int32 → Int32 → Int32 → Int32 → Mem → Option Int32} (hk49 : ∀ (l1 l2 l3 l4 l5 l6 l7 : Int32), k49 l1 l2 l3 l4 l5 l6 l7 u = some v → WM G X 49 [(0, .ref 146), (1, .int l1), (2, .int l2), (3, .int l3), (4, .int l4), (5, .int l5), (6, .int l6), (7, .int l7)] [] SH RHO u) (l1 l2 l3 l4 l5 l6 l7 : Int32) (h : FX12_march_146_b86 k49 l1 l2 l3 l4 l5 l6 l7 u = some v) : WM G X 86 [(0, .ref 146), (1, .int l1), (2, .int l2), (3, .int l3), (4, .int l4), (5, .int l5), (6, .int l6), (7, .int l7)] [] SH RHO u := by
  unfold FX12_march_146_b86 at h
  refine w_iinc (lv' := [(7, .int (l7 + 1)), (0, .ref 146), (1, .int l1), (2, .int l2), (3, .int l3), (4, .int l4), (5, .int l5), (6, .int l6)]) 86 7 hX dX12_march_86 rfl (inc_1 _) (by decide) rfl ?_
  refine w_goto (tgt := 49) 89 hX (by decide) dX12_march_89 ?_
  exact w_sub [1, 2, 3, 4, 5, 6, 7, 0] rfl (hk49 l1 l2 l3 l4 l5 l6 (l7 + 1) h)
def FX12_march_146_b49 (k49 : Int32 → Int32 → Int32 → Int32 → Int32 → Int32 → Int32 → Mem → Option Int32) (l1 l2 l3 l4 l5 l6 l7 : Int32) (u : Mem) : Option Int32 :=
  (if ((1 : Int32) <<< (l3 &&& 31)) ≤ l7 then ((if l5 = (-1) then (FX12_march_146_b103 l5 u) else ((if l4 = 0 then (FX12_march_146_b103 l5 u) else ((FX12_turned l6 l3).bind fun x4 => some x4))))) else ((FX12_marched_146 l1 l2 l3 l7 u).bind fun x5 => (if l5 < x5 then (FX12_march_146_b86 k49 l1 l2 l3 l4 x5 l7 l7 u) else (FX12_march_146_b86 k49 l1 l2 l3 l4 l5 l6 l7 u))))
theorem bX12_march_146_49 {G : Gt} {X : Xt} {v : Int32} {u : Mem} (hX : CxOk G X cX12_march 9 RX12 (some (.int v), SH, RHO, u) 3) (hR : CxRet G X (some .int) (some (.int v), SH, RHO, u)) {k49 : Int32 → Int32 → Int32 → Int32 → Int32 → Int32 → Int32 → Mem → Option Int32} (hk49 : ∀ (l1 l2 l3 l4 l5 l6 l7 : Int32), k49 l1 l2 l3 l4 l5 l6 l7 u = some v → WM G X 49 [(0, .ref 146), (1, .int l1), (2, .int l2), (3, .int l3), (4, .int l4), (5, .int l5), (6, .int l6), (7, .int l7)] [] SH RHO u) (l1 l2 l3 l4 l5 l6 l7 : Int32) (h : FX12_march_146_b49 k49 l1 l2 l3 l4 l5 l6 l7 u = some v) : WM G X 49 [(0, .ref 146), (1, .int l1), (2, .int l2), (3, .int l3), (4, .int l4), (5, .int l5), (6, .int l6), (7, .int l7)] [] SH RHO u := by
  unfold FX12_march_146_b49 at h
  refine w_iload 7 49 hX rfl dX12_march_49 ?_
  refine w_iconst 1 51 hX ic_1 dX12_march_51 ?_
  refine w_iload_n 3 52 hX rfl rfl dX12_march_52 ?_
  refine w_ishl 53 hX dX12_march_53 ?_
  refine w_icmp_ge (tgt := 92) 54 hX dX12_march_54 (by decide) (fun c1 => ?_) (fun c1 => ?_)
  · have h := it h c1
    refine w_iload 5 92 hX rfl dX12_march_92 ?_
    refine w_iconst (-1) 94 hX ic_m1 dX12_march_94 ?_
    refine w_icmp_eq (tgt := 103) 95 hX dX12_march_95 (by decide) (fun c2 => ?_) (fun c2 => ?_)
    · have h := it h c2
      exact w_sub [5] rfl (bX12_march_146_103 hX hR l5 h)
    · have h := ie h c2
      refine w_iload 4 98 hX rfl dX12_march_98 ?_
      refine w_if_ne (tgt := 108) 100 hX dX12_march_100 (by decide) (fun c3 => ?_) (fun c3 => ?_)
      · have h := ie h c3
        refine w_iload 6 108 hX rfl dX12_march_108 ?_
        refine w_iload_n 3 110 hX rfl rfl dX12_march_110 ?_
        obtain ⟨x4, gx4, h⟩ := o_bind h
        refine w_invSi (av := [.int l6, .int l3]) (st := []) 111 hX ms_yX12_turned mi_yX12_turned ml_X12_430 (CX12_turned l6 l3 u gx4) rfl (by decide) (Nat.le_of_ble_eq_true rfl) (Nat.le_refl _) (Nat.le_refl _) dX12_march_111 ?_
        exact w_iret 114 hX hR dX12_march_114 (by cases h; rfl)
      · have h := it h c3
        exact w_sub [5] rfl (bX12_march_146_103 hX hR l5 h)
  · have h := ie h c1
    refine w_aload_n 0 57 hX rfl rfl dX12_march_57 ?_
    refine w_iload_n 1 58 hX rfl rfl dX12_march_58 ?_
    refine w_iload_n 2 59 hX rfl rfl dX12_march_59 ?_
    refine w_iload_n 3 60 hX rfl rfl dX12_march_60 ?_
    refine w_iload 7 61 hX rfl dX12_march_61 ?_
    obtain ⟨x5, gx5, h⟩ := o_bind h
    refine w_invVi (av := [.int l1, .int l2, .int l3, .int l7]) (st := []) 63 hX CI_12 s_146 rfl mv_yX12_marched mi_yX12_marched ml_X12_427 (CX12_marched_146 l1 l2 l3 l7 u gx5) rfl (by decide) (Nat.le_of_ble_eq_true rfl) (Nat.le_refl _) (Nat.le_refl _) dX12_march_63 ?_
    refine w_istore (lv' := [(8, .int x5), (0, .ref 146), (1, .int l1), (2, .int l2), (3, .int l3), (4, .int l4), (5, .int l5), (6, .int l6), (7, .int l7)]) 66 hX dX12_march_66 (by decide) rfl ?_
    refine w_iload 0 68 hX rfl dX12_march_68 ?_
    refine w_iload 6 70 hX rfl dX12_march_70 ?_
    refine w_icmp_gt (tgt := 78) 72 hX dX12_march_72 (by decide) (fun c6 => ?_) (fun c6 => ?_)
    · have h := it h c6
      refine w_iload 0 78 hX rfl dX12_march_78 ?_
      refine w_istore (lv' := [(5, .int x5), (8, .int x5), (0, .ref 146), (1, .int l1), (2, .int l2), (3, .int l3), (4, .int l4), (6, .int l6), (7, .int l7)]) 80 hX dX12_march_80 (by decide) rfl ?_
      refine w_iload 8 82 hX rfl dX12_march_82 ?_
      refine w_istore (lv' := [(6, .int l7), (5, .int x5), (8, .int x5), (0, .ref 146), (1, .int l1), (2, .int l2), (3, .int l3), (4, .int l4), (7, .int l7)]) 84 hX dX12_march_84 (by decide) rfl ?_
      exact w_sub [3, 4, 5, 6, 7, 1, 0, 8] rfl (bX12_march_146_86 hX hR hk49 l1 l2 l3 l4 x5 l7 l7 h)
    · have h := ie h c6
      refine w_goto (tgt := 86) 75 hX (by decide) dX12_march_75 ?_
      exact w_sub [1, 2, 3, 4, 5, 6, 7, 8] rfl (bX12_march_146_86 hX hR hk49 l1 l2 l3 l4 l5 l6 l7 h)
def FX12_march_146_L49 : Nat → Int32 → Int32 → Int32 → Int32 → Int32 → Int32 → Int32 → Mem → Option Int32
  | 0, _, _, _, _, _, _, _, _ => none
  | n + 1, l1, l2, l3, l4, l5, l6, l7, u => FX12_march_146_b49 (FX12_march_146_L49 n) l1 l2 l3 l4 l5 l6 l7 u
theorem lX12_march_146_49 {G : Gt} {X : Xt} {v : Int32} {u : Mem} (hX : CxOk G X cX12_march 9 RX12 (some (.int v), SH, RHO, u) 3) (hR : CxRet G X (some .int) (some (.int v), SH, RHO, u)) : ∀ (n : Nat) (l1 l2 l3 l4 l5 l6 l7 : Int32), FX12_march_146_L49 n l1 l2 l3 l4 l5 l6 l7 u = some v → WM G X 49 [(0, .ref 146), (1, .int l1), (2, .int l2), (3, .int l3), (4, .int l4), (5, .int l5), (6, .int l6), (7, .int l7)] [] SH RHO u := by
  intro n
  induction n with
  | zero =>
    intro l1 l2 l3 l4 l5 l6 l7 h
    exact nn_ h
  | succ n ih =>
    intro l1 l2 l3 l4 l5 l6 l7 h
    exact bX12_march_146_49 hX hR ih l1 l2 l3 l4 l5 l6 l7 h
def FX12_march_146 (p1 p2 p3 p4 : Int32) (u : Mem) : Option Int32 :=
  (FX12_isMan_146 p1 u).bind fun x1 => (if x1 = 0 then (some (-1)) else ((FX12_isIn p2 0 15).bind fun x3 => (if x3 = 0 then (some (-1)) else ((FX12_isIn p3 1 12).bind fun x5 => (if x5 = 0 then (some (-1)) else ((FX12_isIn p4 0 1).bind fun x7 => (if x7 = 0 then (some (-1)) else (FX12_march_146_L49 FU p1 p2 p3 p4 (-1) (-1) 0 u))))))))
theorem CX12_march_146 {G : Gt} (p1 p2 p3 p4 : Int32) (u : Mem) {v : Int32} (h : FX12_march_146 p1 p2 p3 p4 u = some v) : CT G yX12_march cX12_march 9 (some .int) 3 [.ref 146, .int p1, .int p2, .int p3, .int p4] SH RHO u (some (.int v), SH, RHO, u) :=
  ct_of (by decide) rfl (Nat.le_of_ble_eq_true rfl) (Nat.le_refl _) (Nat.le_refl _) (fun X hX hR => by
  unfold FX12_march_146 at h
  refine w_aload_n 0 0 hX rfl rfl dX12_march_0 ?_
  refine w_iload_n 1 1 hX rfl rfl dX12_march_1 ?_
  obtain ⟨x1, gx1, h⟩ := o_bind h
  refine w_invVi (av := [.int p1]) (st := []) 2 hX CI_12 s_146 rfl mv_yX12_isMan mi_yX12_isMan ml_X12_70 (CX12_isMan_146 p1 u gx1) rfl (by decide) (Nat.le_of_ble_eq_true rfl) (Nat.le_refl _) (Nat.le_refl _) dX12_march_2 ?_
  refine w_if_eq (tgt := 38) 5 hX dX12_march_5 (by decide) (fun c2 => ?_) (fun c2 => ?_)
  · have h := it h c2
    refine w_iconst (-1) 38 hX ic_m1 dX12_march_38 ?_
    exact w_iret 39 hX hR dX12_march_39 (by cases h; rfl)
  · have h := ie h c2
    refine w_iload_n 2 8 hX rfl rfl dX12_march_8 ?_
    refine w_iconst 0 9 hX ic_0 dX12_march_9 ?_
    refine w_bipush 15 10 hX ib_15 dX12_march_10 ?_
    obtain ⟨x3, gx3, h⟩ := o_bind h
    refine w_invSi (av := [.int p2, .int 0, .int 15]) (st := []) 12 hX ms_yX12_isIn mi_yX12_isIn ml_X12_54 (CX12_isIn p2 0 15 u gx3) rfl (by decide) (Nat.le_of_ble_eq_true rfl) (Nat.le_refl _) (Nat.le_refl _) dX12_march_12 ?_
    refine w_if_eq (tgt := 38) 15 hX dX12_march_15 (by decide) (fun c4 => ?_) (fun c4 => ?_)
    · have h := it h c4
      refine w_iconst (-1) 38 hX ic_m1 dX12_march_38 ?_
      exact w_iret 39 hX hR dX12_march_39 (by cases h; rfl)
    · have h := ie h c4
      refine w_iload_n 3 18 hX rfl rfl dX12_march_18 ?_
      refine w_iconst 1 19 hX ic_1 dX12_march_19 ?_
      refine w_bipush 12 20 hX ib_12 dX12_march_20 ?_
      obtain ⟨x5, gx5, h⟩ := o_bind h
      refine w_invSi (av := [.int p3, .int 1, .int 12]) (st := []) 22 hX ms_yX12_isIn mi_yX12_isIn ml_X12_54 (CX12_isIn p3 1 12 u gx5) rfl (by decide) (Nat.le_of_ble_eq_true rfl) (Nat.le_refl _) (Nat.le_refl _) dX12_march_22 ?_
      refine w_if_eq (tgt := 38) 25 hX dX12_march_25 (by decide) (fun c6 => ?_) (fun c6 => ?_)
      · have h := it h c6
        refine w_iconst (-1) 38 hX ic_m1 dX12_march_38 ?_
        exact w_iret 39 hX hR dX12_march_39 (by cases h; rfl)
      · have h := ie h c6
        refine w_iload 4 28 hX rfl dX12_march_28 ?_
        refine w_iconst 0 30 hX ic_0 dX12_march_30 ?_
        refine w_iconst 1 31 hX ic_1 dX12_march_31 ?_
        obtain ⟨x7, gx7, h⟩ := o_bind h
        refine w_invSi (av := [.int p4, .int 0, .int 1]) (st := []) 32 hX ms_yX12_isIn mi_yX12_isIn ml_X12_54 (CX12_isIn p4 0 1 u gx7) rfl (by decide) (Nat.le_of_ble_eq_true rfl) (Nat.le_refl _) (Nat.le_refl _) dX12_march_32 ?_
        refine w_if_ne (tgt := 40) 35 hX dX12_march_35 (by decide) (fun c8 => ?_) (fun c8 => ?_)
        · have h := ie h c8
          refine w_iconst (-1) 40 hX ic_m1 dX12_march_40 ?_
          refine w_istore (lv' := [(5, .int (-1)), (0, .ref 146), (1, .int p1), (2, .int p2), (3, .int p3), (4, .int p4)]) 41 hX dX12_march_41 (by decide) rfl ?_
          refine w_iconst (-1) 43 hX ic_m1 dX12_march_43 ?_
          refine w_istore (lv' := [(6, .int (-1)), (5, .int (-1)), (0, .ref 146), (1, .int p1), (2, .int p2), (3, .int p3), (4, .int p4)]) 44 hX dX12_march_44 (by decide) rfl ?_
          refine w_iconst 0 46 hX ic_0 dX12_march_46 ?_
          refine w_istore (lv' := [(7, .int 0), (6, .int (-1)), (5, .int (-1)), (0, .ref 146), (1, .int p1), (2, .int p2), (3, .int p3), (4, .int p4)]) 47 hX dX12_march_47 (by decide) rfl ?_
          exact w_sub [3, 4, 5, 6, 7, 2, 1, 0] rfl (lX12_march_146_49 hX hR FU p1 p2 p3 p4 (-1) (-1) 0 h)
        · have h := it h c8
          refine w_iconst (-1) 38 hX ic_m1 dX12_march_38 ?_
          exact w_iret 39 hX hR dX12_march_39 (by cases h; rfl))
def FX7_gather_106_b141 (k12 : Int32 → Int32 → Mem → Option Mem) (l1 l2 : Int32) (u : Mem) : Option Mem :=
  k12 l1 (l2 + 1) u
theorem bX7_gather_106_141 {G : Gt} {X : Xt} {u' : Mem} (hX : CxOk G X cX7_gather 3 RX7 (none, SH, RHO, u') 1) (hR : CxRet G X none (none, SH, RHO, u')) {k12 : Int32 → Int32 → Mem → Option Mem} (hk12 : ∀ (l1 l2 : Int32) (u : Mem), k12 l1 l2 u = some u' → WM G X 12 [(0, .ref 106), (1, .int l1), (2, .int l2)] [] SH RHO u) (l1 l2 : Int32) (u : Mem) (h : FX7_gather_106_b141 k12 l1 l2 u = some u') : WM G X 141 [(0, .ref 106), (1, .int l1), (2, .int l2)] [] SH RHO u := by
  unfold FX7_gather_106_b141 at h
  refine w_iinc (lv' := [(2, .int (l2 + 1)), (0, .ref 106), (1, .int l1)]) 141 2 hX dX7_gather_141 rfl (inc_1 _) (by decide) rfl ?_
  refine w_goto (tgt := 12) 144 hX (by decide) dX7_gather_144 ?_
  exact w_sub [1, 2, 0] rfl (hk12 l1 (l2 + 1) u h)
def FX7_gather_106_b87 (k12 : Int32 → Int32 → Mem → Option Mem) (l1 l2 : Int32) (u : Mem) : Option Mem :=
  (rdA u 2 12 l2).bind fun x1 => (if x1 = l1 then ((rdA u 27 12 l2).bind fun x3 => (if x3 = 0 then ((if 12 ≤ (u 106 12) then (FX7_gather_106_b141 k12 l1 l2 u) else ((wrA u 111 12 (u 106 12) l2).bind fun u6 => (some (mupd u6 106 12 ((u6 106 12) + 1))).bind fun u7 => FX7_gather_106_b141 k12 l1 l2 u7))) else (FX7_gather_106_b141 k12 l1 l2 u))) else (FX7_gather_106_b141 k12 l1 l2 u))
theorem bX7_gather_106_87 {G : Gt} {X : Xt} {u' : Mem} (hX : CxOk G X cX7_gather 3 RX7 (none, SH, RHO, u') 1) (hR : CxRet G X none (none, SH, RHO, u')) {k12 : Int32 → Int32 → Mem → Option Mem} (hk12 : ∀ (l1 l2 : Int32) (u : Mem), k12 l1 l2 u = some u' → WM G X 12 [(0, .ref 106), (1, .int l1), (2, .int l2)] [] SH RHO u) (l1 l2 : Int32) (u : Mem) (h : FX7_gather_106_b87 k12 l1 l2 u = some u') : WM G X 87 [(0, .ref 106), (1, .int l1), (2, .int l2)] [] SH RHO u := by
  unfold FX7_gather_106_b87 at h
  refine w_aload_n 0 87 hX rfl rfl dX7_gather_87 ?_
  refine w_getR 88 hX CI_7 s_106 rfl r_106_0 fl_X7_36 rfl dX7_gather_88 ?_
  refine w_getR 91 hX CI_9 s_1 rfl r_1_1 fl_X7_120 rfl dX7_gather_91 ?_
  refine w_iload_n 2 94 hX rfl rfl dX7_gather_94 ?_
  obtain ⟨x1, gx1, h⟩ := o_bind h
  refine w_iald 95 hX s_2 gx1 dX7_gather_95 ?_
  refine w_iload_n 1 96 hX rfl rfl dX7_gather_96 ?_
  refine w_icmp_ne (tgt := 141) 97 hX dX7_gather_97 (by decide) (fun c2 => ?_) (fun c2 => ?_)
  · have h := ie h c2
    exact bX7_gather_106_141 hX hR hk12 l1 l2 u h
  · have h := it h c2
    refine w_aload_n 0 100 hX rfl rfl dX7_gather_100 ?_
    refine w_getR 101 hX CI_7 s_106 rfl r_106_1 fl_X7_40 rfl dX7_gather_101 ?_
    refine w_getR 104 hX CI_0 s_23 rfl r_23_3 fl_X7_123 rfl dX7_gather_104 ?_
    refine w_iload_n 2 107 hX rfl rfl dX7_gather_107 ?_
    obtain ⟨x3, gx3, h⟩ := o_bind h
    refine w_iald 108 hX s_27 gx3 dX7_gather_108 ?_
    refine w_if_ne (tgt := 141) 109 hX dX7_gather_109 (by decide) (fun c4 => ?_) (fun c4 => ?_)
    · have h := ie h c4
      exact bX7_gather_106_141 hX hR hk12 l1 l2 u h
    · have h := it h c4
      refine w_aload_n 0 112 hX rfl rfl dX7_gather_112 ?_
      refine w_getI (j := 12) 113 hX CI_7 s_106 rfl fl_X7_117 rfl dX7_gather_113 ?_
      refine w_bipush 12 116 hX ib_12 dX7_gather_116 ?_
      refine w_icmp_ge (tgt := 141) 118 hX dX7_gather_118 (by decide) (fun c5 => ?_) (fun c5 => ?_)
      · have h := it h c5
        exact bX7_gather_106_141 hX hR hk12 l1 l2 u h
      · have h := ie h c5
        refine w_aload_n 0 121 hX rfl rfl dX7_gather_121 ?_
        refine w_getR 122 hX CI_7 s_106 rfl r_106_7 fl_X7_24 rfl dX7_gather_122 ?_
        refine w_aload_n 0 125 hX rfl rfl dX7_gather_125 ?_
        refine w_getI (j := 12) 126 hX CI_7 s_106 rfl fl_X7_117 rfl dX7_gather_126 ?_
        refine w_iload_n 2 129 hX rfl rfl dX7_gather_129 ?_
        obtain ⟨u6, gu6, h⟩ := o_bind h
        refine w_iast 130 hX s_111 gu6 dX7_gather_130 ?_
        refine w_aload_n 0 131 hX rfl rfl dX7_gather_131 ?_
        refine w_dup 132 hX rfl dX7_gather_132 ?_
        refine w_getI (j := 12) 133 hX CI_7 s_106 rfl fl_X7_117 rfl dX7_gather_133 ?_
        refine w_iconst 1 136 hX ic_1 dX7_gather_136 ?_
        refine w_iadd 137 hX dX7_gather_137 ?_
        obtain ⟨u7, gu7, h⟩ := o_bind h
        refine w_putI (j := 12) 138 hX CI_7 s_106 rfl fl_X7_117 rfl rfl rfl rfl dX7_gather_138 ?_
        rw [Option.some.inj gu7]
        exact bX7_gather_106_141 hX hR hk12 l1 l2 u7 h
def FX7_gather_106_b12 (k12 : Int32 → Int32 → Mem → Option Mem) (l1 l2 : Int32) (u : Mem) : Option Mem :=
  (if 12 ≤ l2 then (some u) else ((if (u 1 0) ≤ l2 then (some u) else ((rdA u 2 12 l2).bind fun x3 => (if x3 = l1 then ((rdA u 27 12 l2).bind fun x5 => (if x5 = 1 then ((if 12 ≤ (u 106 11) then (FX7_gather_106_b87 k12 l1 l2 u) else ((wrA u 110 12 (u 106 11) l2).bind fun u8 => (some (mupd u8 106 11 ((u8 106 11) + 1))).bind fun u9 => FX7_gather_106_b141 k12 l1 l2 u9))) else (FX7_gather_106_b87 k12 l1 l2 u))) else (FX7_gather_106_b87 k12 l1 l2 u))))))
theorem bX7_gather_106_12 {G : Gt} {X : Xt} {u' : Mem} (hX : CxOk G X cX7_gather 3 RX7 (none, SH, RHO, u') 1) (hR : CxRet G X none (none, SH, RHO, u')) {k12 : Int32 → Int32 → Mem → Option Mem} (hk12 : ∀ (l1 l2 : Int32) (u : Mem), k12 l1 l2 u = some u' → WM G X 12 [(0, .ref 106), (1, .int l1), (2, .int l2)] [] SH RHO u) (l1 l2 : Int32) (u : Mem) (h : FX7_gather_106_b12 k12 l1 l2 u = some u') : WM G X 12 [(0, .ref 106), (1, .int l1), (2, .int l2)] [] SH RHO u := by
  unfold FX7_gather_106_b12 at h
  refine w_iload_n 2 12 hX rfl rfl dX7_gather_12 ?_
  refine w_bipush 12 13 hX ib_12 dX7_gather_13 ?_
  refine w_icmp_ge (tgt := 147) 15 hX dX7_gather_15 (by decide) (fun c1 => ?_) (fun c1 => ?_)
  · have h := it h c1
    exact w_vret 147 hX hR dX7_gather_147 (by cases h; rfl)
  · have h := ie h c1
    refine w_iload_n 2 18 hX rfl rfl dX7_gather_18 ?_
    refine w_aload_n 0 19 hX rfl rfl dX7_gather_19 ?_
    refine w_getR 20 hX CI_7 s_106 rfl r_106_0 fl_X7_36 rfl dX7_gather_20 ?_
    refine w_getI (j := 0) 23 hX CI_9 s_1 rfl fl_X7_48 rfl dX7_gather_23 ?_
    refine w_icmp_ge (tgt := 147) 26 hX dX7_gather_26 (by decide) (fun c2 => ?_) (fun c2 => ?_)
    · have h := it h c2
      exact w_vret 147 hX hR dX7_gather_147 (by cases h; rfl)
    · have h := ie h c2
      refine w_aload_n 0 29 hX rfl rfl dX7_gather_29 ?_
      refine w_getR 30 hX CI_7 s_106 rfl r_106_0 fl_X7_36 rfl dX7_gather_30 ?_
      refine w_getR 33 hX CI_9 s_1 rfl r_1_1 fl_X7_120 rfl dX7_gather_33 ?_
      refine w_iload_n 2 36 hX rfl rfl dX7_gather_36 ?_
      obtain ⟨x3, gx3, h⟩ := o_bind h
      refine w_iald 37 hX s_2 gx3 dX7_gather_37 ?_
      refine w_iload_n 1 38 hX rfl rfl dX7_gather_38 ?_
      refine w_icmp_ne (tgt := 87) 39 hX dX7_gather_39 (by decide) (fun c4 => ?_) (fun c4 => ?_)
      · have h := ie h c4
        exact bX7_gather_106_87 hX hR hk12 l1 l2 u h
      · have h := it h c4
        refine w_aload_n 0 42 hX rfl rfl dX7_gather_42 ?_
        refine w_getR 43 hX CI_7 s_106 rfl r_106_1 fl_X7_40 rfl dX7_gather_43 ?_
        refine w_getR 46 hX CI_0 s_23 rfl r_23_3 fl_X7_123 rfl dX7_gather_46 ?_
        refine w_iload_n 2 49 hX rfl rfl dX7_gather_49 ?_
        obtain ⟨x5, gx5, h⟩ := o_bind h
        refine w_iald 50 hX s_27 gx5 dX7_gather_50 ?_
        refine w_iconst 1 51 hX ic_1 dX7_gather_51 ?_
        refine w_icmp_ne (tgt := 87) 52 hX dX7_gather_52 (by decide) (fun c6 => ?_) (fun c6 => ?_)
        · have h := ie h c6
          exact bX7_gather_106_87 hX hR hk12 l1 l2 u h
        · have h := it h c6
          refine w_aload_n 0 55 hX rfl rfl dX7_gather_55 ?_
          refine w_getI (j := 11) 56 hX CI_7 s_106 rfl fl_X7_114 rfl dX7_gather_56 ?_
          refine w_bipush 12 59 hX ib_12 dX7_gather_59 ?_
          refine w_icmp_ge (tgt := 87) 61 hX dX7_gather_61 (by decide) (fun c7 => ?_) (fun c7 => ?_)
          · have h := it h c7
            exact bX7_gather_106_87 hX hR hk12 l1 l2 u h
          · have h := ie h c7
            refine w_aload_n 0 64 hX rfl rfl dX7_gather_64 ?_
            refine w_getR 65 hX CI_7 s_106 rfl r_106_6 fl_X7_21 rfl dX7_gather_65 ?_
            refine w_aload_n 0 68 hX rfl rfl dX7_gather_68 ?_
            refine w_getI (j := 11) 69 hX CI_7 s_106 rfl fl_X7_114 rfl dX7_gather_69 ?_
            refine w_iload_n 2 72 hX rfl rfl dX7_gather_72 ?_
            obtain ⟨u8, gu8, h⟩ := o_bind h
            refine w_iast 73 hX s_110 gu8 dX7_gather_73 ?_
            refine w_aload_n 0 74 hX rfl rfl dX7_gather_74 ?_
            refine w_dup 75 hX rfl dX7_gather_75 ?_
            refine w_getI (j := 11) 76 hX CI_7 s_106 rfl fl_X7_114 rfl dX7_gather_76 ?_
            refine w_iconst 1 79 hX ic_1 dX7_gather_79 ?_
            refine w_iadd 80 hX dX7_gather_80 ?_
            obtain ⟨u9, gu9, h⟩ := o_bind h
            refine w_putI (j := 11) 81 hX CI_7 s_106 rfl fl_X7_114 rfl rfl rfl rfl dX7_gather_81 ?_
            rw [Option.some.inj gu9]
            refine w_goto (tgt := 141) 84 hX (by decide) dX7_gather_84 ?_
            exact bX7_gather_106_141 hX hR hk12 l1 l2 u9 h
def FX7_gather_106_L12 : Nat → Int32 → Int32 → Mem → Option Mem
  | 0, _, _, _ => none
  | n + 1, l1, l2, u => FX7_gather_106_b12 (FX7_gather_106_L12 n) l1 l2 u
theorem lX7_gather_106_12 {G : Gt} {X : Xt} {u' : Mem} (hX : CxOk G X cX7_gather 3 RX7 (none, SH, RHO, u') 1) (hR : CxRet G X none (none, SH, RHO, u')) : ∀ (n : Nat) (l1 l2 : Int32) (u : Mem), FX7_gather_106_L12 n l1 l2 u = some u' → WM G X 12 [(0, .ref 106), (1, .int l1), (2, .int l2)] [] SH RHO u := by
  intro n
  induction n with
  | zero =>
    intro l1 l2 u h
    exact nn_ h
  | succ n ih =>
    intro l1 l2 u h
    exact bX7_gather_106_12 hX hR ih l1 l2 u h
def FX7_gather_106 (p1 : Int32) (u : Mem) : Option Mem :=
  (some (mupd u 106 11 0)).bind fun u1 => (some (mupd u1 106 12 0)).bind fun u2 => FX7_gather_106_L12 FU p1 0 u2
theorem CX7_gather_106 {G : Gt} (p1 : Int32) (u : Mem) {u' : Mem} (h : FX7_gather_106 p1 u = some u') : CT G yX7_gather cX7_gather 3 none 1 [.ref 106, .int p1] SH RHO u (none, SH, RHO, u') :=
  ct_of (by decide) rfl (Nat.le_of_ble_eq_true rfl) (Nat.le_refl _) (Nat.le_refl _) (fun X hX hR => by
  unfold FX7_gather_106 at h
  refine w_aload_n 0 0 hX rfl rfl dX7_gather_0 ?_
  refine w_iconst 0 1 hX ic_0 dX7_gather_1 ?_
  obtain ⟨u1, gu1, h⟩ := o_bind h
  refine w_putI (j := 11) 2 hX CI_7 s_106 rfl fl_X7_114 rfl rfl rfl rfl dX7_gather_2 ?_
  rw [Option.some.inj gu1]
  refine w_aload_n 0 5 hX rfl rfl dX7_gather_5 ?_
  refine w_iconst 0 6 hX ic_0 dX7_gather_6 ?_
  obtain ⟨u2, gu2, h⟩ := o_bind h
  refine w_putI (j := 12) 7 hX CI_7 s_106 rfl fl_X7_117 rfl rfl rfl rfl dX7_gather_7 ?_
  rw [Option.some.inj gu2]
  refine w_iconst 0 10 hX ic_0 dX7_gather_10 ?_
  refine w_istore_n (lv' := [(2, .int 0), (0, .ref 106), (1, .int p1)]) 11 hX rfl dX7_gather_11 (by decide) rfl ?_
  exact w_sub [1, 2, 0] rfl (lX7_gather_106_12 hX hR FU p1 0 u2 h))
def FX7_way_106 (p1 p2 : Int32) (u : Mem) : Option Int32 :=
  (if (u 106 11) ≤ p1 then (some 0) else ((if ((p1 <<< ((u 106 12) &&& 31)) + p2) < 0 then (some 0) else ((if ((p1 <<< ((u 106 12) &&& 31)) + p2) < 4096 then ((rdA u 113 4096 ((p1 <<< ((u 106 12) &&& 31)) + p2)).bind fun x4 => some x4) else (some 0))))))
theorem CX7_way_106 {G : Gt} (p1 p2 : Int32) (u : Mem) {v : Int32} (h : FX7_way_106 p1 p2 u = some v) : CT G yX7_way cX7_way 4 (some .int) 1 [.ref 106, .int p1, .int p2] SH RHO u (some (.int v), SH, RHO, u) :=
  ct_of (by decide) rfl (Nat.le_of_ble_eq_true rfl) (Nat.le_refl _) (Nat.le_refl _) (fun X hX hR => by
  unfold FX7_way_106 at h
  refine w_iload_n 1 0 hX rfl rfl dX7_way_0 ?_
  refine w_aload_n 0 1 hX rfl rfl dX7_way_1 ?_
  refine w_getI (j := 12) 2 hX CI_7 s_106 rfl fl_X7_117 rfl dX7_way_2 ?_
  refine w_ishl 5 hX dX7_way_5 ?_
  refine w_iload_n 2 6 hX rfl rfl dX7_way_6 ?_
  refine w_iadd 7 hX dX7_way_7 ?_
  refine w_istore_n (lv' := [(3, .int ((p1 <<< ((u 106 12) &&& 31)) + p2)), (0, .ref 106), (1, .int p1), (2, .int p2)]) 8 hX rfl dX7_way_8 (by decide) rfl ?_
  refine w_iload_n 2 9 hX rfl rfl dX7_way_9 ?_
  refine w_aload_n 1 10 hX rfl rfl dX7_way_10 ?_
  refine w_getI (j := 11) 11 hX CI_7 s_106 rfl fl_X7_114 rfl dX7_way_11 ?_
  refine w_icmp_ge (tgt := 30) 14 hX dX7_way_14 (by decide) (fun c1 => ?_) (fun c1 => ?_)
  · have h := it h c1
    refine w_iconst 0 30 hX ic_0 dX7_way_30 ?_
    refine w_goto (tgt := 40) 31 hX (by decide) dX7_way_31 ?_
    exact w_iret 40 hX hR dX7_way_40 (by cases h; rfl)
  · have h := ie h c1
    refine w_iload_n 0 17 hX rfl rfl dX7_way_17 ?_
    refine w_if_lt (tgt := 30) 18 hX dX7_way_18 (by decide) (fun c2 => ?_) (fun c2 => ?_)
    · have h := it h c2
      refine w_iconst 0 30 hX ic_0 dX7_way_30 ?_
      refine w_goto (tgt := 40) 31 hX (by decide) dX7_way_31 ?_
      exact w_iret 40 hX hR dX7_way_40 (by cases h; rfl)
    · have h := ie h c2
      refine w_iload_n 0 21 hX rfl rfl dX7_way_21 ?_
      refine w_aload_n 1 22 hX rfl rfl dX7_way_22 ?_
      refine w_getR 23 hX CI_7 s_106 rfl r_106_9 fl_X7_30 rfl dX7_way_23 ?_
      refine w_alen 4096 26 hX s_113 (by decide) dX7_way_26 ?_
      refine w_icmp_lt (tgt := 34) 27 hX dX7_way_27 (by decide) (fun c3 => ?_) (fun c3 => ?_)
      · have h := it h c3
        refine w_aload_n 1 34 hX rfl rfl dX7_way_34 ?_
        refine w_getR 35 hX CI_7 s_106 rfl r_106_9 fl_X7_30 rfl dX7_way_35 ?_
        refine w_iload_n 0 38 hX rfl rfl dX7_way_38 ?_
        obtain ⟨x4, gx4, h⟩ := o_bind h
        refine w_iald 39 hX s_113 gx4 dX7_way_39 ?_
        exact w_iret 40 hX hR dX7_way_40 (by cases h; rfl)
      · have h := ie h c3
        refine w_iconst 0 30 hX ic_0 dX7_way_30 ?_
        refine w_goto (tgt := 40) 31 hX (by decide) dX7_way_31 ?_
        exact w_iret 40 hX hR dX7_way_40 (by cases h; rfl))
def FX9_ageOf_1 (p1 : Int32) (u : Mem) : Option Int32 :=
  (FX9_hasMan_1 p1 u).bind fun x1 => (if x1 = 0 then (some (-1)) else ((rdA u 3 12 p1).bind fun x3 => some x3))
theorem CX9_ageOf_1 {G : Gt} (p1 : Int32) (u : Mem) {v : Int32} (h : FX9_ageOf_1 p1 u = some v) : CT G yX9_ageOf cX9_ageOf 2 (some .int) 2 [.ref 1, .int p1] SH RHO u (some (.int v), SH, RHO, u) :=
  ct_of (by decide) rfl (Nat.le_of_ble_eq_true rfl) (Nat.le_refl _) (Nat.le_refl _) (fun X hX hR => by
  unfold FX9_ageOf_1 at h
  refine w_aload_n 0 0 hX rfl rfl dX9_ageOf_0 ?_
  refine w_iload_n 1 1 hX rfl rfl dX9_ageOf_1 ?_
  obtain ⟨x1, gx1, h⟩ := o_bind h
  refine w_invVi (av := [.int p1]) (st := []) 2 hX CI_9 s_1 rfl mv_yX9_hasMan mi_yX9_hasMan ml_X9_87 (CX9_hasMan_1 p1 u gx1) rfl (by decide) (Nat.le_of_ble_eq_true rfl) (Nat.le_refl _) (Nat.le_refl _) dX9_ageOf_2 ?_
  refine w_if_eq (tgt := 17) 5 hX dX9_ageOf_5 (by decide) (fun c2 => ?_) (fun c2 => ?_)
  · have h := it h c2
    refine w_iconst (-1) 17 hX ic_m1 dX9_ageOf_17 ?_
    exact w_iret 18 hX hR dX9_ageOf_18 (by cases h; rfl)
  · have h := ie h c2
    refine w_aload_n 0 8 hX rfl rfl dX9_ageOf_8 ?_
    refine w_getR 9 hX CI_9 s_1 rfl r_1_2 fl_X9_15 rfl dX9_ageOf_9 ?_
    refine w_iload_n 1 12 hX rfl rfl dX9_ageOf_12 ?_
    obtain ⟨x3, gx3, h⟩ := o_bind h
    refine w_iald 13 hX s_3 gx3 dX9_ageOf_13 ?_
    refine w_goto (tgt := 18) 14 hX (by decide) dX9_ageOf_14 ?_
    exact w_iret 18 hX hR dX9_ageOf_18 (by cases h; rfl))
def FX7_worth_106 (p1 p2 : Int32) (u : Mem) : Option Int32 :=
  (if p1 < 0 then (some 0) else ((if (u 106 11) ≤ p1 then (some 0) else ((if 12 ≤ p1 then (some 0) else ((if p2 < 0 then (some 0) else ((if (u 106 12) ≤ p2 then (some 0) else ((if p2 < 12 then ((rdA u 111 12 p2).bind fun x7 => (FX9_ageOf_1 x7 u).bind fun x8 => (rdA u 110 12 p1).bind fun x9 => (FX9_ageOf_1 x9 u).bind fun x10 => (if (x8 - x10) ≤ 0 then (some 0) else (some (10000 - (x8 - x10))))) else (some 0))))))))))))
theorem CX7_worth_106 {G : Gt} (p1 p2 : Int32) (u : Mem) {v : Int32} (h : FX7_worth_106 p1 p2 u = some v) : CT G yX7_worth cX7_worth 4 (some .int) 3 [.ref 106, .int p1, .int p2] SH RHO u (some (.int v), SH, RHO, u) :=
  ct_of (by decide) rfl (Nat.le_of_ble_eq_true rfl) (Nat.le_refl _) (Nat.le_refl _) (fun X hX hR => by
  unfold FX7_worth_106 at h
  refine w_iload_n 1 0 hX rfl rfl dX7_worth_0 ?_
  refine w_if_lt (tgt := 36) 1 hX dX7_worth_1 (by decide) (fun c1 => ?_) (fun c1 => ?_)
  · have h := it h c1
    refine w_iconst 0 36 hX ic_0 dX7_worth_36 ?_
    exact w_iret 37 hX hR dX7_worth_37 (by cases h; rfl)
  · have h := ie h c1
    refine w_iload_n 1 4 hX rfl rfl dX7_worth_4 ?_
    refine w_aload_n 0 5 hX rfl rfl dX7_worth_5 ?_
    refine w_getI (j := 11) 6 hX CI_7 s_106 rfl fl_X7_114 rfl dX7_worth_6 ?_
    refine w_icmp_ge (tgt := 36) 9 hX dX7_worth_9 (by decide) (fun c2 => ?_) (fun c2 => ?_)
    · have h := it h c2
      refine w_iconst 0 36 hX ic_0 dX7_worth_36 ?_
      exact w_iret 37 hX hR dX7_worth_37 (by cases h; rfl)
    · have h := ie h c2
      refine w_iload_n 1 12 hX rfl rfl dX7_worth_12 ?_
      refine w_bipush 12 13 hX ib_12 dX7_worth_13 ?_
      refine w_icmp_ge (tgt := 36) 15 hX dX7_worth_15 (by decide) (fun c3 => ?_) (fun c3 => ?_)
      · have h := it h c3
        refine w_iconst 0 36 hX ic_0 dX7_worth_36 ?_
        exact w_iret 37 hX hR dX7_worth_37 (by cases h; rfl)
      · have h := ie h c3
        refine w_iload_n 2 18 hX rfl rfl dX7_worth_18 ?_
        refine w_if_lt (tgt := 36) 19 hX dX7_worth_19 (by decide) (fun c4 => ?_) (fun c4 => ?_)
        · have h := it h c4
          refine w_iconst 0 36 hX ic_0 dX7_worth_36 ?_
          exact w_iret 37 hX hR dX7_worth_37 (by cases h; rfl)
        · have h := ie h c4
          refine w_iload_n 2 22 hX rfl rfl dX7_worth_22 ?_
          refine w_aload_n 0 23 hX rfl rfl dX7_worth_23 ?_
          refine w_getI (j := 12) 24 hX CI_7 s_106 rfl fl_X7_117 rfl dX7_worth_24 ?_
          refine w_icmp_ge (tgt := 36) 27 hX dX7_worth_27 (by decide) (fun c5 => ?_) (fun c5 => ?_)
          · have h := it h c5
            refine w_iconst 0 36 hX ic_0 dX7_worth_36 ?_
            exact w_iret 37 hX hR dX7_worth_37 (by cases h; rfl)
          · have h := ie h c5
            refine w_iload_n 2 30 hX rfl rfl dX7_worth_30 ?_
            refine w_bipush 12 31 hX ib_12 dX7_worth_31 ?_
            refine w_icmp_lt (tgt := 38) 33 hX dX7_worth_33 (by decide) (fun c6 => ?_) (fun c6 => ?_)
            · have h := it h c6
              refine w_aload_n 0 38 hX rfl rfl dX7_worth_38 ?_
              refine w_getR 39 hX CI_7 s_106 rfl r_106_0 fl_X7_36 rfl dX7_worth_39 ?_
              refine w_aload_n 0 42 hX rfl rfl dX7_worth_42 ?_
              refine w_getR 43 hX CI_7 s_106 rfl r_106_7 fl_X7_24 rfl dX7_worth_43 ?_
              refine w_iload_n 2 46 hX rfl rfl dX7_worth_46 ?_
              obtain ⟨x7, gx7, h⟩ := o_bind h
              refine w_iald 47 hX s_111 gx7 dX7_worth_47 ?_
              obtain ⟨x8, gx8, h⟩ := o_bind h
              refine w_invVi (av := [.int x7]) (st := []) 48 hX CI_9 s_1 rfl mv_yX9_ageOf mi_yX9_ageOf ml_X7_126 (CX9_ageOf_1 x7 u gx8) rfl (by decide) (Nat.le_of_ble_eq_true rfl) (Nat.le_refl _) (Nat.le_refl _) dX7_worth_48 ?_
              refine w_aload_n 0 51 hX rfl rfl dX7_worth_51 ?_
              refine w_getR 52 hX CI_7 s_106 rfl r_106_0 fl_X7_36 rfl dX7_worth_52 ?_
              refine w_aload_n 0 55 hX rfl rfl dX7_worth_55 ?_
              refine w_getR 56 hX CI_7 s_106 rfl r_106_6 fl_X7_21 rfl dX7_worth_56 ?_
              refine w_iload_n 1 59 hX rfl rfl dX7_worth_59 ?_
              obtain ⟨x9, gx9, h⟩ := o_bind h
              refine w_iald 60 hX s_110 gx9 dX7_worth_60 ?_
              obtain ⟨x10, gx10, h⟩ := o_bind h
              refine w_invVi (av := [.int x9]) (st := [.int x8]) 61 hX CI_9 s_1 rfl mv_yX9_ageOf mi_yX9_ageOf ml_X7_126 (CX9_ageOf_1 x9 u gx10) rfl (by decide) (Nat.le_of_ble_eq_true rfl) (Nat.le_refl _) (Nat.le_refl _) dX7_worth_61 ?_
              refine w_isub 64 hX dX7_worth_64 ?_
              refine w_istore_n (lv' := [(3, .int (x8 - x10)), (0, .ref 106), (1, .int p1), (2, .int p2)]) 65 hX rfl dX7_worth_65 (by decide) rfl ?_
              refine w_iload_n 0 66 hX rfl rfl dX7_worth_66 ?_
              refine w_if_le (tgt := 78) 67 hX dX7_worth_67 (by decide) (fun c11 => ?_) (fun c11 => ?_)
              · have h := it h c11
                refine w_iconst 0 78 hX ic_0 dX7_worth_78 ?_
                exact w_iret 79 hX hR dX7_worth_79 (by cases h; rfl)
              · have h := ie h c11
                refine w_sipush 10000 70 hX isp_10000 dX7_worth_70 ?_
                refine w_iload_n 0 73 hX rfl rfl dX7_worth_73 ?_
                refine w_isub 74 hX dX7_worth_74 ?_
                refine w_goto (tgt := 79) 75 hX (by decide) dX7_worth_75 ?_
                exact w_iret 79 hX hR dX7_worth_79 (by rw [← Option.some.inj h])
            · have h := ie h c6
              refine w_iconst 0 36 hX ic_0 dX7_worth_36 ?_
              exact w_iret 37 hX hR dX7_worth_37 (by cases h; rfl))
def FX7_weighWays_106_b135 (k13 : Int32 → Int32 → Mem → Option Mem) (l1 l2 : Int32) (u : Mem) : Option Mem :=
  k13 l1 (l2 + 1) u
theorem bX7_weighWays_106_135 {G : Gt} {X : Xt} {u' : Mem} (hX : CxOk G X cX7_weighWays 6 RX7 (none, SH, RHO, u') 4) (hR : CxRet G X none (none, SH, RHO, u')) {k13 : Int32 → Int32 → Mem → Option Mem} (hk13 : ∀ (l1 l2 : Int32) (u : Mem), k13 l1 l2 u = some u' → WM G X 13 [(0, .ref 106), (1, .int l1), (2, .int l2)] [] SH RHO u) (l1 l2 : Int32) (u : Mem) (h : FX7_weighWays_106_b135 k13 l1 l2 u = some u') : WM G X 135 [(0, .ref 106), (1, .int l1), (2, .int l2)] [] SH RHO u := by
  unfold FX7_weighWays_106_b135 at h
  refine w_iinc (lv' := [(2, .int (l2 + 1)), (0, .ref 106), (1, .int l1)]) 135 2 hX dX7_weighWays_135 rfl (inc_1 _) (by decide) rfl ?_
  refine w_goto (tgt := 13) 138 hX (by decide) dX7_weighWays_138 ?_
  exact w_sub [1, 2, 0] rfl (hk13 l1 (l2 + 1) u h)
def FX7_weighWays_106_b95 (k35 : Int32 → Int32 → Int32 → Int32 → Mem → Option Mem) (l1 l2 l4 t0 : Int32) (u : Mem) : Option Mem :=
  k35 l1 l2 t0 (l4 + 1) u
theorem bX7_weighWays_106_95 {G : Gt} {X : Xt} {u' : Mem} (hX : CxOk G X cX7_weighWays 6 RX7 (none, SH, RHO, u') 4) (hR : CxRet G X none (none, SH, RHO, u')) {k35 : Int32 → Int32 → Int32 → Int32 → Mem → Option Mem} (hk35 : ∀ (l1 l2 l3 l4 : Int32) (u : Mem), k35 l1 l2 l3 l4 u = some u' → WM G X 35 [(0, .ref 106), (1, .int l1), (2, .int l2), (3, .int l3), (4, .int l4)] [] SH RHO u) (l1 l2 l4 t0 : Int32) (u : Mem) (h : FX7_weighWays_106_b95 k35 l1 l2 l4 t0 u = some u') : WM G X 95 [(0, .ref 106), (1, .int l1), (2, .int l2), (4, .int l4)] [.int t0] SH RHO u := by
  unfold FX7_weighWays_106_b95 at h
  refine w_istore_n (lv' := [(3, .int t0), (0, .ref 106), (1, .int l1), (2, .int l2), (4, .int l4)]) 95 hX rfl dX7_weighWays_95 (by decide) rfl ?_
  refine w_iinc (lv' := [(4, .int (l4 + 1)), (3, .int t0), (0, .ref 106), (1, .int l1), (2, .int l2)]) 96 4 hX dX7_weighWays_96 rfl (inc_1 _) (by decide) rfl ?_
  refine w_goto (tgt := 35) 99 hX (by decide) dX7_weighWays_99 ?_
  exact w_sub [2, 3, 4, 1, 0] rfl (hk35 l1 l2 t0 (l4 + 1) u h)
def FX7_weighWays_106_b64 (k35 : Int32 → Int32 → Int32 → Int32 → Mem → Option Mem) (l1 l2 l3 l4 t0 : Int32) (u : Mem) : Option Mem :=
  (if t0 = 0 then (FX7_weighWays_106_b95 k35 l1 l2 l4 l3 u) else ((FX7_way_106 (l1 + 1) (l2 ||| ((1 : Int32) <<< (l4 &&& 31))) u).bind fun x2 => FX7_weighWays_106_b95 k35 l1 l2 l4 (if l3 < (t0 + x2) then (t0 + x2) else l3) u))
theorem bX7_weighWays_106_64 {G : Gt} {X : Xt} {u' : Mem} (hX : CxOk G X cX7_weighWays 6 RX7 (none, SH, RHO, u') 4) (hR : CxRet G X none (none, SH, RHO, u')) {k35 : Int32 → Int32 → Int32 → Int32 → Mem → Option Mem} (hk35 : ∀ (l1 l2 l3 l4 : Int32) (u : Mem), k35 l1 l2 l3 l4 u = some u' → WM G X 35 [(0, .ref 106), (1, .int l1), (2, .int l2), (3, .int l3), (4, .int l4)] [] SH RHO u) (l1 l2 l3 l4 t0 : Int32) (u : Mem) (h : FX7_weighWays_106_b64 k35 l1 l2 l3 l4 t0 u = some u') : WM G X 64 [(0, .ref 106), (1, .int l1), (2, .int l2), (3, .int l3), (4, .int l4)] [.int t0] SH RHO u := by
  unfold FX7_weighWays_106_b64 at h
  refine w_istore (lv' := [(5, .int t0), (0, .ref 106), (1, .int l1), (2, .int l2), (3, .int l3), (4, .int l4)]) 64 hX dX7_weighWays_64 (by decide) rfl ?_
  refine w_iload 0 66 hX rfl dX7_weighWays_66 ?_
  refine w_if_ne (tgt := 75) 68 hX dX7_weighWays_68 (by decide) (fun c1 => ?_) (fun c1 => ?_)
  · have h := ie h c1
    refine w_iload_n 4 75 hX rfl rfl dX7_weighWays_75 ?_
    refine w_iload 0 76 hX rfl dX7_weighWays_76 ?_
    refine w_aload_n 1 78 hX rfl rfl dX7_weighWays_78 ?_
    refine w_iload_n 2 79 hX rfl rfl dX7_weighWays_79 ?_
    refine w_iconst 1 80 hX ic_1 dX7_weighWays_80 ?_
    refine w_iadd 81 hX dX7_weighWays_81 ?_
    refine w_iload_n 3 82 hX rfl rfl dX7_weighWays_82 ?_
    refine w_iconst 1 83 hX ic_1 dX7_weighWays_83 ?_
    refine w_iload 5 84 hX rfl dX7_weighWays_84 ?_
    refine w_ishl 86 hX dX7_weighWays_86 ?_
    refine w_ior 87 hX dX7_weighWays_87 ?_
    obtain ⟨x2, gx2, h⟩ := o_bind h
    refine w_invVi (av := [.int (l1 + 1), .int (l2 ||| ((1 : Int32) <<< (l4 &&& 31)))]) (st := [.int t0, .int l3]) 88 hX CI_7 s_106 rfl mv_yX7_way mi_yX7_way ml_X7_129 (CX7_way_106 (l1 + 1) (l2 ||| ((1 : Int32) <<< (l4 &&& 31))) u gx2) rfl (by decide) (Nat.le_of_ble_eq_true rfl) (Nat.le_refl _) (Nat.le_refl _) dX7_weighWays_88 ?_
    refine w_iadd 91 hX dX7_weighWays_91 ?_
    refine w_max 92 hX ml_X7_135 jm_max_s jm_i jm_max_c (by decide) (Nat.le_of_ble_eq_true rfl) (Nat.le_refl _) (Nat.le_refl _) dX7_weighWays_92 ?_
    exact w_sub [1, 2, 3, 5] rfl (bX7_weighWays_106_95 hX hR hk35 l1 l2 l4 (if l3 < (t0 + x2) then (t0 + x2) else l3) u h)
  · have h := it h c1
    refine w_iload_n 4 71 hX rfl rfl dX7_weighWays_71 ?_
    refine w_goto (tgt := 95) 72 hX (by decide) dX7_weighWays_72 ?_
    exact w_sub [1, 2, 3, 5] rfl (bX7_weighWays_106_95 hX hR hk35 l1 l2 l4 l3 u h)
def FX7_weighWays_106_b35 (k13 : Int32 → Int32 → Mem → Option Mem) (k35 : Int32 → Int32 → Int32 → Int32 → Mem → Option Mem) (l1 l2 l3 l4 : Int32) (u : Mem) : Option Mem :=
  (if (u 106 12) ≤ l4 then ((if ((l1 <<< ((u 106 12) &&& 31)) + l2) < 0 then (FX7_weighWays_106_b135 k13 l1 l2 u) else ((if 4096 ≤ ((l1 <<< ((u 106 12) &&& 31)) + l2) then (FX7_weighWays_106_b135 k13 l1 l2 u) else ((wrA u 113 4096 ((l1 <<< ((u 106 12) &&& 31)) + l2) l3).bind fun u4 => FX7_weighWays_106_b135 k13 l1 l2 u4))))) else ((FX11_holds l2 l4).bind fun x5 => (if x5 = 0 then ((FX7_worth_106 l1 l4 u).bind fun x7 => FX7_weighWays_106_b64 k35 l1 l2 l3 l4 x7 u) else (FX7_weighWays_106_b64 k35 l1 l2 l3 l4 0 u))))
theorem bX7_weighWays_106_35 {G : Gt} {X : Xt} {u' : Mem} (hX : CxOk G X cX7_weighWays 6 RX7 (none, SH, RHO, u') 4) (hR : CxRet G X none (none, SH, RHO, u')) {k13 : Int32 → Int32 → Mem → Option Mem} (hk13 : ∀ (l1 l2 : Int32) (u : Mem), k13 l1 l2 u = some u' → WM G X 13 [(0, .ref 106), (1, .int l1), (2, .int l2)] [] SH RHO u) {k35 : Int32 → Int32 → Int32 → Int32 → Mem → Option Mem} (hk35 : ∀ (l1 l2 l3 l4 : Int32) (u : Mem), k35 l1 l2 l3 l4 u = some u' → WM G X 35 [(0, .ref 106), (1, .int l1), (2, .int l2), (3, .int l3), (4, .int l4)] [] SH RHO u) (l1 l2 l3 l4 : Int32) (u : Mem) (h : FX7_weighWays_106_b35 k13 k35 l1 l2 l3 l4 u = some u') : WM G X 35 [(0, .ref 106), (1, .int l1), (2, .int l2), (3, .int l3), (4, .int l4)] [] SH RHO u := by
  unfold FX7_weighWays_106_b35 at h
  refine w_iload 4 35 hX rfl dX7_weighWays_35 ?_
  refine w_aload_n 0 37 hX rfl rfl dX7_weighWays_37 ?_
  refine w_getI (j := 12) 38 hX CI_7 s_106 rfl fl_X7_117 rfl dX7_weighWays_38 ?_
  refine w_icmp_ge (tgt := 102) 41 hX dX7_weighWays_41 (by decide) (fun c1 => ?_) (fun c1 => ?_)
  · have h := it h c1
    refine w_iload_n 1 102 hX rfl rfl dX7_weighWays_102 ?_
    refine w_aload_n 0 103 hX rfl rfl dX7_weighWays_103 ?_
    refine w_getI (j := 12) 104 hX CI_7 s_106 rfl fl_X7_117 rfl dX7_weighWays_104 ?_
    refine w_ishl 107 hX dX7_weighWays_107 ?_
    refine w_iload_n 2 108 hX rfl rfl dX7_weighWays_108 ?_
    refine w_iadd 109 hX dX7_weighWays_109 ?_
    refine w_istore (lv' := [(4, .int ((l1 <<< ((u 106 12) &&& 31)) + l2)), (0, .ref 106), (1, .int l1), (2, .int l2), (3, .int l3)]) 110 hX dX7_weighWays_110 (by decide) rfl ?_
    refine w_iload 0 112 hX rfl dX7_weighWays_112 ?_
    refine w_if_lt (tgt := 135) 114 hX dX7_weighWays_114 (by decide) (fun c2 => ?_) (fun c2 => ?_)
    · have h := it h c2
      exact w_sub [1, 2, 3] rfl (bX7_weighWays_106_135 hX hR hk13 l1 l2 u h)
    · have h := ie h c2
      refine w_iload 0 117 hX rfl dX7_weighWays_117 ?_
      refine w_aload_n 1 119 hX rfl rfl dX7_weighWays_119 ?_
      refine w_getR 120 hX CI_7 s_106 rfl r_106_9 fl_X7_30 rfl dX7_weighWays_120 ?_
      refine w_alen 4096 123 hX s_113 (by decide) dX7_weighWays_123 ?_
      refine w_icmp_ge (tgt := 135) 124 hX dX7_weighWays_124 (by decide) (fun c3 => ?_) (fun c3 => ?_)
      · have h := it h c3
        exact w_sub [1, 2, 3] rfl (bX7_weighWays_106_135 hX hR hk13 l1 l2 u h)
      · have h := ie h c3
        refine w_aload_n 1 127 hX rfl rfl dX7_weighWays_127 ?_
        refine w_getR 128 hX CI_7 s_106 rfl r_106_9 fl_X7_30 rfl dX7_weighWays_128 ?_
        refine w_iload 0 131 hX rfl dX7_weighWays_131 ?_
        refine w_iload_n 4 133 hX rfl rfl dX7_weighWays_133 ?_
        obtain ⟨u4, gu4, h⟩ := o_bind h
        refine w_iast 134 hX s_113 gu4 dX7_weighWays_134 ?_
        exact w_sub [1, 2, 3] rfl (bX7_weighWays_106_135 hX hR hk13 l1 l2 u4 h)
  · have h := ie h c1
    refine w_iload_n 2 44 hX rfl rfl dX7_weighWays_44 ?_
    refine w_iload 4 45 hX rfl dX7_weighWays_45 ?_
    obtain ⟨x5, gx5, h⟩ := o_bind h
    refine w_invSNi (av := [.int l2, .int l4]) (st := []) 47 hX ms_yX11_holds mi_yX11_holds ml_X7_59 (CX11_holds l2 l4 u gx5) rfl (by decide) (Nat.le_of_ble_eq_true rfl) (Nat.le_refl _) (Nat.le_refl _) dX7_weighWays_47 ?_
    refine w_if_eq (tgt := 57) 50 hX dX7_weighWays_50 (by decide) (fun c6 => ?_) (fun c6 => ?_)
    · have h := it h c6
      refine w_aload_n 0 57 hX rfl rfl dX7_weighWays_57 ?_
      refine w_iload_n 1 58 hX rfl rfl dX7_weighWays_58 ?_
      refine w_iload 4 59 hX rfl dX7_weighWays_59 ?_
      obtain ⟨x7, gx7, h⟩ := o_bind h
      refine w_invVi (av := [.int l1, .int l4]) (st := []) 61 hX CI_7 s_106 rfl mv_yX7_worth mi_yX7_worth ml_X7_132 (CX7_worth_106 l1 l4 u gx7) rfl (by decide) (Nat.le_of_ble_eq_true rfl) (Nat.le_refl _) (Nat.le_refl _) dX7_weighWays_61 ?_
      exact bX7_weighWays_106_64 hX hR hk35 l1 l2 l3 l4 x7 u h
    · have h := ie h c6
      refine w_iconst 0 53 hX ic_0 dX7_weighWays_53 ?_
      refine w_goto (tgt := 64) 54 hX (by decide) dX7_weighWays_54 ?_
      exact bX7_weighWays_106_64 hX hR hk35 l1 l2 l3 l4 0 u h
def FX7_weighWays_106_L35 (k13 : Int32 → Int32 → Mem → Option Mem) : Nat → Int32 → Int32 → Int32 → Int32 → Mem → Option Mem
  | 0, _, _, _, _, _ => none
  | n + 1, l1, l2, l3, l4, u => FX7_weighWays_106_b35 k13 (FX7_weighWays_106_L35 k13 n) l1 l2 l3 l4 u
theorem lX7_weighWays_106_35 {G : Gt} {X : Xt} {u' : Mem} (hX : CxOk G X cX7_weighWays 6 RX7 (none, SH, RHO, u') 4) (hR : CxRet G X none (none, SH, RHO, u')) {k13 : Int32 → Int32 → Mem → Option Mem} (hk13 : ∀ (l1 l2 : Int32) (u : Mem), k13 l1 l2 u = some u' → WM G X 13 [(0, .ref 106), (1, .int l1), (2, .int l2)] [] SH RHO u) : ∀ (n : Nat) (l1 l2 l3 l4 : Int32) (u : Mem), FX7_weighWays_106_L35 k13 n l1 l2 l3 l4 u = some u' → WM G X 35 [(0, .ref 106), (1, .int l1), (2, .int l2), (3, .int l3), (4, .int l4)] [] SH RHO u := by
  intro n
  induction n with
  | zero =>
    intro l1 l2 l3 l4 u h
    exact nn_ h
  | succ n ih =>
    intro l1 l2 l3 l4 u h
    exact bX7_weighWays_106_35 hX hR hk13 ih l1 l2 l3 l4 u h
def FX7_weighWays_106_b13 (k7 : Int32 → Mem → Option Mem) (k13 : Int32 → Int32 → Mem → Option Mem) (l1 l2 : Int32) (u : Mem) : Option Mem :=
  (if ((1 : Int32) <<< ((u 106 12) &&& 31)) ≤ l2 then (k7 (l1 + (-1)) u) else ((FX7_way_106 (l1 + 1) l2 u).bind fun x2 => FX7_weighWays_106_L35 k13 FU l1 l2 x2 0 u))
theorem bX7_weighWays_106_13 {G : Gt} {X : Xt} {u' : Mem} (hX : CxOk G X cX7_weighWays 6 RX7 (none, SH, RHO, u') 4) (hR : CxRet G X none (none, SH, RHO, u')) {k7 : Int32 → Mem → Option Mem} (hk7 : ∀ (l1 : Int32) (u : Mem), k7 l1 u = some u' → WM G X 7 [(0, .ref 106), (1, .int l1)] [] SH RHO u) {k13 : Int32 → Int32 → Mem → Option Mem} (hk13 : ∀ (l1 l2 : Int32) (u : Mem), k13 l1 l2 u = some u' → WM G X 13 [(0, .ref 106), (1, .int l1), (2, .int l2)] [] SH RHO u) (l1 l2 : Int32) (u : Mem) (h : FX7_weighWays_106_b13 k7 k13 l1 l2 u = some u') : WM G X 13 [(0, .ref 106), (1, .int l1), (2, .int l2)] [] SH RHO u := by
  unfold FX7_weighWays_106_b13 at h
  refine w_iload_n 2 13 hX rfl rfl dX7_weighWays_13 ?_
  refine w_iconst 1 14 hX ic_1 dX7_weighWays_14 ?_
  refine w_aload_n 0 15 hX rfl rfl dX7_weighWays_15 ?_
  refine w_getI (j := 12) 16 hX CI_7 s_106 rfl fl_X7_117 rfl dX7_weighWays_16 ?_
  refine w_ishl 19 hX dX7_weighWays_19 ?_
  refine w_icmp_ge (tgt := 141) 20 hX dX7_weighWays_20 (by decide) (fun c1 => ?_) (fun c1 => ?_)
  · have h := it h c1
    refine w_iinc (lv' := [(1, .int (l1 + (-1))), (0, .ref 106), (2, .int l2)]) 141 1 hX dX7_weighWays_141 rfl (inc_m1 _) (by decide) rfl ?_
    refine w_goto (tgt := 7) 144 hX (by decide) dX7_weighWays_144 ?_
    exact w_sub [1, 0] rfl (hk7 (l1 + (-1)) u h)
  · have h := ie h c1
    refine w_aload_n 0 23 hX rfl rfl dX7_weighWays_23 ?_
    refine w_iload_n 1 24 hX rfl rfl dX7_weighWays_24 ?_
    refine w_iconst 1 25 hX ic_1 dX7_weighWays_25 ?_
    refine w_iadd 26 hX dX7_weighWays_26 ?_
    refine w_iload_n 2 27 hX rfl rfl dX7_weighWays_27 ?_
    obtain ⟨x2, gx2, h⟩ := o_bind h
    refine w_invVi (av := [.int (l1 + 1), .int l2]) (st := []) 28 hX CI_7 s_106 rfl mv_yX7_way mi_yX7_way ml_X7_129 (CX7_way_106 (l1 + 1) l2 u gx2) rfl (by decide) (Nat.le_of_ble_eq_true rfl) (Nat.le_refl _) (Nat.le_refl _) dX7_weighWays_28 ?_
    refine w_istore_n (lv' := [(3, .int x2), (0, .ref 106), (1, .int l1), (2, .int l2)]) 31 hX rfl dX7_weighWays_31 (by decide) rfl ?_
    refine w_iconst 0 32 hX ic_0 dX7_weighWays_32 ?_
    refine w_istore (lv' := [(4, .int 0), (3, .int x2), (0, .ref 106), (1, .int l1), (2, .int l2)]) 33 hX dX7_weighWays_33 (by decide) rfl ?_
    exact w_sub [2, 3, 4, 1, 0] rfl (lX7_weighWays_106_35 hX hR hk13 FU l1 l2 x2 0 u h)
def FX7_weighWays_106_L13 (k7 : Int32 → Mem → Option Mem) : Nat → Int32 → Int32 → Mem → Option Mem
  | 0, _, _, _ => none
  | n + 1, l1, l2, u => FX7_weighWays_106_b13 k7 (FX7_weighWays_106_L13 k7 n) l1 l2 u
theorem lX7_weighWays_106_13 {G : Gt} {X : Xt} {u' : Mem} (hX : CxOk G X cX7_weighWays 6 RX7 (none, SH, RHO, u') 4) (hR : CxRet G X none (none, SH, RHO, u')) {k7 : Int32 → Mem → Option Mem} (hk7 : ∀ (l1 : Int32) (u : Mem), k7 l1 u = some u' → WM G X 7 [(0, .ref 106), (1, .int l1)] [] SH RHO u) : ∀ (n : Nat) (l1 l2 : Int32) (u : Mem), FX7_weighWays_106_L13 k7 n l1 l2 u = some u' → WM G X 13 [(0, .ref 106), (1, .int l1), (2, .int l2)] [] SH RHO u := by
  intro n
  induction n with
  | zero =>
    intro l1 l2 u h
    exact nn_ h
  | succ n ih =>
    intro l1 l2 u h
    exact bX7_weighWays_106_13 hX hR hk7 ih l1 l2 u h
def FX7_weighWays_106_b7 (k7 : Int32 → Mem → Option Mem) (l1 : Int32) (u : Mem) : Option Mem :=
  (if l1 < 0 then (some u) else (FX7_weighWays_106_L13 k7 FU l1 0 u))
theorem bX7_weighWays_106_7 {G : Gt} {X : Xt} {u' : Mem} (hX : CxOk G X cX7_weighWays 6 RX7 (none, SH, RHO, u') 4) (hR : CxRet G X none (none, SH, RHO, u')) {k7 : Int32 → Mem → Option Mem} (hk7 : ∀ (l1 : Int32) (u : Mem), k7 l1 u = some u' → WM G X 7 [(0, .ref 106), (1, .int l1)] [] SH RHO u) (l1 : Int32) (u : Mem) (h : FX7_weighWays_106_b7 k7 l1 u = some u') : WM G X 7 [(0, .ref 106), (1, .int l1)] [] SH RHO u := by
  unfold FX7_weighWays_106_b7 at h
  refine w_iload_n 1 7 hX rfl rfl dX7_weighWays_7 ?_
  refine w_if_lt (tgt := 147) 8 hX dX7_weighWays_8 (by decide) (fun c1 => ?_) (fun c1 => ?_)
  · have h := it h c1
    exact w_vret 147 hX hR dX7_weighWays_147 (by cases h; rfl)
  · have h := ie h c1
    refine w_iconst 0 11 hX ic_0 dX7_weighWays_11 ?_
    refine w_istore_n (lv' := [(2, .int 0), (0, .ref 106), (1, .int l1)]) 12 hX rfl dX7_weighWays_12 (by decide) rfl ?_
    exact w_sub [1, 2, 0] rfl (lX7_weighWays_106_13 hX hR hk7 FU l1 0 u h)
def FX7_weighWays_106_L7 : Nat → Int32 → Mem → Option Mem
  | 0, _, _ => none
  | n + 1, l1, u => FX7_weighWays_106_b7 (FX7_weighWays_106_L7 n) l1 u
theorem lX7_weighWays_106_7 {G : Gt} {X : Xt} {u' : Mem} (hX : CxOk G X cX7_weighWays 6 RX7 (none, SH, RHO, u') 4) (hR : CxRet G X none (none, SH, RHO, u')) : ∀ (n : Nat) (l1 : Int32) (u : Mem), FX7_weighWays_106_L7 n l1 u = some u' → WM G X 7 [(0, .ref 106), (1, .int l1)] [] SH RHO u := by
  intro n
  induction n with
  | zero =>
    intro l1 u h
    exact nn_ h
  | succ n ih =>
    intro l1 u h
    exact bX7_weighWays_106_7 hX hR ih l1 u h
def FX7_weighWays_106 (u : Mem) : Option Mem :=
  FX7_weighWays_106_L7 FU ((u 106 11) - 1) u
theorem CX7_weighWays_106 {G : Gt} (u : Mem) {u' : Mem} (h : FX7_weighWays_106 u = some u') : CT G yX7_weighWays cX7_weighWays 6 none 4 [.ref 106] SH RHO u (none, SH, RHO, u') :=
  ct_of (by decide) rfl (Nat.le_of_ble_eq_true rfl) (Nat.le_refl _) (Nat.le_refl _) (fun X hX hR => by
  unfold FX7_weighWays_106 at h
  refine w_aload_n 0 0 hX rfl rfl dX7_weighWays_0 ?_
  refine w_getI (j := 11) 1 hX CI_7 s_106 rfl fl_X7_114 rfl dX7_weighWays_1 ?_
  refine w_iconst 1 4 hX ic_1 dX7_weighWays_4 ?_
  refine w_isub 5 hX dX7_weighWays_5 ?_
  refine w_istore_n (lv' := [(1, .int ((u 106 11) - 1)), (0, .ref 106)]) 6 hX rfl dX7_weighWays_6 (by decide) rfl ?_
  exact w_sub [1, 0] rfl (lX7_weighWays_106_7 hX hR FU ((u 106 11) - 1) u h))
def FJ7_fill_53178_112_b5 (k5 : Int32 → Int32 → Int32 → Mem → Option Mem) (l1 l2 l3 : Int32) (u : Mem) : Option Mem :=
  (if l3 ≤ l2 then (some u) else ((wrA u 112 12 l2 l1).bind fun u2 => k5 l1 (l2 + 1) l3 u2))
theorem bJ7_fill_53178_112_5 {G : Gt} {X : Xt} {u' : Mem} (hX : CxOk G X cJ7_fill_53178 4 RJ7 (none, SH, RHO, u') 1) (hR : CxRet G X none (none, SH, RHO, u')) {k5 : Int32 → Int32 → Int32 → Mem → Option Mem} (hk5 : ∀ (l1 l2 l3 : Int32) (u : Mem), k5 l1 l2 l3 u = some u' → WM G X 5 [(0, .ref 112), (1, .int l1), (2, .int l2), (3, .int l3)] [] SH RHO u) (l1 l2 l3 : Int32) (u : Mem) (h : FJ7_fill_53178_112_b5 k5 l1 l2 l3 u = some u') : WM G X 5 [(0, .ref 112), (1, .int l1), (2, .int l2), (3, .int l3)] [] SH RHO u := by
  unfold FJ7_fill_53178_112_b5 at h
  refine w_iload_n 2 5 hX rfl rfl dJ7_fill_53178_5 ?_
  refine w_iload_n 3 6 hX rfl rfl dJ7_fill_53178_6 ?_
  refine w_icmp_ge (tgt := 20) 7 hX dJ7_fill_53178_7 (by decide) (fun c1 => ?_) (fun c1 => ?_)
  · have h := it h c1
    exact w_vret 20 hX hR dJ7_fill_53178_20 (by cases h; rfl)
  · have h := ie h c1
    refine w_aload_n 0 10 hX rfl rfl dJ7_fill_53178_10 ?_
    refine w_iload_n 2 11 hX rfl rfl dJ7_fill_53178_11 ?_
    refine w_iload_n 1 12 hX rfl rfl dJ7_fill_53178_12 ?_
    obtain ⟨u2, gu2, h⟩ := o_bind h
    refine w_iast 13 hX s_112 gu2 dJ7_fill_53178_13 ?_
    refine w_iinc (lv' := [(2, .int (l2 + 1)), (0, .ref 112), (1, .int l1), (3, .int l3)]) 14 2 hX dJ7_fill_53178_14 rfl (inc_1 _) (by decide) rfl ?_
    refine w_goto (tgt := 5) 17 hX (by decide) dJ7_fill_53178_17 ?_
    exact w_sub [1, 2, 0, 3] rfl (hk5 l1 (l2 + 1) l3 u2 h)
def FJ7_fill_53178_112_L5 : Nat → Int32 → Int32 → Int32 → Mem → Option Mem
  | 0, _, _, _, _ => none
  | n + 1, l1, l2, l3, u => FJ7_fill_53178_112_b5 (FJ7_fill_53178_112_L5 n) l1 l2 l3 u
theorem lJ7_fill_53178_112_5 {G : Gt} {X : Xt} {u' : Mem} (hX : CxOk G X cJ7_fill_53178 4 RJ7 (none, SH, RHO, u') 1) (hR : CxRet G X none (none, SH, RHO, u')) : ∀ (n : Nat) (l1 l2 l3 : Int32) (u : Mem), FJ7_fill_53178_112_L5 n l1 l2 l3 u = some u' → WM G X 5 [(0, .ref 112), (1, .int l1), (2, .int l2), (3, .int l3)] [] SH RHO u := by
  intro n
  induction n with
  | zero =>
    intro l1 l2 l3 u h
    exact nn_ h
  | succ n ih =>
    intro l1 l2 l3 u h
    exact bJ7_fill_53178_112_5 hX hR ih l1 l2 l3 u h
def FJ7_fill_53178_112 (p1 : Int32) (u : Mem) : Option Mem :=
  FJ7_fill_53178_112_L5 FU p1 0 12 u
theorem CJ7_fill_53178_112 {G : Gt} (p1 : Int32) (u : Mem) {u' : Mem} (h : FJ7_fill_53178_112 p1 u = some u') : CT G yJ7_fill_53178 cJ7_fill_53178 4 none 1 [.ref 112, .int p1] SH RHO u (none, SH, RHO, u') :=
  ct_of (by decide) rfl (Nat.le_of_ble_eq_true rfl) (Nat.le_refl _) (Nat.le_refl _) (fun X hX hR => by
  unfold FJ7_fill_53178_112 at h
  refine w_iconst 0 0 hX ic_0 dJ7_fill_53178_0 ?_
  refine w_istore_n (lv' := [(2, .int 0), (0, .ref 112), (1, .int p1)]) 1 hX rfl dJ7_fill_53178_1 (by decide) rfl ?_
  refine w_aload_n 1 2 hX rfl rfl dJ7_fill_53178_2 ?_
  refine w_alen 12 3 hX s_112 (by decide) dJ7_fill_53178_3 ?_
  refine w_istore_n (lv' := [(3, .int 12), (2, .int 0), (0, .ref 112), (1, .int p1)]) 4 hX rfl dJ7_fill_53178_4 (by decide) rfl ?_
  exact w_sub [2, 3, 1, 0] rfl (lJ7_fill_53178_112_5 hX hR FU p1 0 12 u h))
def FX7_goerFor_106_b2 (k2 : Int32 → Int32 → Mem → Option Int32) (l1 l2 : Int32) (u : Mem) : Option Int32 :=
  (if (u 106 11) ≤ l2 then (some (-1)) else ((if 12 ≤ l2 then (some (-1)) else ((rdA u 110 12 l2).bind fun x3 => (if x3 = l1 then ((rdA u 112 12 l2).bind fun x5 => some x5) else (k2 l1 (l2 + 1) u))))))
theorem bX7_goerFor_106_2 {G : Gt} {X : Xt} {v : Int32} {u : Mem} (hX : CxOk G X cX7_goerFor 3 RX7 (some (.int v), SH, RHO, u) 1) (hR : CxRet G X (some .int) (some (.int v), SH, RHO, u)) {k2 : Int32 → Int32 → Mem → Option Int32} (hk2 : ∀ (l1 l2 : Int32), k2 l1 l2 u = some v → WM G X 2 [(0, .ref 106), (1, .int l1), (2, .int l2)] [] SH RHO u) (l1 l2 : Int32) (h : FX7_goerFor_106_b2 k2 l1 l2 u = some v) : WM G X 2 [(0, .ref 106), (1, .int l1), (2, .int l2)] [] SH RHO u := by
  unfold FX7_goerFor_106_b2 at h
  refine w_iload_n 2 2 hX rfl rfl dX7_goerFor_2 ?_
  refine w_aload_n 0 3 hX rfl rfl dX7_goerFor_3 ?_
  refine w_getI (j := 11) 4 hX CI_7 s_106 rfl fl_X7_114 rfl dX7_goerFor_4 ?_
  refine w_icmp_ge (tgt := 39) 7 hX dX7_goerFor_7 (by decide) (fun c1 => ?_) (fun c1 => ?_)
  · have h := it h c1
    refine w_iconst (-1) 39 hX ic_m1 dX7_goerFor_39 ?_
    exact w_iret 40 hX hR dX7_goerFor_40 (by cases h; rfl)
  · have h := ie h c1
    refine w_iload_n 2 10 hX rfl rfl dX7_goerFor_10 ?_
    refine w_bipush 12 11 hX ib_12 dX7_goerFor_11 ?_
    refine w_icmp_ge (tgt := 39) 13 hX dX7_goerFor_13 (by decide) (fun c2 => ?_) (fun c2 => ?_)
    · have h := it h c2
      refine w_iconst (-1) 39 hX ic_m1 dX7_goerFor_39 ?_
      exact w_iret 40 hX hR dX7_goerFor_40 (by cases h; rfl)
    · have h := ie h c2
      refine w_aload_n 0 16 hX rfl rfl dX7_goerFor_16 ?_
      refine w_getR 17 hX CI_7 s_106 rfl r_106_6 fl_X7_21 rfl dX7_goerFor_17 ?_
      refine w_iload_n 2 20 hX rfl rfl dX7_goerFor_20 ?_
      obtain ⟨x3, gx3, h⟩ := o_bind h
      refine w_iald 21 hX s_110 gx3 dX7_goerFor_21 ?_
      refine w_iload_n 1 22 hX rfl rfl dX7_goerFor_22 ?_
      refine w_icmp_ne (tgt := 33) 23 hX dX7_goerFor_23 (by decide) (fun c4 => ?_) (fun c4 => ?_)
      · have h := ie h c4
        refine w_iinc (lv' := [(2, .int (l2 + 1)), (0, .ref 106), (1, .int l1)]) 33 2 hX dX7_goerFor_33 rfl (inc_1 _) (by decide) rfl ?_
        refine w_goto (tgt := 2) 36 hX (by decide) dX7_goerFor_36 ?_
        exact w_sub [1, 2, 0] rfl (hk2 l1 (l2 + 1) h)
      · have h := it h c4
        refine w_aload_n 0 26 hX rfl rfl dX7_goerFor_26 ?_
        refine w_getR 27 hX CI_7 s_106 rfl r_106_8 fl_X7_27 rfl dX7_goerFor_27 ?_
        refine w_iload_n 2 30 hX rfl rfl dX7_goerFor_30 ?_
        obtain ⟨x5, gx5, h⟩ := o_bind h
        refine w_iald 31 hX s_112 gx5 dX7_goerFor_31 ?_
        exact w_iret 32 hX hR dX7_goerFor_32 (by cases h; rfl)
def FX7_goerFor_106_L2 : Nat → Int32 → Int32 → Mem → Option Int32
  | 0, _, _, _ => none
  | n + 1, l1, l2, u => FX7_goerFor_106_b2 (FX7_goerFor_106_L2 n) l1 l2 u
theorem lX7_goerFor_106_2 {G : Gt} {X : Xt} {v : Int32} {u : Mem} (hX : CxOk G X cX7_goerFor 3 RX7 (some (.int v), SH, RHO, u) 1) (hR : CxRet G X (some .int) (some (.int v), SH, RHO, u)) : ∀ (n : Nat) (l1 l2 : Int32), FX7_goerFor_106_L2 n l1 l2 u = some v → WM G X 2 [(0, .ref 106), (1, .int l1), (2, .int l2)] [] SH RHO u := by
  intro n
  induction n with
  | zero =>
    intro l1 l2 h
    exact nn_ h
  | succ n ih =>
    intro l1 l2 h
    exact bX7_goerFor_106_2 hX hR ih l1 l2 h
def FX7_goerFor_106 (p1 : Int32) (u : Mem) : Option Int32 :=
  FX7_goerFor_106_L2 FU p1 0 u
theorem CX7_goerFor_106 {G : Gt} (p1 : Int32) (u : Mem) {v : Int32} (h : FX7_goerFor_106 p1 u = some v) : CT G yX7_goerFor cX7_goerFor 3 (some .int) 1 [.ref 106, .int p1] SH RHO u (some (.int v), SH, RHO, u) :=
  ct_of (by decide) rfl (Nat.le_of_ble_eq_true rfl) (Nat.le_refl _) (Nat.le_refl _) (fun X hX hR => by
  unfold FX7_goerFor_106 at h
  refine w_iconst 0 0 hX ic_0 dX7_goerFor_0 ?_
  refine w_istore_n (lv' := [(2, .int 0), (0, .ref 106), (1, .int p1)]) 1 hX rfl dX7_goerFor_1 (by decide) rfl ?_
  exact w_sub [1, 2, 0] rfl (lX7_goerFor_106_2 hX hR FU p1 0 h))
def FX7_chooseGoers_106_b158 (l1 l3 l4 : Int32) (u : Mem) : Option (Int32 × Mem) :=
  (if l1 = 0 then (some (l3, u)) else ((if l1 = 1 then (some (l4, u)) else ((FX7_goerFor_106 (l1 - 10) u).bind fun x3 => some (x3, u)))))
theorem bX7_chooseGoers_106_158 {G : Gt} {X : Xt} {v : Int32} {u' : Mem} (hX : CxOk G X cX7_chooseGoers 8 RX7 (some (.int v), SH, RHO, u') 4) (hR : CxRet G X (some .int) (some (.int v), SH, RHO, u')) (l1 l3 l4 : Int32) (u : Mem) (h : FX7_chooseGoers_106_b158 l1 l3 l4 u = some (v, u')) : WM G X 158 [(0, .ref 106), (1, .int l1), (3, .int l3), (4, .int l4)] [] SH RHO u := by
  unfold FX7_chooseGoers_106_b158 at h
  refine w_iload_n 1 158 hX rfl rfl dX7_chooseGoers_158 ?_
  by_cases c1 : l1 = 0
  · have h := it h c1
    refine w_lookup (tgt := 184) (off := 25) 159 hX dX7_chooseGoers_159 (by decide) (by rw [c1]; decide) (by decide) ?_
    refine w_iload_n 2 184 hX rfl rfl dX7_chooseGoers_184 ?_
    exact w_iret 185 hX hR dX7_chooseGoers_185 (by cases h; rfl)
  · have h := ie h c1
    by_cases c2 : l1 = 1
    · have h := it h c2
      refine w_lookup (tgt := 186) (off := 27) 159 hX dX7_chooseGoers_159 (by decide) (by rw [c2]; decide) (by decide) ?_
      refine w_iload 3 186 hX rfl dX7_chooseGoers_186 ?_
      exact w_iret 188 hX hR dX7_chooseGoers_188 (by cases h; rfl)
    · have h := ie h c2
      have zc1 := lv_neT c1 (a := 0) (by decide)
      have zc2 := lv_neT c2 (a := 1) (by decide)
      refine w_lookup (tgt := 189) (off := 30) 159 hX dX7_chooseGoers_159 (by decide) (by show Op.lookupswitch.offset [(0, 25), (1, 27)] 30 _ = _; rw [lv_osw c1 (by decide), lv_osw c2 (by decide)]; rfl) (by decide) ?_
      refine w_aload_n 0 189 hX rfl rfl dX7_chooseGoers_189 ?_
      refine w_iload_n 1 190 hX rfl rfl dX7_chooseGoers_190 ?_
      refine w_bipush 10 191 hX ib_10 dX7_chooseGoers_191 ?_
      refine w_isub 193 hX dX7_chooseGoers_193 ?_
      obtain ⟨x3, gx3, h⟩ := o_bind h
      refine w_invVi (av := [.int (l1 - 10)]) (st := []) 194 hX CI_7 s_106 rfl mv_yX7_goerFor mi_yX7_goerFor ml_X7_144 (CX7_goerFor_106 (l1 - 10) u gx3) rfl (by decide) (Nat.le_of_ble_eq_true rfl) (Nat.le_refl _) (Nat.le_refl _) dX7_chooseGoers_194 ?_
      exact w_iret 197 hX hR dX7_chooseGoers_197 (by cases h; rfl)
def FX7_chooseGoers_106_b152 (k18 : Int32 → Int32 → Int32 → Int32 → Int32 → Mem → Option (Int32 × Mem)) (l1 l2 l3 l4 l5 : Int32) (u : Mem) : Option (Int32 × Mem) :=
  k18 l1 l2 l3 l4 (l5 + 1) u
theorem bX7_chooseGoers_106_152 {G : Gt} {X : Xt} {v : Int32} {u' : Mem} (hX : CxOk G X cX7_chooseGoers 8 RX7 (some (.int v), SH, RHO, u') 4) (hR : CxRet G X (some .int) (some (.int v), SH, RHO, u')) {k18 : Int32 → Int32 → Int32 → Int32 → Int32 → Mem → Option (Int32 × Mem)} (hk18 : ∀ (l1 l2 l3 l4 l5 : Int32) (u : Mem), k18 l1 l2 l3 l4 l5 u = some (v, u') → WM G X 18 [(0, .ref 106), (1, .int l1), (2, .int l2), (3, .int l3), (4, .int l4), (5, .int l5)] [] SH RHO u) (l1 l2 l3 l4 l5 : Int32) (u : Mem) (h : FX7_chooseGoers_106_b152 k18 l1 l2 l3 l4 l5 u = some (v, u')) : WM G X 152 [(0, .ref 106), (1, .int l1), (2, .int l2), (3, .int l3), (4, .int l4), (5, .int l5)] [] SH RHO u := by
  unfold FX7_chooseGoers_106_b152 at h
  refine w_iinc (lv' := [(5, .int (l5 + 1)), (0, .ref 106), (1, .int l1), (2, .int l2), (3, .int l3), (4, .int l4)]) 152 5 hX dX7_chooseGoers_152 rfl (inc_1 _) (by decide) rfl ?_
  refine w_goto (tgt := 18) 155 hX (by decide) dX7_chooseGoers_155 ?_
  exact w_sub [1, 2, 3, 4, 5, 0] rfl (hk18 l1 l2 l3 l4 (l5 + 1) u h)
def FX7_chooseGoers_106_b146 (k37 : Int32 → Int32 → Int32 → Int32 → Int32 → Int32 → Mem → Option (Int32 × Mem)) (l1 l2 l3 l4 l5 l6 : Int32) (u : Mem) : Option (Int32 × Mem) :=
  k37 l1 l2 l3 l4 l5 (l6 + 1) u
theorem bX7_chooseGoers_106_146 {G : Gt} {X : Xt} {v : Int32} {u' : Mem} (hX : CxOk G X cX7_chooseGoers 8 RX7 (some (.int v), SH, RHO, u') 4) (hR : CxRet G X (some .int) (some (.int v), SH, RHO, u')) {k37 : Int32 → Int32 → Int32 → Int32 → Int32 → Int32 → Mem → Option (Int32 × Mem)} (hk37 : ∀ (l1 l2 l3 l4 l5 l6 : Int32) (u : Mem), k37 l1 l2 l3 l4 l5 l6 u = some (v, u') → WM G X 37 [(0, .ref 106), (1, .int l1), (2, .int l2), (3, .int l3), (4, .int l4), (5, .int l5), (6, .int l6)] [] SH RHO u) (l1 l2 l3 l4 l5 l6 : Int32) (u : Mem) (h : FX7_chooseGoers_106_b146 k37 l1 l2 l3 l4 l5 l6 u = some (v, u')) : WM G X 146 [(0, .ref 106), (1, .int l1), (2, .int l2), (3, .int l3), (4, .int l4), (5, .int l5), (6, .int l6)] [] SH RHO u := by
  unfold FX7_chooseGoers_106_b146 at h
  refine w_iinc (lv' := [(6, .int (l6 + 1)), (0, .ref 106), (1, .int l1), (2, .int l2), (3, .int l3), (4, .int l4), (5, .int l5)]) 146 6 hX dX7_chooseGoers_146 rfl (inc_1 _) (by decide) rfl ?_
  refine w_goto (tgt := 37) 149 hX (by decide) dX7_chooseGoers_149 ?_
  exact w_sub [1, 2, 3, 4, 5, 6, 0] rfl (hk37 l1 l2 l3 l4 l5 (l6 + 1) u h)
def FX7_chooseGoers_106_b74 (k18 : Int32 → Int32 → Int32 → Int32 → Int32 → Mem → Option (Int32 × Mem)) (k37 : Int32 → Int32 → Int32 → Int32 → Int32 → Int32 → Mem → Option (Int32 × Mem)) (l1 l2 l3 l4 l5 l6 t0 : Int32) (u : Mem) : Option (Int32 × Mem) :=
  (if t0 = 0 then (FX7_chooseGoers_106_b146 k37 l1 l2 l3 l4 l5 l6 u) else ((FX7_way_106 (l5 + 1) (l2 ||| ((1 : Int32) <<< (l6 &&& 31))) u).bind fun x2 => (FX7_way_106 l5 l2 u).bind fun x3 => (if (t0 + x2) = x3 then ((rdA u 111 12 l6).bind fun x5 => (wrA u 112 12 l5 x5).bind fun u6 => FX7_chooseGoers_106_b152 k18 l1 (l2 ||| ((1 : Int32) <<< (l6 &&& 31))) (l3 + 1) (l4 + (10000 - t0)) l5 u6) else (FX7_chooseGoers_106_b146 k37 l1 l2 l3 l4 l5 l6 u))))
theorem bX7_chooseGoers_106_74 {G : Gt} {X : Xt} {v : Int32} {u' : Mem} (hX : CxOk G X cX7_chooseGoers 8 RX7 (some (.int v), SH, RHO, u') 4) (hR : CxRet G X (some .int) (some (.int v), SH, RHO, u')) {k18 : Int32 → Int32 → Int32 → Int32 → Int32 → Mem → Option (Int32 × Mem)} (hk18 : ∀ (l1 l2 l3 l4 l5 : Int32) (u : Mem), k18 l1 l2 l3 l4 l5 u = some (v, u') → WM G X 18 [(0, .ref 106), (1, .int l1), (2, .int l2), (3, .int l3), (4, .int l4), (5, .int l5)] [] SH RHO u) {k37 : Int32 → Int32 → Int32 → Int32 → Int32 → Int32 → Mem → Option (Int32 × Mem)} (hk37 : ∀ (l1 l2 l3 l4 l5 l6 : Int32) (u : Mem), k37 l1 l2 l3 l4 l5 l6 u = some (v, u') → WM G X 37 [(0, .ref 106), (1, .int l1), (2, .int l2), (3, .int l3), (4, .int l4), (5, .int l5), (6, .int l6)] [] SH RHO u) (l1 l2 l3 l4 l5 l6 t0 : Int32) (u : Mem) (h : FX7_chooseGoers_106_b74 k18 k37 l1 l2 l3 l4 l5 l6 t0 u = some (v, u')) : WM G X 74 [(0, .ref 106), (1, .int l1), (2, .int l2), (3, .int l3), (4, .int l4), (5, .int l5), (6, .int l6)] [.int t0] SH RHO u := by
  unfold FX7_chooseGoers_106_b74 at h
  refine w_istore (lv' := [(7, .int t0), (0, .ref 106), (1, .int l1), (2, .int l2), (3, .int l3), (4, .int l4), (5, .int l5), (6, .int l6)]) 74 hX dX7_chooseGoers_74 (by decide) rfl ?_
  refine w_iload 0 76 hX rfl dX7_chooseGoers_76 ?_
  refine w_if_eq (tgt := 146) 78 hX dX7_chooseGoers_78 (by decide) (fun c1 => ?_) (fun c1 => ?_)
  · have h := it h c1
    exact w_sub [1, 2, 3, 4, 5, 6, 7] rfl (bX7_chooseGoers_106_146 hX hR hk37 l1 l2 l3 l4 l5 l6 u h)
  · have h := ie h c1
    refine w_iload 0 81 hX rfl dX7_chooseGoers_81 ?_
    refine w_aload_n 1 83 hX rfl rfl dX7_chooseGoers_83 ?_
    refine w_iload 6 84 hX rfl dX7_chooseGoers_84 ?_
    refine w_iconst 1 86 hX ic_1 dX7_chooseGoers_86 ?_
    refine w_iadd 87 hX dX7_chooseGoers_87 ?_
    refine w_iload_n 3 88 hX rfl rfl dX7_chooseGoers_88 ?_
    refine w_iconst 1 89 hX ic_1 dX7_chooseGoers_89 ?_
    refine w_iload 7 90 hX rfl dX7_chooseGoers_90 ?_
    refine w_ishl 92 hX dX7_chooseGoers_92 ?_
    refine w_ior 93 hX dX7_chooseGoers_93 ?_
    obtain ⟨x2, gx2, h⟩ := o_bind h
    refine w_invVi (av := [.int (l5 + 1), .int (l2 ||| ((1 : Int32) <<< (l6 &&& 31)))]) (st := [.int t0]) 94 hX CI_7 s_106 rfl mv_yX7_way mi_yX7_way ml_X7_129 (CX7_way_106 (l5 + 1) (l2 ||| ((1 : Int32) <<< (l6 &&& 31))) u gx2) rfl (by decide) (Nat.le_of_ble_eq_true rfl) (Nat.le_refl _) (Nat.le_refl _) dX7_chooseGoers_94 ?_
    refine w_iadd 97 hX dX7_chooseGoers_97 ?_
    refine w_aload_n 1 98 hX rfl rfl dX7_chooseGoers_98 ?_
    refine w_iload 6 99 hX rfl dX7_chooseGoers_99 ?_
    refine w_iload_n 3 101 hX rfl rfl dX7_chooseGoers_101 ?_
    obtain ⟨x3, gx3, h⟩ := o_bind h
    refine w_invVi (av := [.int l5, .int l2]) (st := [.int (t0 + x2)]) 102 hX CI_7 s_106 rfl mv_yX7_way mi_yX7_way ml_X7_129 (CX7_way_106 l5 l2 u gx3) rfl (by decide) (Nat.le_of_ble_eq_true rfl) (Nat.le_refl _) (Nat.le_refl _) dX7_chooseGoers_102 ?_
    refine w_icmp_ne (tgt := 146) 105 hX dX7_chooseGoers_105 (by decide) (fun c4 => ?_) (fun c4 => ?_)
    · have h := ie h c4
      exact w_sub [1, 2, 3, 4, 5, 6, 7] rfl (bX7_chooseGoers_106_146 hX hR hk37 l1 l2 l3 l4 l5 l6 u h)
    · have h := it h c4
      refine w_aload_n 1 108 hX rfl rfl dX7_chooseGoers_108 ?_
      refine w_getR 109 hX CI_7 s_106 rfl r_106_8 fl_X7_27 rfl dX7_chooseGoers_109 ?_
      refine w_iload 6 112 hX rfl dX7_chooseGoers_112 ?_
      refine w_aload_n 1 114 hX rfl rfl dX7_chooseGoers_114 ?_
      refine w_getR 115 hX CI_7 s_106 rfl r_106_7 fl_X7_24 rfl dX7_chooseGoers_115 ?_
      refine w_iload 7 118 hX rfl dX7_chooseGoers_118 ?_
      obtain ⟨x5, gx5, h⟩ := o_bind h
      refine w_iald 120 hX s_111 gx5 dX7_chooseGoers_120 ?_
      obtain ⟨u6, gu6, h⟩ := o_bind h
      refine w_iast 121 hX s_112 gu6 dX7_chooseGoers_121 ?_
      refine w_iload_n 3 122 hX rfl rfl dX7_chooseGoers_122 ?_
      refine w_iconst 1 123 hX ic_1 dX7_chooseGoers_123 ?_
      refine w_iload 7 124 hX rfl dX7_chooseGoers_124 ?_
      refine w_ishl 126 hX dX7_chooseGoers_126 ?_
      refine w_ior 127 hX dX7_chooseGoers_127 ?_
      refine w_istore_n (lv' := [(2, .int (l2 ||| ((1 : Int32) <<< (l6 &&& 31)))), (7, .int t0), (0, .ref 106), (1, .int l1), (3, .int l3), (4, .int l4), (5, .int l5), (6, .int l6)]) 128 hX rfl dX7_chooseGoers_128 (by decide) rfl ?_
      refine w_iinc (lv' := [(3, .int (l3 + 1)), (2, .int (l2 ||| ((1 : Int32) <<< (l6 &&& 31)))), (7, .int t0), (0, .ref 106), (1, .int l1), (4, .int l4), (5, .int l5), (6, .int l6)]) 129 4 hX dX7_chooseGoers_129 rfl (inc_1 _) (by decide) rfl ?_
      refine w_iload 5 132 hX rfl dX7_chooseGoers_132 ?_
      refine w_sipush 10000 134 hX isp_10000 dX7_chooseGoers_134 ?_
      refine w_iload 2 137 hX rfl dX7_chooseGoers_137 ?_
      refine w_isub 139 hX dX7_chooseGoers_139 ?_
      refine w_iadd 140 hX dX7_chooseGoers_140 ?_
      refine w_istore (lv' := [(4, .int (l4 + (10000 - t0))), (3, .int (l3 + 1)), (2, .int (l2 ||| ((1 : Int32) <<< (l6 &&& 31)))), (7, .int t0), (0, .ref 106), (1, .int l1), (5, .int l5), (6, .int l6)]) 141 hX dX7_chooseGoers_141 (by decide) rfl ?_
      refine w_goto (tgt := 152) 143 hX (by decide) dX7_chooseGoers_143 ?_
      exact w_sub [4, 5, 2, 1, 0, 6] rfl (bX7_chooseGoers_106_152 hX hR hk18 l1 (l2 ||| ((1 : Int32) <<< (l6 &&& 31))) (l3 + 1) (l4 + (10000 - t0)) l5 u6 h)
def FX7_chooseGoers_106_b37 (k18 : Int32 → Int32 → Int32 → Int32 → Int32 → Mem → Option (Int32 × Mem)) (k37 : Int32 → Int32 → Int32 → Int32 → Int32 → Int32 → Mem → Option (Int32 × Mem)) (l1 l2 l3 l4 l5 l6 : Int32) (u : Mem) : Option (Int32 × Mem) :=
  (if (u 106 12) ≤ l6 then (FX7_chooseGoers_106_b152 k18 l1 l2 l3 l4 l5 u) else ((if 12 ≤ l6 then (FX7_chooseGoers_106_b152 k18 l1 l2 l3 l4 l5 u) else ((FX11_holds l2 l6).bind fun x3 => (if x3 = 0 then ((FX7_worth_106 l5 l6 u).bind fun x5 => FX7_chooseGoers_106_b74 k18 k37 l1 l2 l3 l4 l5 l6 x5 u) else (FX7_chooseGoers_106_b74 k18 k37 l1 l2 l3 l4 l5 l6 0 u))))))
theorem bX7_chooseGoers_106_37 {G : Gt} {X : Xt} {v : Int32} {u' : Mem} (hX : CxOk G X cX7_chooseGoers 8 RX7 (some (.int v), SH, RHO, u') 4) (hR : CxRet G X (some .int) (some (.int v), SH, RHO, u')) {k18 : Int32 → Int32 → Int32 → Int32 → Int32 → Mem → Option (Int32 × Mem)} (hk18 : ∀ (l1 l2 l3 l4 l5 : Int32) (u : Mem), k18 l1 l2 l3 l4 l5 u = some (v, u') → WM G X 18 [(0, .ref 106), (1, .int l1), (2, .int l2), (3, .int l3), (4, .int l4), (5, .int l5)] [] SH RHO u) {k37 : Int32 → Int32 → Int32 → Int32 → Int32 → Int32 → Mem → Option (Int32 × Mem)} (hk37 : ∀ (l1 l2 l3 l4 l5 l6 : Int32) (u : Mem), k37 l1 l2 l3 l4 l5 l6 u = some (v, u') → WM G X 37 [(0, .ref 106), (1, .int l1), (2, .int l2), (3, .int l3), (4, .int l4), (5, .int l5), (6, .int l6)] [] SH RHO u) (l1 l2 l3 l4 l5 l6 : Int32) (u : Mem) (h : FX7_chooseGoers_106_b37 k18 k37 l1 l2 l3 l4 l5 l6 u = some (v, u')) : WM G X 37 [(0, .ref 106), (1, .int l1), (2, .int l2), (3, .int l3), (4, .int l4), (5, .int l5), (6, .int l6)] [] SH RHO u := by
  unfold FX7_chooseGoers_106_b37 at h
  refine w_iload 6 37 hX rfl dX7_chooseGoers_37 ?_
  refine w_aload_n 0 39 hX rfl rfl dX7_chooseGoers_39 ?_
  refine w_getI (j := 12) 40 hX CI_7 s_106 rfl fl_X7_117 rfl dX7_chooseGoers_40 ?_
  refine w_icmp_ge (tgt := 152) 43 hX dX7_chooseGoers_43 (by decide) (fun c1 => ?_) (fun c1 => ?_)
  · have h := it h c1
    exact w_sub [0, 1, 2, 3, 4, 5] rfl (bX7_chooseGoers_106_152 hX hR hk18 l1 l2 l3 l4 l5 u h)
  · have h := ie h c1
    refine w_iload 6 46 hX rfl dX7_chooseGoers_46 ?_
    refine w_bipush 12 48 hX ib_12 dX7_chooseGoers_48 ?_
    refine w_icmp_ge (tgt := 152) 50 hX dX7_chooseGoers_50 (by decide) (fun c2 => ?_) (fun c2 => ?_)
    · have h := it h c2
      exact w_sub [0, 1, 2, 3, 4, 5] rfl (bX7_chooseGoers_106_152 hX hR hk18 l1 l2 l3 l4 l5 u h)
    · have h := ie h c2
      refine w_iload_n 2 53 hX rfl rfl dX7_chooseGoers_53 ?_
      refine w_iload 6 54 hX rfl dX7_chooseGoers_54 ?_
      obtain ⟨x3, gx3, h⟩ := o_bind h
      refine w_invSNi (av := [.int l2, .int l6]) (st := []) 56 hX ms_yX11_holds mi_yX11_holds ml_X7_59 (CX11_holds l2 l6 u gx3) rfl (by decide) (Nat.le_of_ble_eq_true rfl) (Nat.le_refl _) (Nat.le_refl _) dX7_chooseGoers_56 ?_
      refine w_if_eq (tgt := 66) 59 hX dX7_chooseGoers_59 (by decide) (fun c4 => ?_) (fun c4 => ?_)
      · have h := it h c4
        refine w_aload_n 0 66 hX rfl rfl dX7_chooseGoers_66 ?_
        refine w_iload 5 67 hX rfl dX7_chooseGoers_67 ?_
        refine w_iload 6 69 hX rfl dX7_chooseGoers_69 ?_
        obtain ⟨x5, gx5, h⟩ := o_bind h
        refine w_invVi (av := [.int l5, .int l6]) (st := []) 71 hX CI_7 s_106 rfl mv_yX7_worth mi_yX7_worth ml_X7_132 (CX7_worth_106 l5 l6 u gx5) rfl (by decide) (Nat.le_of_ble_eq_true rfl) (Nat.le_refl _) (Nat.le_refl _) dX7_chooseGoers_71 ?_
        exact bX7_chooseGoers_106_74 hX hR hk18 hk37 l1 l2 l3 l4 l5 l6 x5 u h
      · have h := ie h c4
        refine w_iconst 0 62 hX ic_0 dX7_chooseGoers_62 ?_
        refine w_goto (tgt := 74) 63 hX (by decide) dX7_chooseGoers_63 ?_
        exact bX7_chooseGoers_106_74 hX hR hk18 hk37 l1 l2 l3 l4 l5 l6 0 u h
def FX7_chooseGoers_106_L37 (k18 : Int32 → Int32 → Int32 → Int32 → Int32 → Mem → Option (Int32 × Mem)) : Nat → Int32 → Int32 → Int32 → Int32 → Int32 → Int32 → Mem → Option (Int32 × Mem)
  | 0, _, _, _, _, _, _, _ => none
  | n + 1, l1, l2, l3, l4, l5, l6, u => FX7_chooseGoers_106_b37 k18 (FX7_chooseGoers_106_L37 k18 n) l1 l2 l3 l4 l5 l6 u
theorem lX7_chooseGoers_106_37 {G : Gt} {X : Xt} {v : Int32} {u' : Mem} (hX : CxOk G X cX7_chooseGoers 8 RX7 (some (.int v), SH, RHO, u') 4) (hR : CxRet G X (some .int) (some (.int v), SH, RHO, u')) {k18 : Int32 → Int32 → Int32 → Int32 → Int32 → Mem → Option (Int32 × Mem)} (hk18 : ∀ (l1 l2 l3 l4 l5 : Int32) (u : Mem), k18 l1 l2 l3 l4 l5 u = some (v, u') → WM G X 18 [(0, .ref 106), (1, .int l1), (2, .int l2), (3, .int l3), (4, .int l4), (5, .int l5)] [] SH RHO u) : ∀ (n : Nat) (l1 l2 l3 l4 l5 l6 : Int32) (u : Mem), FX7_chooseGoers_106_L37 k18 n l1 l2 l3 l4 l5 l6 u = some (v, u') → WM G X 37 [(0, .ref 106), (1, .int l1), (2, .int l2), (3, .int l3), (4, .int l4), (5, .int l5), (6, .int l6)] [] SH RHO u := by
  intro n
  induction n with
  | zero =>
    intro l1 l2 l3 l4 l5 l6 u h
    exact nn_ h
  | succ n ih =>
    intro l1 l2 l3 l4 l5 l6 u h
    exact bX7_chooseGoers_106_37 hX hR hk18 ih l1 l2 l3 l4 l5 l6 u h
def FX7_chooseGoers_106_b18 (k18 : Int32 → Int32 → Int32 → Int32 → Int32 → Mem → Option (Int32 × Mem)) (l1 l2 l3 l4 l5 : Int32) (u : Mem) : Option (Int32 × Mem) :=
  (if (u 106 11) ≤ l5 then (FX7_chooseGoers_106_b158 l1 l3 l4 u) else ((if 12 ≤ l5 then (FX7_chooseGoers_106_b158 l1 l3 l4 u) else (FX7_chooseGoers_106_L37 k18 FU l1 l2 l3 l4 l5 0 u))))
theorem bX7_chooseGoers_106_18 {G : Gt} {X : Xt} {v : Int32} {u' : Mem} (hX : CxOk G X cX7_chooseGoers 8 RX7 (some (.int v), SH, RHO, u') 4) (hR : CxRet G X (some .int) (some (.int v), SH, RHO, u')) {k18 : Int32 → Int32 → Int32 → Int32 → Int32 → Mem → Option (Int32 × Mem)} (hk18 : ∀ (l1 l2 l3 l4 l5 : Int32) (u : Mem), k18 l1 l2 l3 l4 l5 u = some (v, u') → WM G X 18 [(0, .ref 106), (1, .int l1), (2, .int l2), (3, .int l3), (4, .int l4), (5, .int l5)] [] SH RHO u) (l1 l2 l3 l4 l5 : Int32) (u : Mem) (h : FX7_chooseGoers_106_b18 k18 l1 l2 l3 l4 l5 u = some (v, u')) : WM G X 18 [(0, .ref 106), (1, .int l1), (2, .int l2), (3, .int l3), (4, .int l4), (5, .int l5)] [] SH RHO u := by
  unfold FX7_chooseGoers_106_b18 at h
  refine w_iload 5 18 hX rfl dX7_chooseGoers_18 ?_
  refine w_aload_n 0 20 hX rfl rfl dX7_chooseGoers_20 ?_
  refine w_getI (j := 11) 21 hX CI_7 s_106 rfl fl_X7_114 rfl dX7_chooseGoers_21 ?_
  refine w_icmp_ge (tgt := 158) 24 hX dX7_chooseGoers_24 (by decide) (fun c1 => ?_) (fun c1 => ?_)
  · have h := it h c1
    exact w_sub [0, 1, 3, 4] rfl (bX7_chooseGoers_106_158 hX hR l1 l3 l4 u h)
  · have h := ie h c1
    refine w_iload 5 27 hX rfl dX7_chooseGoers_27 ?_
    refine w_bipush 12 29 hX ib_12 dX7_chooseGoers_29 ?_
    refine w_icmp_ge (tgt := 158) 31 hX dX7_chooseGoers_31 (by decide) (fun c2 => ?_) (fun c2 => ?_)
    · have h := it h c2
      exact w_sub [0, 1, 3, 4] rfl (bX7_chooseGoers_106_158 hX hR l1 l3 l4 u h)
    · have h := ie h c2
      refine w_iconst 0 34 hX ic_0 dX7_chooseGoers_34 ?_
      refine w_istore (lv' := [(6, .int 0), (0, .ref 106), (1, .int l1), (2, .int l2), (3, .int l3), (4, .int l4), (5, .int l5)]) 35 hX dX7_chooseGoers_35 (by decide) rfl ?_
      exact w_sub [1, 2, 3, 4, 5, 6, 0] rfl (lX7_chooseGoers_106_37 hX hR hk18 FU l1 l2 l3 l4 l5 0 u h)
def FX7_chooseGoers_106_L18 : Nat → Int32 → Int32 → Int32 → Int32 → Int32 → Mem → Option (Int32 × Mem)
  | 0, _, _, _, _, _, _ => none
  | n + 1, l1, l2, l3, l4, l5, u => FX7_chooseGoers_106_b18 (FX7_chooseGoers_106_L18 n) l1 l2 l3 l4 l5 u
theorem lX7_chooseGoers_106_18 {G : Gt} {X : Xt} {v : Int32} {u' : Mem} (hX : CxOk G X cX7_chooseGoers 8 RX7 (some (.int v), SH, RHO, u') 4) (hR : CxRet G X (some .int) (some (.int v), SH, RHO, u')) : ∀ (n : Nat) (l1 l2 l3 l4 l5 : Int32) (u : Mem), FX7_chooseGoers_106_L18 n l1 l2 l3 l4 l5 u = some (v, u') → WM G X 18 [(0, .ref 106), (1, .int l1), (2, .int l2), (3, .int l3), (4, .int l4), (5, .int l5)] [] SH RHO u := by
  intro n
  induction n with
  | zero =>
    intro l1 l2 l3 l4 l5 u h
    exact nn_ h
  | succ n ih =>
    intro l1 l2 l3 l4 l5 u h
    exact bX7_chooseGoers_106_18 hX hR ih l1 l2 l3 l4 l5 u h
def FX7_chooseGoers_106 (p1 : Int32) (u : Mem) : Option (Int32 × Mem) :=
  (FJ7_fill_53178_112 (-1) u).bind fun u2 => FX7_chooseGoers_106_L18 FU p1 0 0 0 0 u2
theorem CX7_chooseGoers_106 {G : Gt} (p1 : Int32) (u : Mem) {v : Int32} {u' : Mem} (h : FX7_chooseGoers_106 p1 u = some (v, u')) : CT G yX7_chooseGoers cX7_chooseGoers 8 (some .int) 4 [.ref 106, .int p1] SH RHO u (some (.int v), SH, RHO, u') :=
  ct_of (by decide) rfl (Nat.le_of_ble_eq_true rfl) (Nat.le_refl _) (Nat.le_refl _) (fun X hX hR => by
  unfold FX7_chooseGoers_106 at h
  refine w_aload_n 0 0 hX rfl rfl dX7_chooseGoers_0 ?_
  refine w_getR 1 hX CI_7 s_106 rfl r_106_8 fl_X7_27 rfl dX7_chooseGoers_1 ?_
  refine w_iconst (-1) 4 hX ic_m1 dX7_chooseGoers_4 ?_
  obtain ⟨u2, gu2, h⟩ := o_bind h
  refine w_invSv (av := [.ref 112, .int (-1)]) (st := []) 5 hX ms_yJ7_fill_53178 mi_yJ7_fill_53178 ml_X7_138 (CJ7_fill_53178_112 (-1) u gu2) rfl (by decide) (Nat.le_of_ble_eq_true rfl) (Nat.le_refl _) (Nat.le_refl _) dX7_chooseGoers_5 ?_
  refine w_iconst 0 8 hX ic_0 dX7_chooseGoers_8 ?_
  refine w_istore_n (lv' := [(2, .int 0), (0, .ref 106), (1, .int p1)]) 9 hX rfl dX7_chooseGoers_9 (by decide) rfl ?_
  refine w_iconst 0 10 hX ic_0 dX7_chooseGoers_10 ?_
  refine w_istore_n (lv' := [(3, .int 0), (2, .int 0), (0, .ref 106), (1, .int p1)]) 11 hX rfl dX7_chooseGoers_11 (by decide) rfl ?_
  refine w_iconst 0 12 hX ic_0 dX7_chooseGoers_12 ?_
  refine w_istore (lv' := [(4, .int 0), (3, .int 0), (2, .int 0), (0, .ref 106), (1, .int p1)]) 13 hX dX7_chooseGoers_13 (by decide) rfl ?_
  refine w_iconst 0 15 hX ic_0 dX7_chooseGoers_15 ?_
  refine w_istore (lv' := [(5, .int 0), (4, .int 0), (3, .int 0), (2, .int 0), (0, .ref 106), (1, .int p1)]) 16 hX dX7_chooseGoers_16 (by decide) rfl ?_
  exact w_sub [4, 5, 3, 2, 1, 0] rfl (lX7_chooseGoers_106_18 hX hR FU p1 0 0 0 0 u2 h))
def FX7_standIns_106 (p1 p2 : Int32) (u : Mem) : Option (Int32 × Mem) :=
  (FX7_gather_106 p1 u).bind fun u2 => (FX7_weighWays_106 u2).bind fun u4 => bnd2 (FX7_chooseGoers_106 p2 u4) fun x5 u6 => some (x5, u6)
theorem CX7_standIns_106 {G : Gt} (p1 p2 : Int32) (u : Mem) {v : Int32} {u' : Mem} (h : FX7_standIns_106 p1 p2 u = some (v, u')) : CT G yX7_standIns cX7_standIns 3 (some .int) 5 [.ref 106, .int p1, .int p2] SH RHO u (some (.int v), SH, RHO, u') :=
  ct_of (by decide) rfl (Nat.le_of_ble_eq_true rfl) (Nat.le_refl _) (Nat.le_refl _) (fun X hX hR => by
  unfold FX7_standIns_106 at h
  refine w_aload_n 0 0 hX rfl rfl dX7_standIns_0 ?_
  refine w_iload_n 1 1 hX rfl rfl dX7_standIns_1 ?_
  obtain ⟨u2, gu2, h⟩ := o_bind h
  refine w_invVv (av := [.int p1]) (st := []) 2 hX CI_7 s_106 rfl mv_yX7_gather mi_yX7_gather ml_X7_105 (CX7_gather_106 p1 u gu2) rfl (by decide) (Nat.le_of_ble_eq_true rfl) (Nat.le_refl _) (Nat.le_refl _) dX7_standIns_2 ?_
  refine w_aload_n 0 5 hX rfl rfl dX7_standIns_5 ?_
  obtain ⟨u4, gu4, h⟩ := o_bind h
  refine w_invVv (av := []) (st := []) 6 hX CI_7 s_106 rfl mv_yX7_weighWays mi_yX7_weighWays ml_X7_108 (CX7_weighWays_106 u2 gu4) rfl (by decide) (Nat.le_of_ble_eq_true rfl) (Nat.le_refl _) (Nat.le_refl _) dX7_standIns_6 ?_
  refine w_aload_n 0 9 hX rfl rfl dX7_standIns_9 ?_
  refine w_iload_n 2 10 hX rfl rfl dX7_standIns_10 ?_
  obtain ⟨x5, u6, gx5, h⟩ := o_bnd2 h
  refine w_invVi (av := [.int p2]) (st := []) 11 hX CI_7 s_106 rfl mv_yX7_chooseGoers mi_yX7_chooseGoers ml_X7_111 (CX7_chooseGoers_106 p2 u4 gx5) rfl (by decide) (Nat.le_of_ble_eq_true rfl) (Nat.le_refl _) (Nat.le_refl _) dX7_standIns_11 ?_
  exact w_iret 14 hX hR dX7_standIns_14 (by cases h; rfl))
def FX11_stands_0 (p1 p2 : Int32) (u : Mem) : Option (Int32 × Mem) :=
  (FX11_isCountry p1).bind fun x1 => (if x1 = 0 then (some ((-1), u)) else (bnd2 (FX7_standIns_106 p1 p2 u) fun x3 u4 => some (x3, u4)))
theorem CX11_stands_0 {G : Gt} (p1 p2 : Int32) (u : Mem) {v : Int32} {u' : Mem} (h : FX11_stands_0 p1 p2 u = some (v, u')) : CT G yX11_stands cX11_stands 3 (some .int) 6 [.ref 0, .int p1, .int p2] SH RHO u (some (.int v), SH, RHO, u') :=
  ct_of (by decide) rfl (Nat.le_of_ble_eq_true rfl) (Nat.le_refl _) (Nat.le_refl _) (fun X hX hR => by
  unfold FX11_stands_0 at h
  refine w_iload_n 1 0 hX rfl rfl dX11_stands_0 ?_
  obtain ⟨x1, gx1, h⟩ := o_bind h
  refine w_invSi (av := [.int p1]) (st := []) 1 hX ms_yX11_isCountry mi_yX11_isCountry ml_X11_91 (CX11_isCountry p1 u gx1) rfl (by decide) (Nat.le_of_ble_eq_true rfl) (Nat.le_refl _) (Nat.le_refl _) dX11_stands_1 ?_
  refine w_if_eq (tgt := 19) 4 hX dX11_stands_4 (by decide) (fun c2 => ?_) (fun c2 => ?_)
  · have h := it h c2
    refine w_iconst (-1) 19 hX ic_m1 dX11_stands_19 ?_
    exact w_iret 20 hX hR dX11_stands_20 (by cases h; rfl)
  · have h := ie h c2
    refine w_aload_n 0 7 hX rfl rfl dX11_stands_7 ?_
    refine w_getR 8 hX CI_11 s_0 rfl r_0_7 fl_X11_67 rfl dX11_stands_8 ?_
    refine w_iload_n 1 11 hX rfl rfl dX11_stands_11 ?_
    refine w_iload_n 2 12 hX rfl rfl dX11_stands_12 ?_
    obtain ⟨x3, u4, gx3, h⟩ := o_bnd2 h
    refine w_invVi (av := [.int p1, .int p2]) (st := []) 13 hX CI_7 s_106 rfl mv_yX7_standIns mi_yX7_standIns ml_X11_238 (CX7_standIns_106 p1 p2 u gx3) rfl (by decide) (Nat.le_of_ble_eq_true rfl) (Nat.le_refl _) (Nat.le_refl _) dX11_stands_13 ?_
    refine w_goto (tgt := 20) 16 hX (by decide) dX11_stands_16 ?_
    exact w_iret 20 hX hR dX11_stands_20 (by cases h; rfl))
def FX12_canStand_146 (p1 p2 p3 : Int32) (u : Mem) : Option Int32 :=
  (FX12_isOf_146 p2 p1 0 u).bind fun x1 => (if x1 = 0 then (some 0) else ((rdA u 147 1786 (102 + p2)).bind fun x3 => (rdA u 147 1786 (102 + p3)).bind fun x4 => (if x3 ≤ x4 then (some 0) else (some 1))))
theorem CX12_canStand_146 {G : Gt} (p1 p2 p3 : Int32) (u : Mem) {v : Int32} (h : FX12_canStand_146 p1 p2 p3 u = some v) : CT G yX12_canStand cX12_canStand 4 (some .boolean) 2 [.ref 146, .int p1, .int p2, .int p3] SH RHO u (some (.int v), SH, RHO, u) :=
  ct_of (by decide) rfl (Nat.le_of_ble_eq_true rfl) (Nat.le_refl _) (Nat.le_refl _) (fun X hX hR => by
  unfold FX12_canStand_146 at h
  refine w_aload_n 0 0 hX rfl rfl dX12_canStand_0 ?_
  refine w_iload_n 2 1 hX rfl rfl dX12_canStand_1 ?_
  refine w_iload_n 1 2 hX rfl rfl dX12_canStand_2 ?_
  refine w_iconst 0 3 hX ic_0 dX12_canStand_3 ?_
  obtain ⟨x1, gx1, h⟩ := o_bind h
  refine w_invVi (av := [.int p2, .int p1, .int 0]) (st := []) 4 hX CI_12 s_146 rfl mv_yX12_isOf mi_yX12_isOf ml_X12_320 (CX12_isOf_146 p2 p1 0 u gx1) rfl (by decide) (Nat.le_of_ble_eq_true rfl) (Nat.le_refl _) (Nat.le_refl _) dX12_canStand_4 ?_
  refine w_if_eq (tgt := 35) 7 hX dX12_canStand_7 (by decide) (fun c2 => ?_) (fun c2 => ?_)
  · have h := it h c2
    refine w_iconst 0 35 hX ic_0 dX12_canStand_35 ?_
    exact w_zret 36 hX hR (by decide) dX12_canStand_36 (by cases h; rfl)
  · have h := ie h c2
    refine w_aload_n 0 10 hX rfl rfl dX12_canStand_10 ?_
    refine w_getR 11 hX CI_12 s_146 rfl r_146_0 fl_X12_7 rfl dX12_canStand_11 ?_
    refine w_bipush 102 14 hX ib_102 dX12_canStand_14 ?_
    refine w_iload_n 2 16 hX rfl rfl dX12_canStand_16 ?_
    refine w_iadd 17 hX dX12_canStand_17 ?_
    obtain ⟨x3, gx3, h⟩ := o_bind h
    refine w_iald 18 hX s_147 gx3 dX12_canStand_18 ?_
    refine w_aload_n 0 19 hX rfl rfl dX12_canStand_19 ?_
    refine w_getR 20 hX CI_12 s_146 rfl r_146_0 fl_X12_7 rfl dX12_canStand_20 ?_
    refine w_bipush 102 23 hX ib_102 dX12_canStand_23 ?_
    refine w_iload_n 3 25 hX rfl rfl dX12_canStand_25 ?_
    refine w_iadd 26 hX dX12_canStand_26 ?_
    obtain ⟨x4, gx4, h⟩ := o_bind h
    refine w_iald 27 hX s_147 gx4 dX12_canStand_27 ?_
    refine w_icmp_le (tgt := 35) 28 hX dX12_canStand_28 (by decide) (fun c5 => ?_) (fun c5 => ?_)
    · have h := it h c5
      refine w_iconst 0 35 hX ic_0 dX12_canStand_35 ?_
      exact w_zret 36 hX hR (by decide) dX12_canStand_36 (by cases h; rfl)
    · have h := ie h c5
      refine w_iconst 1 31 hX ic_1 dX12_canStand_31 ?_
      refine w_goto (tgt := 36) 32 hX (by decide) dX12_canStand_32 ?_
      exact w_zret 36 hX hR (by decide) dX12_canStand_36 (by cases h; rfl))
def FX12_standWorth_146 (p1 p2 : Int32) (u : Mem) : Option Int32 :=
  (rdA u 147 1786 (102 + p1)).bind fun x1 => (rdA u 147 1786 (102 + p2)).bind fun x2 => some ((10000 - x1) + x2)
theorem CX12_standWorth_146 {G : Gt} (p1 p2 : Int32) (u : Mem) {v : Int32} (h : FX12_standWorth_146 p1 p2 u = some v) : CT G yX12_standWorth cX12_standWorth 3 (some .int) 1 [.ref 146, .int p1, .int p2] SH RHO u (some (.int v), SH, RHO, u) :=
  ct_of (by decide) rfl (Nat.le_of_ble_eq_true rfl) (Nat.le_refl _) (Nat.le_refl _) (fun X hX hR => by
  unfold FX12_standWorth_146 at h
  refine w_sipush 10000 0 hX isp_10000 dX12_standWorth_0 ?_
  refine w_aload_n 0 3 hX rfl rfl dX12_standWorth_3 ?_
  refine w_getR 4 hX CI_12 s_146 rfl r_146_0 fl_X12_7 rfl dX12_standWorth_4 ?_
  refine w_bipush 102 7 hX ib_102 dX12_standWorth_7 ?_
  refine w_iload_n 1 9 hX rfl rfl dX12_standWorth_9 ?_
  refine w_iadd 10 hX dX12_standWorth_10 ?_
  obtain ⟨x1, gx1, h⟩ := o_bind h
  refine w_iald 11 hX s_147 gx1 dX12_standWorth_11 ?_
  refine w_isub 12 hX dX12_standWorth_12 ?_
  refine w_aload_n 0 13 hX rfl rfl dX12_standWorth_13 ?_
  refine w_getR 14 hX CI_12 s_146 rfl r_146_0 fl_X12_7 rfl dX12_standWorth_14 ?_
  refine w_bipush 102 17 hX ib_102 dX12_standWorth_17 ?_
  refine w_iload_n 2 19 hX rfl rfl dX12_standWorth_19 ?_
  refine w_iadd 20 hX dX12_standWorth_20 ?_
  obtain ⟨x2, gx2, h⟩ := o_bind h
  refine w_iald 21 hX s_147 gx2 dX12_standWorth_21 ?_
  refine w_iadd 22 hX dX12_standWorth_22 ?_
  exact w_iret 23 hX hR dX12_standWorth_23 (by rw [← Option.some.inj h]))
def FX12_laysStands_146_b176 (k25 : Int32 → Int32 → Int32 → Int32 → Mem → Option Mem) (l1 l2 l3 l4 l5 : Int32) (u : Mem) : Option Mem :=
  (wrA u 158 53248 ((4096 * l3) + l4) l5).bind fun u1 => k25 l1 l2 l3 (l4 + 1) u1
theorem bX12_laysStands_146_176 {G : Gt} {X : Xt} {u' : Mem} (hX : CxOk G X cX12_laysStands 8 RX12 (none, SH, RHO, u') 3) (hR : CxRet G X none (none, SH, RHO, u')) {k25 : Int32 → Int32 → Int32 → Int32 → Mem → Option Mem} (hk25 : ∀ (l1 l2 l3 l4 : Int32) (u : Mem), k25 l1 l2 l3 l4 u = some u' → WM G X 25 [(0, .ref 146), (1, .int l1), (2, .int l2), (3, .int l3), (4, .int l4)] [] SH RHO u) (l1 l2 l3 l4 l5 : Int32) (u : Mem) (h : FX12_laysStands_146_b176 k25 l1 l2 l3 l4 l5 u = some u') : WM G X 176 [(0, .ref 146), (1, .int l1), (2, .int l2), (3, .int l3), (4, .int l4), (5, .int l5)] [] SH RHO u := by
  unfold FX12_laysStands_146_b176 at h
  refine w_aload_n 0 176 hX rfl rfl dX12_laysStands_176 ?_
  refine w_getR 177 hX CI_12 s_146 rfl r_146_31 fl_X12_48 rfl dX12_laysStands_177 ?_
  refine w_sipush 4096 180 hX isp_4096 dX12_laysStands_180 ?_
  refine w_iload_n 3 183 hX rfl rfl dX12_laysStands_183 ?_
  refine w_imul 184 hX dX12_laysStands_184 ?_
  refine w_iload 4 185 hX rfl dX12_laysStands_185 ?_
  refine w_iadd 187 hX dX12_laysStands_187 ?_
  refine w_iload 5 188 hX rfl dX12_laysStands_188 ?_
  obtain ⟨u1, gu1, h⟩ := o_bind h
  refine w_iast 190 hX s_158 gu1 dX12_laysStands_190 ?_
  refine w_iinc (lv' := [(4, .int (l4 + 1)), (0, .ref 146), (1, .int l1), (2, .int l2), (3, .int l3), (5, .int l5)]) 191 4 hX dX12_laysStands_191 rfl (inc_1 _) (by decide) rfl ?_
  refine w_goto (tgt := 25) 194 hX (by decide) dX12_laysStands_194 ?_
  exact w_sub [1, 2, 3, 4, 0] rfl (hk25 l1 l2 l3 (l4 + 1) u1 h)
def FX12_laysStands_146_b170 (k94 : Int32 → Int32 → Int32 → Int32 → Int32 → Int32 → Int32 → Mem → Option Mem) (l1 l2 l3 l4 l5 l6 l7 : Int32) (u : Mem) : Option Mem :=
  k94 l1 l2 l3 l4 l5 l6 (l7 + 1) u
theorem bX12_laysStands_146_170 {G : Gt} {X : Xt} {u' : Mem} (hX : CxOk G X cX12_laysStands 8 RX12 (none, SH, RHO, u') 3) (hR : CxRet G X none (none, SH, RHO, u')) {k94 : Int32 → Int32 → Int32 → Int32 → Int32 → Int32 → Int32 → Mem → Option Mem} (hk94 : ∀ (l1 l2 l3 l4 l5 l6 l7 : Int32) (u : Mem), k94 l1 l2 l3 l4 l5 l6 l7 u = some u' → WM G X 94 [(0, .ref 146), (1, .int l1), (2, .int l2), (3, .int l3), (4, .int l4), (5, .int l5), (6, .int l6), (7, .int l7)] [] SH RHO u) (l1 l2 l3 l4 l5 l6 l7 : Int32) (u : Mem) (h : FX12_laysStands_146_b170 k94 l1 l2 l3 l4 l5 l6 l7 u = some u') : WM G X 170 [(0, .ref 146), (1, .int l1), (2, .int l2), (3, .int l3), (4, .int l4), (5, .int l5), (6, .int l6), (7, .int l7)] [] SH RHO u := by
  unfold FX12_laysStands_146_b170 at h
  refine w_iinc (lv' := [(7, .int (l7 + 1)), (0, .ref 146), (1, .int l1), (2, .int l2), (3, .int l3), (4, .int l4), (5, .int l5), (6, .int l6)]) 170 7 hX dX12_laysStands_170 rfl (inc_1 _) (by decide) rfl ?_
  refine w_goto (tgt := 94) 173 hX (by decide) dX12_laysStands_173 ?_
  exact w_sub [1, 2, 3, 4, 5, 6, 7, 0] rfl (hk94 l1 l2 l3 l4 l5 l6 (l7 + 1) u h)
def FX12_laysStands_146_b94 (k25 : Int32 → Int32 → Int32 → Int32 → Mem → Option Mem) (k94 : Int32 → Int32 → Int32 → Int32 → Int32 → Int32 → Int32 → Mem → Option Mem) (l1 l2 l3 l4 l5 l6 l7 : Int32) (u : Mem) : Option Mem :=
  (if (u 147 78) ≤ l7 then (FX12_laysStands_146_b176 k25 l1 l2 l3 l4 l5 u) else ((if l6 = 0 then (FX12_laysStands_146_b176 k25 l1 l2 l3 l4 l5 u) else ((if ((l4 >>> (l7 &&& 31)) &&& 1) = 1 then ((FX12_canStand_146 l1 l7 l3 u).bind fun x4 => (if x4 = 0 then (FX12_laysStands_146_b170 k94 l1 l2 l3 l4 l5 l6 l7 u) else ((FX12_standWorth_146 l7 l3 u).bind fun x6 => (rdA u 158 53248 ((4096 * (l3 + 1)) + (l4 &&& (((1 : Int32) <<< (l7 &&& 31)) ^^^ (-1))))).bind fun x7 => (FX12_greater l5 (x6 + x7)).bind fun x8 => FX12_laysStands_146_b170 k94 l1 l2 l3 l4 x8 l6 l7 u))) else (FX12_laysStands_146_b170 k94 l1 l2 l3 l4 l5 l6 l7 u))))))
theorem bX12_laysStands_146_94 {G : Gt} {X : Xt} {u' : Mem} (hX : CxOk G X cX12_laysStands 8 RX12 (none, SH, RHO, u') 3) (hR : CxRet G X none (none, SH, RHO, u')) {k25 : Int32 → Int32 → Int32 → Int32 → Mem → Option Mem} (hk25 : ∀ (l1 l2 l3 l4 : Int32) (u : Mem), k25 l1 l2 l3 l4 u = some u' → WM G X 25 [(0, .ref 146), (1, .int l1), (2, .int l2), (3, .int l3), (4, .int l4)] [] SH RHO u) {k94 : Int32 → Int32 → Int32 → Int32 → Int32 → Int32 → Int32 → Mem → Option Mem} (hk94 : ∀ (l1 l2 l3 l4 l5 l6 l7 : Int32) (u : Mem), k94 l1 l2 l3 l4 l5 l6 l7 u = some u' → WM G X 94 [(0, .ref 146), (1, .int l1), (2, .int l2), (3, .int l3), (4, .int l4), (5, .int l5), (6, .int l6), (7, .int l7)] [] SH RHO u) (l1 l2 l3 l4 l5 l6 l7 : Int32) (u : Mem) (h : FX12_laysStands_146_b94 k25 k94 l1 l2 l3 l4 l5 l6 l7 u = some u') : WM G X 94 [(0, .ref 146), (1, .int l1), (2, .int l2), (3, .int l3), (4, .int l4), (5, .int l5), (6, .int l6), (7, .int l7)] [] SH RHO u := by
  unfold FX12_laysStands_146_b94 at h
  refine w_iload 7 94 hX rfl dX12_laysStands_94 ?_
  refine w_aload_n 0 96 hX rfl rfl dX12_laysStands_96 ?_
  refine w_getR 97 hX CI_12 s_146 rfl r_146_0 fl_X12_7 rfl dX12_laysStands_97 ?_
  refine w_bipush 78 100 hX ib_78 dX12_laysStands_100 ?_
  refine w_iald 102 hX s_147 (rdK 78 78 n_78 (by decide) (by decide)) dX12_laysStands_102 ?_
  refine w_icmp_ge (tgt := 176) 103 hX dX12_laysStands_103 (by decide) (fun c1 => ?_) (fun c1 => ?_)
  · have h := it h c1
    exact w_sub [0, 1, 2, 3, 4, 5] rfl (bX12_laysStands_146_176 hX hR hk25 l1 l2 l3 l4 l5 u h)
  · have h := ie h c1
    refine w_iload 6 106 hX rfl dX12_laysStands_106 ?_
    refine w_if_eq (tgt := 176) 108 hX dX12_laysStands_108 (by decide) (fun c2 => ?_) (fun c2 => ?_)
    · have h := it h c2
      exact w_sub [0, 1, 2, 3, 4, 5] rfl (bX12_laysStands_146_176 hX hR hk25 l1 l2 l3 l4 l5 u h)
    · have h := ie h c2
      refine w_iload 4 111 hX rfl dX12_laysStands_111 ?_
      refine w_iload 7 113 hX rfl dX12_laysStands_113 ?_
      refine w_ishr 115 hX dX12_laysStands_115 ?_
      refine w_iconst 1 116 hX ic_1 dX12_laysStands_116 ?_
      refine w_iand 117 hX dX12_laysStands_117 ?_
      refine w_iconst 1 118 hX ic_1 dX12_laysStands_118 ?_
      refine w_icmp_ne (tgt := 170) 119 hX dX12_laysStands_119 (by decide) (fun c3 => ?_) (fun c3 => ?_)
      · have h := ie h c3
        exact bX12_laysStands_146_170 hX hR hk94 l1 l2 l3 l4 l5 l6 l7 u h
      · have h := it h c3
        refine w_aload_n 0 122 hX rfl rfl dX12_laysStands_122 ?_
        refine w_iload_n 1 123 hX rfl rfl dX12_laysStands_123 ?_
        refine w_iload 7 124 hX rfl dX12_laysStands_124 ?_
        refine w_iload_n 3 126 hX rfl rfl dX12_laysStands_126 ?_
        obtain ⟨x4, gx4, h⟩ := o_bind h
        refine w_invVi (av := [.int l1, .int l7, .int l3]) (st := []) 127 hX CI_12 s_146 rfl mv_yX12_canStand mi_yX12_canStand ml_X12_433 (CX12_canStand_146 l1 l7 l3 u gx4) rfl (by decide) (Nat.le_of_ble_eq_true rfl) (Nat.le_refl _) (Nat.le_refl _) dX12_laysStands_127 ?_
        refine w_if_eq (tgt := 170) 130 hX dX12_laysStands_130 (by decide) (fun c5 => ?_) (fun c5 => ?_)
        · have h := it h c5
          exact bX12_laysStands_146_170 hX hR hk94 l1 l2 l3 l4 l5 l6 l7 u h
        · have h := ie h c5
          refine w_iload 5 133 hX rfl dX12_laysStands_133 ?_
          refine w_aload_n 0 135 hX rfl rfl dX12_laysStands_135 ?_
          refine w_iload 7 136 hX rfl dX12_laysStands_136 ?_
          refine w_iload_n 3 138 hX rfl rfl dX12_laysStands_138 ?_
          obtain ⟨x6, gx6, h⟩ := o_bind h
          refine w_invVi (av := [.int l7, .int l3]) (st := [.int l5]) 139 hX CI_12 s_146 rfl mv_yX12_standWorth mi_yX12_standWorth ml_X12_436 (CX12_standWorth_146 l7 l3 u gx6) rfl (by decide) (Nat.le_of_ble_eq_true rfl) (Nat.le_refl _) (Nat.le_refl _) dX12_laysStands_139 ?_
          refine w_aload_n 0 142 hX rfl rfl dX12_laysStands_142 ?_
          refine w_getR 143 hX CI_12 s_146 rfl r_146_31 fl_X12_48 rfl dX12_laysStands_143 ?_
          refine w_sipush 4096 146 hX isp_4096 dX12_laysStands_146 ?_
          refine w_iload_n 3 149 hX rfl rfl dX12_laysStands_149 ?_
          refine w_iconst 1 150 hX ic_1 dX12_laysStands_150 ?_
          refine w_iadd 151 hX dX12_laysStands_151 ?_
          refine w_imul 152 hX dX12_laysStands_152 ?_
          refine w_iload 4 153 hX rfl dX12_laysStands_153 ?_
          refine w_iconst 1 155 hX ic_1 dX12_laysStands_155 ?_
          refine w_iload 7 156 hX rfl dX12_laysStands_156 ?_
          refine w_ishl 158 hX dX12_laysStands_158 ?_
          refine w_iconst (-1) 159 hX ic_m1 dX12_laysStands_159 ?_
          refine w_ixor 160 hX dX12_laysStands_160 ?_
          refine w_iand 161 hX dX12_laysStands_161 ?_
          refine w_iadd 162 hX dX12_laysStands_162 ?_
          obtain ⟨x7, gx7, h⟩ := o_bind h
          refine w_iald 163 hX s_158 gx7 dX12_laysStands_163 ?_
          refine w_iadd 164 hX dX12_laysStands_164 ?_
          obtain ⟨x8, gx8, h⟩ := o_bind h
          refine w_invSi (av := [.int l5, .int (x6 + x7)]) (st := []) 165 hX ms_yX12_greater mi_yX12_greater ml_X12_300 (CX12_greater l5 (x6 + x7) u gx8) rfl (by decide) (Nat.le_of_ble_eq_true rfl) (Nat.le_refl _) (Nat.le_refl _) dX12_laysStands_165 ?_
          refine w_istore (lv' := [(5, .int x8), (0, .ref 146), (1, .int l1), (2, .int l2), (3, .int l3), (4, .int l4), (6, .int l6), (7, .int l7)]) 168 hX dX12_laysStands_168 (by decide) rfl ?_
          exact w_sub [1, 2, 3, 4, 5, 0, 6, 7] rfl (bX12_laysStands_146_170 hX hR hk94 l1 l2 l3 l4 x8 l6 l7 u h)
def FX12_laysStands_146_L94 (k25 : Int32 → Int32 → Int32 → Int32 → Mem → Option Mem) : Nat → Int32 → Int32 → Int32 → Int32 → Int32 → Int32 → Int32 → Mem → Option Mem
  | 0, _, _, _, _, _, _, _, _ => none
  | n + 1, l1, l2, l3, l4, l5, l6, l7, u => FX12_laysStands_146_b94 k25 (FX12_laysStands_146_L94 k25 n) l1 l2 l3 l4 l5 l6 l7 u
theorem lX12_laysStands_146_94 {G : Gt} {X : Xt} {u' : Mem} (hX : CxOk G X cX12_laysStands 8 RX12 (none, SH, RHO, u') 3) (hR : CxRet G X none (none, SH, RHO, u')) {k25 : Int32 → Int32 → Int32 → Int32 → Mem → Option Mem} (hk25 : ∀ (l1 l2 l3 l4 : Int32) (u : Mem), k25 l1 l2 l3 l4 u = some u' → WM G X 25 [(0, .ref 146), (1, .int l1), (2, .int l2), (3, .int l3), (4, .int l4)] [] SH RHO u) : ∀ (n : Nat) (l1 l2 l3 l4 l5 l6 l7 : Int32) (u : Mem), FX12_laysStands_146_L94 k25 n l1 l2 l3 l4 l5 l6 l7 u = some u' → WM G X 94 [(0, .ref 146), (1, .int l1), (2, .int l2), (3, .int l3), (4, .int l4), (5, .int l5), (6, .int l6), (7, .int l7)] [] SH RHO u := by
  intro n
  induction n with
  | zero =>
    intro l1 l2 l3 l4 l5 l6 l7 u h
    exact nn_ h
  | succ n ih =>
    intro l1 l2 l3 l4 l5 l6 l7 u h
    exact bX12_laysStands_146_94 hX hR hk25 ih l1 l2 l3 l4 l5 l6 l7 u h
def FX12_laysStands_146_b89 (k25 : Int32 → Int32 → Int32 → Int32 → Mem → Option Mem) (l1 l2 l3 l4 l5 t0 : Int32) (u : Mem) : Option Mem :=
  FX12_laysStands_146_L94 k25 FU l1 l2 l3 l4 l5 t0 0 u
theorem bX12_laysStands_146_89 {G : Gt} {X : Xt} {u' : Mem} (hX : CxOk G X cX12_laysStands 8 RX12 (none, SH, RHO, u') 3) (hR : CxRet G X none (none, SH, RHO, u')) {k25 : Int32 → Int32 → Int32 → Int32 → Mem → Option Mem} (hk25 : ∀ (l1 l2 l3 l4 : Int32) (u : Mem), k25 l1 l2 l3 l4 u = some u' → WM G X 25 [(0, .ref 146), (1, .int l1), (2, .int l2), (3, .int l3), (4, .int l4)] [] SH RHO u) (l1 l2 l3 l4 l5 t0 : Int32) (u : Mem) (h : FX12_laysStands_146_b89 k25 l1 l2 l3 l4 l5 t0 u = some u') : WM G X 89 [(0, .ref 146), (1, .int l1), (2, .int l2), (3, .int l3), (4, .int l4), (5, .int l5)] [.int t0] SH RHO u := by
  unfold FX12_laysStands_146_b89 at h
  refine w_istore (lv' := [(6, .int t0), (0, .ref 146), (1, .int l1), (2, .int l2), (3, .int l3), (4, .int l4), (5, .int l5)]) 89 hX dX12_laysStands_89 (by decide) rfl ?_
  refine w_iconst 0 91 hX ic_0 dX12_laysStands_91 ?_
  refine w_istore (lv' := [(7, .int 0), (6, .int t0), (0, .ref 146), (1, .int l1), (2, .int l2), (3, .int l3), (4, .int l4), (5, .int l5)]) 92 hX dX12_laysStands_92 (by decide) rfl ?_
  exact w_sub [2, 3, 4, 5, 6, 7, 1, 0] rfl (lX12_laysStands_146_94 hX hR hk25 FU l1 l2 l3 l4 l5 t0 0 u h)
def FX12_laysStands_146_b61 (k25 : Int32 → Int32 → Int32 → Int32 → Mem → Option Mem) (l1 l2 l3 l4 t0 : Int32) (u : Mem) : Option Mem :=
  (if (u 147 78) ≤ l3 then (FX12_laysStands_146_b89 k25 l1 l2 l3 l4 t0 0 u) else ((FX12_isOf_146 l3 l1 1 u).bind fun x2 => (if x2 = 0 then (FX12_laysStands_146_b89 k25 l1 l2 l3 l4 t0 0 u) else (FX12_laysStands_146_b89 k25 l1 l2 l3 l4 t0 1 u))))
theorem bX12_laysStands_146_61 {G : Gt} {X : Xt} {u' : Mem} (hX : CxOk G X cX12_laysStands 8 RX12 (none, SH, RHO, u') 3) (hR : CxRet G X none (none, SH, RHO, u')) {k25 : Int32 → Int32 → Int32 → Int32 → Mem → Option Mem} (hk25 : ∀ (l1 l2 l3 l4 : Int32) (u : Mem), k25 l1 l2 l3 l4 u = some u' → WM G X 25 [(0, .ref 146), (1, .int l1), (2, .int l2), (3, .int l3), (4, .int l4)] [] SH RHO u) (l1 l2 l3 l4 t0 : Int32) (u : Mem) (h : FX12_laysStands_146_b61 k25 l1 l2 l3 l4 t0 u = some u') : WM G X 61 [(0, .ref 146), (1, .int l1), (2, .int l2), (3, .int l3), (4, .int l4)] [.int t0] SH RHO u := by
  unfold FX12_laysStands_146_b61 at h
  refine w_istore (lv' := [(5, .int t0), (0, .ref 146), (1, .int l1), (2, .int l2), (3, .int l3), (4, .int l4)]) 61 hX dX12_laysStands_61 (by decide) rfl ?_
  refine w_iload_n 4 63 hX rfl rfl dX12_laysStands_63 ?_
  refine w_aload_n 1 64 hX rfl rfl dX12_laysStands_64 ?_
  refine w_getR 65 hX CI_12 s_146 rfl r_146_0 fl_X12_7 rfl dX12_laysStands_65 ?_
  refine w_bipush 78 68 hX ib_78 dX12_laysStands_68 ?_
  refine w_iald 70 hX s_147 (rdK 78 78 n_78 (by decide) (by decide)) dX12_laysStands_70 ?_
  refine w_icmp_ge (tgt := 88) 71 hX dX12_laysStands_71 (by decide) (fun c1 => ?_) (fun c1 => ?_)
  · have h := it h c1
    refine w_iconst 0 88 hX ic_0 dX12_laysStands_88 ?_
    exact w_sub [1, 2, 3, 4, 5, 0] rfl (bX12_laysStands_146_89 hX hR hk25 l1 l2 l3 l4 t0 0 u h)
  · have h := ie h c1
    refine w_aload_n 1 74 hX rfl rfl dX12_laysStands_74 ?_
    refine w_iload_n 4 75 hX rfl rfl dX12_laysStands_75 ?_
    refine w_iload_n 2 76 hX rfl rfl dX12_laysStands_76 ?_
    refine w_iconst 1 77 hX ic_1 dX12_laysStands_77 ?_
    obtain ⟨x2, gx2, h⟩ := o_bind h
    refine w_invVi (av := [.int l3, .int l1, .int 1]) (st := []) 78 hX CI_12 s_146 rfl mv_yX12_isOf mi_yX12_isOf ml_X12_320 (CX12_isOf_146 l3 l1 1 u gx2) rfl (by decide) (Nat.le_of_ble_eq_true rfl) (Nat.le_refl _) (Nat.le_refl _) dX12_laysStands_78 ?_
    refine w_if_eq (tgt := 88) 81 hX dX12_laysStands_81 (by decide) (fun c3 => ?_) (fun c3 => ?_)
    · have h := it h c3
      refine w_iconst 0 88 hX ic_0 dX12_laysStands_88 ?_
      exact w_sub [1, 2, 3, 4, 5, 0] rfl (bX12_laysStands_146_89 hX hR hk25 l1 l2 l3 l4 t0 0 u h)
    · have h := ie h c3
      refine w_iconst 1 84 hX ic_1 dX12_laysStands_84 ?_
      refine w_goto (tgt := 89) 85 hX (by decide) dX12_laysStands_85 ?_
      exact w_sub [1, 2, 3, 4, 5, 0] rfl (bX12_laysStands_146_89 hX hR hk25 l1 l2 l3 l4 t0 1 u h)
def FX12_laysStands_146_b25 (k18 : Int32 → Int32 → Int32 → Mem → Option Mem) (k25 : Int32 → Int32 → Int32 → Int32 → Mem → Option Mem) (l1 l2 l3 l4 : Int32) (u : Mem) : Option Mem :=
  (if l2 ≤ l4 then (k18 l1 l2 (l3 + (-1)) u) else ((if l3 = (u 147 78) then (FX12_laysStands_146_b61 k25 l1 l2 l3 l4 0 u) else ((rdA u 158 53248 ((4096 * (l3 + 1)) + l4)).bind fun x3 => FX12_laysStands_146_b61 k25 l1 l2 l3 l4 x3 u))))
theorem bX12_laysStands_146_25 {G : Gt} {X : Xt} {u' : Mem} (hX : CxOk G X cX12_laysStands 8 RX12 (none, SH, RHO, u') 3) (hR : CxRet G X none (none, SH, RHO, u')) {k18 : Int32 → Int32 → Int32 → Mem → Option Mem} (hk18 : ∀ (l1 l2 l3 : Int32) (u : Mem), k18 l1 l2 l3 u = some u' → WM G X 18 [(0, .ref 146), (1, .int l1), (2, .int l2), (3, .int l3)] [] SH RHO u) {k25 : Int32 → Int32 → Int32 → Int32 → Mem → Option Mem} (hk25 : ∀ (l1 l2 l3 l4 : Int32) (u : Mem), k25 l1 l2 l3 l4 u = some u' → WM G X 25 [(0, .ref 146), (1, .int l1), (2, .int l2), (3, .int l3), (4, .int l4)] [] SH RHO u) (l1 l2 l3 l4 : Int32) (u : Mem) (h : FX12_laysStands_146_b25 k18 k25 l1 l2 l3 l4 u = some u') : WM G X 25 [(0, .ref 146), (1, .int l1), (2, .int l2), (3, .int l3), (4, .int l4)] [] SH RHO u := by
  unfold FX12_laysStands_146_b25 at h
  refine w_iload 4 25 hX rfl dX12_laysStands_25 ?_
  refine w_iload_n 2 27 hX rfl rfl dX12_laysStands_27 ?_
  refine w_icmp_ge (tgt := 197) 28 hX dX12_laysStands_28 (by decide) (fun c1 => ?_) (fun c1 => ?_)
  · have h := it h c1
    refine w_iinc (lv' := [(3, .int (l3 + (-1))), (0, .ref 146), (1, .int l1), (2, .int l2), (4, .int l4)]) 197 3 hX dX12_laysStands_197 rfl (inc_m1 _) (by decide) rfl ?_
    refine w_goto (tgt := 18) 200 hX (by decide) dX12_laysStands_200 ?_
    exact w_sub [1, 2, 3, 0] rfl (hk18 l1 l2 (l3 + (-1)) u h)
  · have h := ie h c1
    refine w_iload_n 3 31 hX rfl rfl dX12_laysStands_31 ?_
    refine w_aload_n 0 32 hX rfl rfl dX12_laysStands_32 ?_
    refine w_getR 33 hX CI_12 s_146 rfl r_146_0 fl_X12_7 rfl dX12_laysStands_33 ?_
    refine w_bipush 78 36 hX ib_78 dX12_laysStands_36 ?_
    refine w_iald 38 hX s_147 (rdK 78 78 n_78 (by decide) (by decide)) dX12_laysStands_38 ?_
    refine w_icmp_ne (tgt := 46) 39 hX dX12_laysStands_39 (by decide) (fun c2 => ?_) (fun c2 => ?_)
    · have h := ie h c2
      refine w_aload_n 0 46 hX rfl rfl dX12_laysStands_46 ?_
      refine w_getR 47 hX CI_12 s_146 rfl r_146_31 fl_X12_48 rfl dX12_laysStands_47 ?_
      refine w_sipush 4096 50 hX isp_4096 dX12_laysStands_50 ?_
      refine w_iload_n 3 53 hX rfl rfl dX12_laysStands_53 ?_
      refine w_iconst 1 54 hX ic_1 dX12_laysStands_54 ?_
      refine w_iadd 55 hX dX12_laysStands_55 ?_
      refine w_imul 56 hX dX12_laysStands_56 ?_
      refine w_iload 4 57 hX rfl dX12_laysStands_57 ?_
      refine w_iadd 59 hX dX12_laysStands_59 ?_
      obtain ⟨x3, gx3, h⟩ := o_bind h
      refine w_iald 60 hX s_158 gx3 dX12_laysStands_60 ?_
      exact bX12_laysStands_146_61 hX hR hk25 l1 l2 l3 l4 x3 u h
    · have h := it h c2
      refine w_iconst 0 42 hX ic_0 dX12_laysStands_42 ?_
      refine w_goto (tgt := 61) 43 hX (by decide) dX12_laysStands_43 ?_
      exact bX12_laysStands_146_61 hX hR hk25 l1 l2 l3 l4 0 u h
def FX12_laysStands_146_L25 (k18 : Int32 → Int32 → Int32 → Mem → Option Mem) : Nat → Int32 → Int32 → Int32 → Int32 → Mem → Option Mem
  | 0, _, _, _, _, _ => none
  | n + 1, l1, l2, l3, l4, u => FX12_laysStands_146_b25 k18 (FX12_laysStands_146_L25 k18 n) l1 l2 l3 l4 u
theorem lX12_laysStands_146_25 {G : Gt} {X : Xt} {u' : Mem} (hX : CxOk G X cX12_laysStands 8 RX12 (none, SH, RHO, u') 3) (hR : CxRet G X none (none, SH, RHO, u')) {k18 : Int32 → Int32 → Int32 → Mem → Option Mem} (hk18 : ∀ (l1 l2 l3 : Int32) (u : Mem), k18 l1 l2 l3 u = some u' → WM G X 18 [(0, .ref 146), (1, .int l1), (2, .int l2), (3, .int l3)] [] SH RHO u) : ∀ (n : Nat) (l1 l2 l3 l4 : Int32) (u : Mem), FX12_laysStands_146_L25 k18 n l1 l2 l3 l4 u = some u' → WM G X 25 [(0, .ref 146), (1, .int l1), (2, .int l2), (3, .int l3), (4, .int l4)] [] SH RHO u := by
  intro n
  induction n with
  | zero =>
    intro l1 l2 l3 l4 u h
    exact nn_ h
  | succ n ih =>
    intro l1 l2 l3 l4 u h
    exact bX12_laysStands_146_25 hX hR hk18 ih l1 l2 l3 l4 u h
def FX12_laysStands_146_b18 (k18 : Int32 → Int32 → Int32 → Mem → Option Mem) (l1 l2 l3 : Int32) (u : Mem) : Option Mem :=
  (if l3 < 0 then (some u) else (FX12_laysStands_146_L25 k18 FU l1 l2 l3 0 u))
theorem bX12_laysStands_146_18 {G : Gt} {X : Xt} {u' : Mem} (hX : CxOk G X cX12_laysStands 8 RX12 (none, SH, RHO, u') 3) (hR : CxRet G X none (none, SH, RHO, u')) {k18 : Int32 → Int32 → Int32 → Mem → Option Mem} (hk18 : ∀ (l1 l2 l3 : Int32) (u : Mem), k18 l1 l2 l3 u = some u' → WM G X 18 [(0, .ref 146), (1, .int l1), (2, .int l2), (3, .int l3)] [] SH RHO u) (l1 l2 l3 : Int32) (u : Mem) (h : FX12_laysStands_146_b18 k18 l1 l2 l3 u = some u') : WM G X 18 [(0, .ref 146), (1, .int l1), (2, .int l2), (3, .int l3)] [] SH RHO u := by
  unfold FX12_laysStands_146_b18 at h
  refine w_iload_n 3 18 hX rfl rfl dX12_laysStands_18 ?_
  refine w_if_lt (tgt := 203) 19 hX dX12_laysStands_19 (by decide) (fun c1 => ?_) (fun c1 => ?_)
  · have h := it h c1
    exact w_vret 203 hX hR dX12_laysStands_203 (by cases h; rfl)
  · have h := ie h c1
    refine w_iconst 0 22 hX ic_0 dX12_laysStands_22 ?_
    refine w_istore (lv' := [(4, .int 0), (0, .ref 146), (1, .int l1), (2, .int l2), (3, .int l3)]) 23 hX dX12_laysStands_23 (by decide) rfl ?_
    exact w_sub [1, 2, 3, 4, 0] rfl (lX12_laysStands_146_25 hX hR hk18 FU l1 l2 l3 0 u h)
def FX12_laysStands_146_L18 : Nat → Int32 → Int32 → Int32 → Mem → Option Mem
  | 0, _, _, _, _ => none
  | n + 1, l1, l2, l3, u => FX12_laysStands_146_b18 (FX12_laysStands_146_L18 n) l1 l2 l3 u
theorem lX12_laysStands_146_18 {G : Gt} {X : Xt} {u' : Mem} (hX : CxOk G X cX12_laysStands 8 RX12 (none, SH, RHO, u') 3) (hR : CxRet G X none (none, SH, RHO, u')) : ∀ (n : Nat) (l1 l2 l3 : Int32) (u : Mem), FX12_laysStands_146_L18 n l1 l2 l3 u = some u' → WM G X 18 [(0, .ref 146), (1, .int l1), (2, .int l2), (3, .int l3)] [] SH RHO u := by
  intro n
  induction n with
  | zero =>
    intro l1 l2 l3 u h
    exact nn_ h
  | succ n ih =>
    intro l1 l2 l3 u h
    exact bX12_laysStands_146_18 hX hR ih l1 l2 l3 u h
def FX12_laysStands_146 (p1 : Int32) (u : Mem) : Option Mem :=
  FX12_laysStands_146_L18 FU p1 ((1 : Int32) <<< ((u 147 78) &&& 31)) (u 147 78) u
theorem CX12_laysStands_146 {G : Gt} (p1 : Int32) (u : Mem) {u' : Mem} (h : FX12_laysStands_146 p1 u = some u') : CT G yX12_laysStands cX12_laysStands 8 none 3 [.ref 146, .int p1] SH RHO u (none, SH, RHO, u') :=
  ct_of (by decide) rfl (Nat.le_of_ble_eq_true rfl) (Nat.le_refl _) (Nat.le_refl _) (fun X hX hR => by
  unfold FX12_laysStands_146 at h
  refine w_iconst 1 0 hX ic_1 dX12_laysStands_0 ?_
  refine w_aload_n 0 1 hX rfl rfl dX12_laysStands_1 ?_
  refine w_getR 2 hX CI_12 s_146 rfl r_146_0 fl_X12_7 rfl dX12_laysStands_2 ?_
  refine w_bipush 78 5 hX ib_78 dX12_laysStands_5 ?_
  refine w_iald 7 hX s_147 (rdK 78 78 n_78 (by decide) (by decide)) dX12_laysStands_7 ?_
  refine w_ishl 8 hX dX12_laysStands_8 ?_
  refine w_istore_n (lv' := [(2, .int ((1 : Int32) <<< ((u 147 78) &&& 31))), (0, .ref 146), (1, .int p1)]) 9 hX rfl dX12_laysStands_9 (by decide) rfl ?_
  refine w_aload_n 1 10 hX rfl rfl dX12_laysStands_10 ?_
  refine w_getR 11 hX CI_12 s_146 rfl r_146_0 fl_X12_7 rfl dX12_laysStands_11 ?_
  refine w_bipush 78 14 hX ib_78 dX12_laysStands_14 ?_
  refine w_iald 16 hX s_147 (rdK 78 78 n_78 (by decide) (by decide)) dX12_laysStands_16 ?_
  refine w_istore_n (lv' := [(3, .int (u 147 78)), (2, .int ((1 : Int32) <<< ((u 147 78) &&& 31))), (0, .ref 146), (1, .int p1)]) 17 hX rfl dX12_laysStands_17 (by decide) rfl ?_
  exact w_sub [2, 3, 1, 0] rfl (lX12_laysStands_146_18 hX hR FU p1 ((1 : Int32) <<< ((u 147 78) &&& 31)) (u 147 78) u h))
def FX12_standIn_146_b93 (k3 : Int32 → Int32 → Int32 → Int32 → Mem → Option Int32) (l1 l2 l3 l4 : Int32) (u : Mem) : Option Int32 :=
  k3 l1 l2 l3 (l4 + 1) u
theorem bX12_standIn_146_93 {G : Gt} {X : Xt} {v : Int32} {u : Mem} (hX : CxOk G X cX12_standIn 5 RX12 (some (.int v), SH, RHO, u) 3) (hR : CxRet G X (some .int) (some (.int v), SH, RHO, u)) {k3 : Int32 → Int32 → Int32 → Int32 → Mem → Option Int32} (hk3 : ∀ (l1 l2 l3 l4 : Int32), k3 l1 l2 l3 l4 u = some v → WM G X 3 [(0, .ref 146), (1, .int l1), (2, .int l2), (3, .int l3), (4, .int l4)] [] SH RHO u) (l1 l2 l3 l4 : Int32) (h : FX12_standIn_146_b93 k3 l1 l2 l3 l4 u = some v) : WM G X 93 [(0, .ref 146), (1, .int l1), (2, .int l2), (3, .int l3), (4, .int l4)] [] SH RHO u := by
  unfold FX12_standIn_146_b93 at h
  refine w_iinc (lv' := [(4, .int (l4 + 1)), (0, .ref 146), (1, .int l1), (2, .int l2), (3, .int l3)]) 93 4 hX dX12_standIn_93 rfl (inc_1 _) (by decide) rfl ?_
  refine w_goto (tgt := 3) 96 hX (by decide) dX12_standIn_96 ?_
  exact w_sub [1, 2, 3, 4, 0] rfl (hk3 l1 l2 l3 (l4 + 1) h)
def FX12_standIn_146_b3 (k3 : Int32 → Int32 → Int32 → Int32 → Mem → Option Int32) (l1 l2 l3 l4 : Int32) (u : Mem) : Option Int32 :=
  (if (u 147 78) ≤ l4 then (some (-1)) else ((FX12_isOf_146 l2 l1 1 u).bind fun x2 => (if x2 = 0 then (some (-1)) else ((if ((l3 >>> (l4 &&& 31)) &&& 1) = 1 then ((FX12_canStand_146 l1 l4 l2 u).bind fun x5 => (if x5 = 0 then (FX12_standIn_146_b93 k3 l1 l2 l3 l4 u) else ((FX12_standWorth_146 l4 l2 u).bind fun x7 => (rdA u 158 53248 ((4096 * (l2 + 1)) + (l3 &&& (((1 : Int32) <<< (l4 &&& 31)) ^^^ (-1))))).bind fun x8 => (rdA u 158 53248 ((4096 * l2) + l3)).bind fun x9 => (if (x7 + x8) = x9 then (some l4) else (FX12_standIn_146_b93 k3 l1 l2 l3 l4 u))))) else (FX12_standIn_146_b93 k3 l1 l2 l3 l4 u))))))
theorem bX12_standIn_146_3 {G : Gt} {X : Xt} {v : Int32} {u : Mem} (hX : CxOk G X cX12_standIn 5 RX12 (some (.int v), SH, RHO, u) 3) (hR : CxRet G X (some .int) (some (.int v), SH, RHO, u)) {k3 : Int32 → Int32 → Int32 → Int32 → Mem → Option Int32} (hk3 : ∀ (l1 l2 l3 l4 : Int32), k3 l1 l2 l3 l4 u = some v → WM G X 3 [(0, .ref 146), (1, .int l1), (2, .int l2), (3, .int l3), (4, .int l4)] [] SH RHO u) (l1 l2 l3 l4 : Int32) (h : FX12_standIn_146_b3 k3 l1 l2 l3 l4 u = some v) : WM G X 3 [(0, .ref 146), (1, .int l1), (2, .int l2), (3, .int l3), (4, .int l4)] [] SH RHO u := by
  unfold FX12_standIn_146_b3 at h
  refine w_iload 4 3 hX rfl dX12_standIn_3 ?_
  refine w_aload_n 0 5 hX rfl rfl dX12_standIn_5 ?_
  refine w_getR 6 hX CI_12 s_146 rfl r_146_0 fl_X12_7 rfl dX12_standIn_6 ?_
  refine w_bipush 78 9 hX ib_78 dX12_standIn_9 ?_
  refine w_iald 11 hX s_147 (rdK 78 78 n_78 (by decide) (by decide)) dX12_standIn_11 ?_
  refine w_icmp_ge (tgt := 99) 12 hX dX12_standIn_12 (by decide) (fun c1 => ?_) (fun c1 => ?_)
  · have h := it h c1
    refine w_iconst (-1) 99 hX ic_m1 dX12_standIn_99 ?_
    exact w_iret 100 hX hR dX12_standIn_100 (by cases h; rfl)
  · have h := ie h c1
    refine w_aload_n 0 15 hX rfl rfl dX12_standIn_15 ?_
    refine w_iload_n 2 16 hX rfl rfl dX12_standIn_16 ?_
    refine w_iload_n 1 17 hX rfl rfl dX12_standIn_17 ?_
    refine w_iconst 1 18 hX ic_1 dX12_standIn_18 ?_
    obtain ⟨x2, gx2, h⟩ := o_bind h
    refine w_invVi (av := [.int l2, .int l1, .int 1]) (st := []) 19 hX CI_12 s_146 rfl mv_yX12_isOf mi_yX12_isOf ml_X12_320 (CX12_isOf_146 l2 l1 1 u gx2) rfl (by decide) (Nat.le_of_ble_eq_true rfl) (Nat.le_refl _) (Nat.le_refl _) dX12_standIn_19 ?_
    refine w_if_eq (tgt := 99) 22 hX dX12_standIn_22 (by decide) (fun c3 => ?_) (fun c3 => ?_)
    · have h := it h c3
      refine w_iconst (-1) 99 hX ic_m1 dX12_standIn_99 ?_
      exact w_iret 100 hX hR dX12_standIn_100 (by cases h; rfl)
    · have h := ie h c3
      refine w_iload_n 3 25 hX rfl rfl dX12_standIn_25 ?_
      refine w_iload 4 26 hX rfl dX12_standIn_26 ?_
      refine w_ishr 28 hX dX12_standIn_28 ?_
      refine w_iconst 1 29 hX ic_1 dX12_standIn_29 ?_
      refine w_iand 30 hX dX12_standIn_30 ?_
      refine w_iconst 1 31 hX ic_1 dX12_standIn_31 ?_
      refine w_icmp_ne (tgt := 93) 32 hX dX12_standIn_32 (by decide) (fun c4 => ?_) (fun c4 => ?_)
      · have h := ie h c4
        exact bX12_standIn_146_93 hX hR hk3 l1 l2 l3 l4 h
      · have h := it h c4
        refine w_aload_n 0 35 hX rfl rfl dX12_standIn_35 ?_
        refine w_iload_n 1 36 hX rfl rfl dX12_standIn_36 ?_
        refine w_iload 4 37 hX rfl dX12_standIn_37 ?_
        refine w_iload_n 2 39 hX rfl rfl dX12_standIn_39 ?_
        obtain ⟨x5, gx5, h⟩ := o_bind h
        refine w_invVi (av := [.int l1, .int l4, .int l2]) (st := []) 40 hX CI_12 s_146 rfl mv_yX12_canStand mi_yX12_canStand ml_X12_433 (CX12_canStand_146 l1 l4 l2 u gx5) rfl (by decide) (Nat.le_of_ble_eq_true rfl) (Nat.le_refl _) (Nat.le_refl _) dX12_standIn_40 ?_
        refine w_if_eq (tgt := 93) 43 hX dX12_standIn_43 (by decide) (fun c6 => ?_) (fun c6 => ?_)
        · have h := it h c6
          exact bX12_standIn_146_93 hX hR hk3 l1 l2 l3 l4 h
        · have h := ie h c6
          refine w_aload_n 0 46 hX rfl rfl dX12_standIn_46 ?_
          refine w_iload 4 47 hX rfl dX12_standIn_47 ?_
          refine w_iload_n 2 49 hX rfl rfl dX12_standIn_49 ?_
          obtain ⟨x7, gx7, h⟩ := o_bind h
          refine w_invVi (av := [.int l4, .int l2]) (st := []) 50 hX CI_12 s_146 rfl mv_yX12_standWorth mi_yX12_standWorth ml_X12_436 (CX12_standWorth_146 l4 l2 u gx7) rfl (by decide) (Nat.le_of_ble_eq_true rfl) (Nat.le_refl _) (Nat.le_refl _) dX12_standIn_50 ?_
          refine w_aload_n 0 53 hX rfl rfl dX12_standIn_53 ?_
          refine w_getR 54 hX CI_12 s_146 rfl r_146_31 fl_X12_48 rfl dX12_standIn_54 ?_
          refine w_sipush 4096 57 hX isp_4096 dX12_standIn_57 ?_
          refine w_iload_n 2 60 hX rfl rfl dX12_standIn_60 ?_
          refine w_iconst 1 61 hX ic_1 dX12_standIn_61 ?_
          refine w_iadd 62 hX dX12_standIn_62 ?_
          refine w_imul 63 hX dX12_standIn_63 ?_
          refine w_iload_n 3 64 hX rfl rfl dX12_standIn_64 ?_
          refine w_iconst 1 65 hX ic_1 dX12_standIn_65 ?_
          refine w_iload 4 66 hX rfl dX12_standIn_66 ?_
          refine w_ishl 68 hX dX12_standIn_68 ?_
          refine w_iconst (-1) 69 hX ic_m1 dX12_standIn_69 ?_
          refine w_ixor 70 hX dX12_standIn_70 ?_
          refine w_iand 71 hX dX12_standIn_71 ?_
          refine w_iadd 72 hX dX12_standIn_72 ?_
          obtain ⟨x8, gx8, h⟩ := o_bind h
          refine w_iald 73 hX s_158 gx8 dX12_standIn_73 ?_
          refine w_iadd 74 hX dX12_standIn_74 ?_
          refine w_aload_n 0 75 hX rfl rfl dX12_standIn_75 ?_
          refine w_getR 76 hX CI_12 s_146 rfl r_146_31 fl_X12_48 rfl dX12_standIn_76 ?_
          refine w_sipush 4096 79 hX isp_4096 dX12_standIn_79 ?_
          refine w_iload_n 2 82 hX rfl rfl dX12_standIn_82 ?_
          refine w_imul 83 hX dX12_standIn_83 ?_
          refine w_iload_n 3 84 hX rfl rfl dX12_standIn_84 ?_
          refine w_iadd 85 hX dX12_standIn_85 ?_
          obtain ⟨x9, gx9, h⟩ := o_bind h
          refine w_iald 86 hX s_158 gx9 dX12_standIn_86 ?_
          refine w_icmp_ne (tgt := 93) 87 hX dX12_standIn_87 (by decide) (fun c10 => ?_) (fun c10 => ?_)
          · have h := ie h c10
            exact bX12_standIn_146_93 hX hR hk3 l1 l2 l3 l4 h
          · have h := it h c10
            refine w_iload 4 90 hX rfl dX12_standIn_90 ?_
            exact w_iret 92 hX hR dX12_standIn_92 (by cases h; rfl)
def FX12_standIn_146_L3 : Nat → Int32 → Int32 → Int32 → Int32 → Mem → Option Int32
  | 0, _, _, _, _, _ => none
  | n + 1, l1, l2, l3, l4, u => FX12_standIn_146_b3 (FX12_standIn_146_L3 n) l1 l2 l3 l4 u
theorem lX12_standIn_146_3 {G : Gt} {X : Xt} {v : Int32} {u : Mem} (hX : CxOk G X cX12_standIn 5 RX12 (some (.int v), SH, RHO, u) 3) (hR : CxRet G X (some .int) (some (.int v), SH, RHO, u)) : ∀ (n : Nat) (l1 l2 l3 l4 : Int32), FX12_standIn_146_L3 n l1 l2 l3 l4 u = some v → WM G X 3 [(0, .ref 146), (1, .int l1), (2, .int l2), (3, .int l3), (4, .int l4)] [] SH RHO u := by
  intro n
  induction n with
  | zero =>
    intro l1 l2 l3 l4 h
    exact nn_ h
  | succ n ih =>
    intro l1 l2 l3 l4 h
    exact bX12_standIn_146_3 hX hR ih l1 l2 l3 l4 h
def FX12_standIn_146 (p1 p2 p3 : Int32) (u : Mem) : Option Int32 :=
  FX12_standIn_146_L3 FU p1 p2 p3 0 u
theorem CX12_standIn_146 {G : Gt} (p1 p2 p3 : Int32) (u : Mem) {v : Int32} (h : FX12_standIn_146 p1 p2 p3 u = some v) : CT G yX12_standIn cX12_standIn 5 (some .int) 3 [.ref 146, .int p1, .int p2, .int p3] SH RHO u (some (.int v), SH, RHO, u) :=
  ct_of (by decide) rfl (Nat.le_of_ble_eq_true rfl) (Nat.le_refl _) (Nat.le_refl _) (fun X hX hR => by
  unfold FX12_standIn_146 at h
  refine w_iconst 0 0 hX ic_0 dX12_standIn_0 ?_
  refine w_istore (lv' := [(4, .int 0), (0, .ref 146), (1, .int p1), (2, .int p2), (3, .int p3)]) 1 hX dX12_standIn_1 (by decide) rfl ?_
  exact w_sub [1, 2, 3, 4, 0] rfl (lX12_standIn_146_3 hX hR FU p1 p2 p3 0 h))
def FX12_stands_146_b142 (k106 : Int32 → Int32 → Int32 → Int32 → Int32 → Mem → Option (Int32 × Mem)) (l1 l2 l6 l7 t0 t1 : Int32) (u : Mem) : Option (Int32 × Mem) :=
  k106 l1 l2 (t0 &&& t1) l6 (l7 + 1) u
theorem bX12_stands_146_142 {G : Gt} {X : Xt} {v : Int32} {u' : Mem} (hX : CxOk G X cX12_stands 8 RX12 (some (.int v), SH, RHO, u') 4) (hR : CxRet G X (some .int) (some (.int v), SH, RHO, u')) {k106 : Int32 → Int32 → Int32 → Int32 → Int32 → Mem → Option (Int32 × Mem)} (hk106 : ∀ (l1 l2 l3 l6 l7 : Int32) (u : Mem), k106 l1 l2 l3 l6 l7 u = some (v, u') → WM G X 106 [(0, .ref 146), (1, .int l1), (2, .int l2), (3, .int l3), (6, .int l6), (7, .int l7)] [] SH RHO u) (l1 l2 l6 l7 t0 t1 : Int32) (u : Mem) (h : FX12_stands_146_b142 k106 l1 l2 l6 l7 t0 t1 u = some (v, u')) : WM G X 142 [(0, .ref 146), (1, .int l1), (2, .int l2), (6, .int l6), (7, .int l7)] [.int t1, .int t0] SH RHO u := by
  unfold FX12_stands_146_b142 at h
  refine w_iand 142 hX dX12_stands_142 ?_
  refine w_istore_n (lv' := [(3, .int (t0 &&& t1)), (0, .ref 146), (1, .int l1), (2, .int l2), (6, .int l6), (7, .int l7)]) 143 hX rfl dX12_stands_143 (by decide) rfl ?_
  refine w_iinc (lv' := [(7, .int (l7 + 1)), (3, .int (t0 &&& t1)), (0, .ref 146), (1, .int l1), (2, .int l2), (6, .int l6)]) 144 5 hX dX12_stands_144 rfl (inc_1 _) (by decide) rfl ?_
  refine w_goto (tgt := 106) 147 hX (by decide) dX12_stands_147 ?_
  exact w_sub [2, 3, 4, 1, 5, 0] rfl (hk106 l1 l2 (t0 &&& t1) l6 (l7 + 1) u h)
def FX12_stands_146_b106 (k106 : Int32 → Int32 → Int32 → Int32 → Int32 → Mem → Option (Int32 × Mem)) (l1 l2 l3 l6 l7 : Int32) (u : Mem) : Option (Int32 × Mem) :=
  (if (l2 - 10) < l7 then (some (l6, u)) else ((FX12_standIn_146 l1 l7 l3 u).bind fun x2 => (if x2 = (-1) then (FX12_stands_146_b142 k106 l1 l2 x2 l7 l3 l3 u) else (FX12_stands_146_b142 k106 l1 l2 x2 l7 l3 (((1 : Int32) <<< (x2 &&& 31)) ^^^ (-1)) u))))
theorem bX12_stands_146_106 {G : Gt} {X : Xt} {v : Int32} {u' : Mem} (hX : CxOk G X cX12_stands 8 RX12 (some (.int v), SH, RHO, u') 4) (hR : CxRet G X (some .int) (some (.int v), SH, RHO, u')) {k106 : Int32 → Int32 → Int32 → Int32 → Int32 → Mem → Option (Int32 × Mem)} (hk106 : ∀ (l1 l2 l3 l6 l7 : Int32) (u : Mem), k106 l1 l2 l3 l6 l7 u = some (v, u') → WM G X 106 [(0, .ref 146), (1, .int l1), (2, .int l2), (3, .int l3), (6, .int l6), (7, .int l7)] [] SH RHO u) (l1 l2 l3 l6 l7 : Int32) (u : Mem) (h : FX12_stands_146_b106 k106 l1 l2 l3 l6 l7 u = some (v, u')) : WM G X 106 [(0, .ref 146), (1, .int l1), (2, .int l2), (3, .int l3), (6, .int l6), (7, .int l7)] [] SH RHO u := by
  unfold FX12_stands_146_b106 at h
  refine w_iload 5 106 hX rfl dX12_stands_106 ?_
  refine w_iload_n 2 108 hX rfl rfl dX12_stands_108 ?_
  refine w_bipush 10 109 hX ib_10 dX12_stands_109 ?_
  refine w_isub 111 hX dX12_stands_111 ?_
  refine w_icmp_gt (tgt := 150) 112 hX dX12_stands_112 (by decide) (fun c1 => ?_) (fun c1 => ?_)
  · have h := it h c1
    refine w_iload 4 150 hX rfl dX12_stands_150 ?_
    exact w_iret 152 hX hR dX12_stands_152 (by cases h; rfl)
  · have h := ie h c1
    refine w_aload_n 0 115 hX rfl rfl dX12_stands_115 ?_
    refine w_iload_n 1 116 hX rfl rfl dX12_stands_116 ?_
    refine w_iload 5 117 hX rfl dX12_stands_117 ?_
    refine w_iload_n 3 119 hX rfl rfl dX12_stands_119 ?_
    obtain ⟨x2, gx2, h⟩ := o_bind h
    refine w_invVi (av := [.int l1, .int l7, .int l3]) (st := []) 120 hX CI_12 s_146 rfl mv_yX12_standIn mi_yX12_standIn ml_X12_442 (CX12_standIn_146 l1 l7 l3 u gx2) rfl (by decide) (Nat.le_of_ble_eq_true rfl) (Nat.le_refl _) (Nat.le_refl _) dX12_stands_120 ?_
    refine w_istore (lv' := [(6, .int x2), (0, .ref 146), (1, .int l1), (2, .int l2), (3, .int l3), (7, .int l7)]) 123 hX dX12_stands_123 (by decide) rfl ?_
    refine w_iload_n 4 125 hX rfl rfl dX12_stands_125 ?_
    refine w_iload 0 126 hX rfl dX12_stands_126 ?_
    refine w_iconst (-1) 128 hX ic_m1 dX12_stands_128 ?_
    refine w_icmp_ne (tgt := 136) 129 hX dX12_stands_129 (by decide) (fun c3 => ?_) (fun c3 => ?_)
    · have h := ie h c3
      refine w_iconst 1 136 hX ic_1 dX12_stands_136 ?_
      refine w_iload 0 137 hX rfl dX12_stands_137 ?_
      refine w_ishl 139 hX dX12_stands_139 ?_
      refine w_iconst (-1) 140 hX ic_m1 dX12_stands_140 ?_
      refine w_ixor 141 hX dX12_stands_141 ?_
      exact w_sub [1, 2, 3, 0, 5] rfl (bX12_stands_146_142 hX hR hk106 l1 l2 x2 l7 l3 (((1 : Int32) <<< (x2 &&& 31)) ^^^ (-1)) u h)
    · have h := it h c3
      refine w_iload_n 4 132 hX rfl rfl dX12_stands_132 ?_
      refine w_goto (tgt := 142) 133 hX (by decide) dX12_stands_133 ?_
      exact w_sub [1, 2, 3, 0, 5] rfl (bX12_stands_146_142 hX hR hk106 l1 l2 x2 l7 l3 l3 u h)
def FX12_stands_146_L106 : Nat → Int32 → Int32 → Int32 → Int32 → Int32 → Mem → Option (Int32 × Mem)
  | 0, _, _, _, _, _, _ => none
  | n + 1, l1, l2, l3, l6, l7, u => FX12_stands_146_b106 (FX12_stands_146_L106 n) l1 l2 l3 l6 l7 u
theorem lX12_stands_146_106 {G : Gt} {X : Xt} {v : Int32} {u' : Mem} (hX : CxOk G X cX12_stands 8 RX12 (some (.int v), SH, RHO, u') 4) (hR : CxRet G X (some .int) (some (.int v), SH, RHO, u')) : ∀ (n : Nat) (l1 l2 l3 l6 l7 : Int32) (u : Mem), FX12_stands_146_L106 n l1 l2 l3 l6 l7 u = some (v, u') → WM G X 106 [(0, .ref 146), (1, .int l1), (2, .int l2), (3, .int l3), (6, .int l6), (7, .int l7)] [] SH RHO u := by
  intro n
  induction n with
  | zero =>
    intro l1 l2 l3 l6 l7 u h
    exact nn_ h
  | succ n ih =>
    intro l1 l2 l3 l6 l7 u h
    exact bX12_stands_146_106 hX hR ih l1 l2 l3 l6 l7 u h
def FX12_stands_146_b37 (l1 l2 : Int32) (u : Mem) : Option (Int32 × Mem) :=
  (FX12_laysStands_146 l1 u).bind fun u2 => (rdA u2 158 53248 (((1 : Int32) <<< ((u2 147 78) &&& 31)) - 1)).bind fun x3 => (dvI ((x3 + 10000) - 1) 10000).bind fun x4 => (if 2 ≤ l2 then (FX12_stands_146_L106 FU l1 l2 (((1 : Int32) <<< ((u2 147 78) &&& 31)) - 1) (-1) 0 u2) else ((if l2 = 0 then (some (x4, u2)) else (some ((x4 * 10000) - x3, u2)))))
theorem bX12_stands_146_37 {G : Gt} {X : Xt} {v : Int32} {u' : Mem} (hX : CxOk G X cX12_stands 8 RX12 (some (.int v), SH, RHO, u') 4) (hR : CxRet G X (some .int) (some (.int v), SH, RHO, u')) (l1 l2 : Int32) (u : Mem) (h : FX12_stands_146_b37 l1 l2 u = some (v, u')) : WM G X 37 [(0, .ref 146), (1, .int l1), (2, .int l2)] [] SH RHO u := by
  unfold FX12_stands_146_b37 at h
  refine w_aload_n 0 37 hX rfl rfl dX12_stands_37 ?_
  refine w_iload_n 1 38 hX rfl rfl dX12_stands_38 ?_
  obtain ⟨u2, gu2, h⟩ := o_bind h
  refine w_invVv (av := [.int l1]) (st := []) 39 hX CI_12 s_146 rfl mv_yX12_laysStands mi_yX12_laysStands ml_X12_439 (CX12_laysStands_146 l1 u gu2) rfl (by decide) (Nat.le_of_ble_eq_true rfl) (Nat.le_refl _) (Nat.le_refl _) dX12_stands_39 ?_
  refine w_iconst 1 42 hX ic_1 dX12_stands_42 ?_
  refine w_aload_n 0 43 hX rfl rfl dX12_stands_43 ?_
  refine w_getR 44 hX CI_12 s_146 rfl r_146_0 fl_X12_7 rfl dX12_stands_44 ?_
  refine w_bipush 78 47 hX ib_78 dX12_stands_47 ?_
  refine w_iald 49 hX s_147 (rdK 78 78 n_78 (by decide) (by decide)) dX12_stands_49 ?_
  refine w_ishl 50 hX dX12_stands_50 ?_
  refine w_iconst 1 51 hX ic_1 dX12_stands_51 ?_
  refine w_isub 52 hX dX12_stands_52 ?_
  refine w_istore_n (lv' := [(3, .int (((1 : Int32) <<< ((u2 147 78) &&& 31)) - 1)), (0, .ref 146), (1, .int l1), (2, .int l2)]) 53 hX rfl dX12_stands_53 (by decide) rfl ?_
  refine w_aload_n 1 54 hX rfl rfl dX12_stands_54 ?_
  refine w_getR 55 hX CI_12 s_146 rfl r_146_31 fl_X12_48 rfl dX12_stands_55 ?_
  refine w_iload_n 0 58 hX rfl rfl dX12_stands_58 ?_
  obtain ⟨x3, gx3, h⟩ := o_bind h
  refine w_iald 59 hX s_158 gx3 dX12_stands_59 ?_
  refine w_istore (lv' := [(4, .int x3), (3, .int (((1 : Int32) <<< ((u2 147 78) &&& 31)) - 1)), (0, .ref 146), (1, .int l1), (2, .int l2)]) 60 hX dX12_stands_60 (by decide) rfl ?_
  refine w_iload 0 62 hX rfl dX12_stands_62 ?_
  refine w_sipush 10000 64 hX isp_10000 dX12_stands_64 ?_
  refine w_iadd 67 hX dX12_stands_67 ?_
  refine w_iconst 1 68 hX ic_1 dX12_stands_68 ?_
  refine w_isub 69 hX dX12_stands_69 ?_
  refine w_sipush 10000 70 hX isp_10000 dX12_stands_70 ?_
  obtain ⟨x4, gx4, h⟩ := o_bind h
  obtain ⟨qx4, jx4⟩ := dvI_ok gx4
  refine w_idiv 73 hX qx4 dX12_stands_73 ?_
  rw [jx4]
  refine w_istore (lv' := [(5, .int x4), (4, .int x3), (3, .int (((1 : Int32) <<< ((u2 147 78) &&& 31)) - 1)), (0, .ref 146), (1, .int l1), (2, .int l2)]) 74 hX dX12_stands_74 (by decide) rfl ?_
  refine w_iload_n 5 76 hX rfl rfl dX12_stands_76 ?_
  refine w_iconst 2 77 hX ic_2 dX12_stands_77 ?_
  refine w_icmp_ge (tgt := 100) 78 hX dX12_stands_78 (by decide) (fun c5 => ?_) (fun c5 => ?_)
  · have h := it h c5
    refine w_iconst (-1) 100 hX ic_m1 dX12_stands_100 ?_
    refine w_istore (lv' := [(6, .int (-1)), (5, .int x4), (4, .int x3), (3, .int (((1 : Int32) <<< ((u2 147 78) &&& 31)) - 1)), (0, .ref 146), (1, .int l1), (2, .int l2)]) 101 hX dX12_stands_101 (by decide) rfl ?_
    refine w_iconst 0 103 hX ic_0 dX12_stands_103 ?_
    refine w_istore (lv' := [(7, .int 0), (6, .int (-1)), (5, .int x4), (4, .int x3), (3, .int (((1 : Int32) <<< ((u2 147 78) &&& 31)) - 1)), (0, .ref 146), (1, .int l1), (2, .int l2)]) 104 hX dX12_stands_104 (by decide) rfl ?_
    exact w_sub [5, 6, 7, 4, 1, 0] rfl (lX12_stands_146_106 hX hR FU l1 l2 (((1 : Int32) <<< ((u2 147 78) &&& 31)) - 1) (-1) 0 u2 h)
  · have h := ie h c5
    refine w_iload_n 5 81 hX rfl rfl dX12_stands_81 ?_
    refine w_if_ne (tgt := 90) 82 hX dX12_stands_82 (by decide) (fun c6 => ?_) (fun c6 => ?_)
    · have h := ie h c6
      refine w_iload 0 90 hX rfl dX12_stands_90 ?_
      refine w_sipush 10000 92 hX isp_10000 dX12_stands_92 ?_
      refine w_imul 95 hX dX12_stands_95 ?_
      refine w_iload 1 96 hX rfl dX12_stands_96 ?_
      refine w_isub 98 hX dX12_stands_98 ?_
      exact w_iret 99 hX hR dX12_stands_99 (by cases h; rfl)
    · have h := it h c6
      refine w_iload 0 85 hX rfl dX12_stands_85 ?_
      refine w_goto (tgt := 99) 87 hX (by decide) dX12_stands_87 ?_
      exact w_iret 99 hX hR dX12_stands_99 (by cases h; rfl)
def FX12_stands_146 (p1 p2 : Int32) (u : Mem) : Option (Int32 × Mem) :=
  (FX12_isCountry p1).bind fun x1 => (if x1 = 0 then (some ((-1), u)) else ((FX12_isIn p2 0 1).bind fun x3 => (if x3 = 0 then ((FX12_isIn p2 10 (9 + (u 147 78))).bind fun x5 => (if x5 = 0 then (some ((-1), u)) else (FX12_stands_146_b37 p1 p2 u))) else (FX12_stands_146_b37 p1 p2 u))))
theorem CX12_stands_146 {G : Gt} (p1 p2 : Int32) (u : Mem) {v : Int32} {u' : Mem} (h : FX12_stands_146 p1 p2 u = some (v, u')) : CT G yX12_stands cX12_stands 8 (some .int) 4 [.ref 146, .int p1, .int p2] SH RHO u (some (.int v), SH, RHO, u') :=
  ct_of (by decide) rfl (Nat.le_of_ble_eq_true rfl) (Nat.le_refl _) (Nat.le_refl _) (fun X hX hR => by
  unfold FX12_stands_146 at h
  refine w_iload_n 1 0 hX rfl rfl dX12_stands_0 ?_
  obtain ⟨x1, gx1, h⟩ := o_bind h
  refine w_invSi (av := [.int p1]) (st := []) 1 hX ms_yX12_isCountry mi_yX12_isCountry ml_X12_66 (CX12_isCountry p1 u gx1) rfl (by decide) (Nat.le_of_ble_eq_true rfl) (Nat.le_refl _) (Nat.le_refl _) dX12_stands_1 ?_
  refine w_if_eq (tgt := 35) 4 hX dX12_stands_4 (by decide) (fun c2 => ?_) (fun c2 => ?_)
  · have h := it h c2
    refine w_iconst (-1) 35 hX ic_m1 dX12_stands_35 ?_
    exact w_iret 36 hX hR dX12_stands_36 (by cases h; rfl)
  · have h := ie h c2
    refine w_iload_n 2 7 hX rfl rfl dX12_stands_7 ?_
    refine w_iconst 0 8 hX ic_0 dX12_stands_8 ?_
    refine w_iconst 1 9 hX ic_1 dX12_stands_9 ?_
    obtain ⟨x3, gx3, h⟩ := o_bind h
    refine w_invSi (av := [.int p2, .int 0, .int 1]) (st := []) 10 hX ms_yX12_isIn mi_yX12_isIn ml_X12_54 (CX12_isIn p2 0 1 u gx3) rfl (by decide) (Nat.le_of_ble_eq_true rfl) (Nat.le_refl _) (Nat.le_refl _) dX12_stands_10 ?_
    refine w_if_ne (tgt := 37) 13 hX dX12_stands_13 (by decide) (fun c4 => ?_) (fun c4 => ?_)
    · have h := ie h c4
      exact bX12_stands_146_37 hX hR p1 p2 u h
    · have h := it h c4
      refine w_iload_n 2 16 hX rfl rfl dX12_stands_16 ?_
      refine w_bipush 10 17 hX ib_10 dX12_stands_17 ?_
      refine w_bipush 9 19 hX ib_9 dX12_stands_19 ?_
      refine w_aload_n 0 21 hX rfl rfl dX12_stands_21 ?_
      refine w_getR 22 hX CI_12 s_146 rfl r_146_0 fl_X12_7 rfl dX12_stands_22 ?_
      refine w_bipush 78 25 hX ib_78 dX12_stands_25 ?_
      refine w_iald 27 hX s_147 (rdK 78 78 n_78 (by decide) (by decide)) dX12_stands_27 ?_
      refine w_iadd 28 hX dX12_stands_28 ?_
      obtain ⟨x5, gx5, h⟩ := o_bind h
      refine w_invSi (av := [.int p2, .int 10, .int (9 + (u 147 78))]) (st := []) 29 hX ms_yX12_isIn mi_yX12_isIn ml_X12_54 (CX12_isIn p2 10 (9 + (u 147 78)) u gx5) rfl (by decide) (Nat.le_of_ble_eq_true rfl) (Nat.le_refl _) (Nat.le_refl _) dX12_stands_29 ?_
      refine w_if_ne (tgt := 37) 32 hX dX12_stands_32 (by decide) (fun c6 => ?_) (fun c6 => ?_)
      · have h := ie h c6
        exact bX12_stands_146_37 hX hR p1 p2 u h
      · have h := it h c6
        refine w_iconst (-1) 35 hX ic_m1 dX12_stands_35 ?_
        exact w_iret 36 hX hR dX12_stands_36 (by cases h; rfl))
def FX8_find_19_b47 (l1 l2 l3 t0 : Int32) (u : Mem) : Option (Int32 × Mem) :=
  (if t0 = 0 then (some ((-1), u)) else ((if (u 19 3) < 0 then (some ((-1), u)) else ((if (u 19 3) < 10 then ((wrA u 20 10 (u 19 3) l1).bind fun u4 => (wrA u4 21 10 (u4 19 3) l2).bind fun u5 => (wrA u5 22 10 (u5 19 3) l3).bind fun u6 => (some (mupd u6 19 3 ((u6 19 3) + 1))).bind fun u7 => some (u7 19 3, u7)) else (some ((-1), u)))))))
theorem bX8_find_19_47 {G : Gt} {X : Xt} {v : Int32} {u' : Mem} (hX : CxOk G X cX8_find 5 RX8 (some (.int v), SH, RHO, u') 1) (hR : CxRet G X (some .int) (some (.int v), SH, RHO, u')) (l1 l2 l3 t0 : Int32) (u : Mem) (h : FX8_find_19_b47 l1 l2 l3 t0 u = some (v, u')) : WM G X 47 [(0, .ref 19), (1, .int l1), (2, .int l2), (3, .int l3)] [.int t0] SH RHO u := by
  unfold FX8_find_19_b47 at h
  refine w_istore (lv' := [(4, .int t0), (0, .ref 19), (1, .int l1), (2, .int l2), (3, .int l3)]) 47 hX dX8_find_47 (by decide) rfl ?_
  refine w_iload 0 49 hX rfl dX8_find_49 ?_
  refine w_if_eq (tgt := 70) 51 hX dX8_find_51 (by decide) (fun c1 => ?_) (fun c1 => ?_)
  · have h := it h c1
    refine w_iconst (-1) 70 hX ic_m1 dX8_find_70 ?_
    exact w_iret 71 hX hR dX8_find_71 (by cases h; rfl)
  · have h := ie h c1
    refine w_aload_n 1 54 hX rfl rfl dX8_find_54 ?_
    refine w_getI (j := 3) 55 hX CI_8 s_19 rfl fl_X8_25 rfl dX8_find_55 ?_
    refine w_if_lt (tgt := 70) 58 hX dX8_find_58 (by decide) (fun c2 => ?_) (fun c2 => ?_)
    · have h := it h c2
      refine w_iconst (-1) 70 hX ic_m1 dX8_find_70 ?_
      exact w_iret 71 hX hR dX8_find_71 (by cases h; rfl)
    · have h := ie h c2
      refine w_aload_n 1 61 hX rfl rfl dX8_find_61 ?_
      refine w_getI (j := 3) 62 hX CI_8 s_19 rfl fl_X8_25 rfl dX8_find_62 ?_
      refine w_bipush 10 65 hX ib_10 dX8_find_65 ?_
      refine w_icmp_lt (tgt := 72) 67 hX dX8_find_67 (by decide) (fun c3 => ?_) (fun c3 => ?_)
      · have h := it h c3
        refine w_aload_n 1 72 hX rfl rfl dX8_find_72 ?_
        refine w_getR 73 hX CI_8 s_19 rfl r_19_0 fl_X8_11 rfl dX8_find_73 ?_
        refine w_aload_n 1 76 hX rfl rfl dX8_find_76 ?_
        refine w_getI (j := 3) 77 hX CI_8 s_19 rfl fl_X8_25 rfl dX8_find_77 ?_
        refine w_iload_n 2 80 hX rfl rfl dX8_find_80 ?_
        obtain ⟨u4, gu4, h⟩ := o_bind h
        refine w_iast 81 hX s_20 gu4 dX8_find_81 ?_
        refine w_aload_n 1 82 hX rfl rfl dX8_find_82 ?_
        refine w_getR 83 hX CI_8 s_19 rfl r_19_1 fl_X8_15 rfl dX8_find_83 ?_
        refine w_aload_n 1 86 hX rfl rfl dX8_find_86 ?_
        refine w_getI (j := 3) 87 hX CI_8 s_19 rfl fl_X8_25 rfl dX8_find_87 ?_
        refine w_iload_n 3 90 hX rfl rfl dX8_find_90 ?_
        obtain ⟨u5, gu5, h⟩ := o_bind h
        refine w_iast 91 hX s_21 gu5 dX8_find_91 ?_
        refine w_aload_n 1 92 hX rfl rfl dX8_find_92 ?_
        refine w_getR 93 hX CI_8 s_19 rfl r_19_2 fl_X8_18 rfl dX8_find_93 ?_
        refine w_aload_n 1 96 hX rfl rfl dX8_find_96 ?_
        refine w_getI (j := 3) 97 hX CI_8 s_19 rfl fl_X8_25 rfl dX8_find_97 ?_
        refine w_iload_n 4 100 hX rfl rfl dX8_find_100 ?_
        obtain ⟨u6, gu6, h⟩ := o_bind h
        refine w_iast 101 hX s_22 gu6 dX8_find_101 ?_
        refine w_aload_n 1 102 hX rfl rfl dX8_find_102 ?_
        refine w_dup 103 hX rfl dX8_find_103 ?_
        refine w_getI (j := 3) 104 hX CI_8 s_19 rfl fl_X8_25 rfl dX8_find_104 ?_
        refine w_iconst 1 107 hX ic_1 dX8_find_107 ?_
        refine w_iadd 108 hX dX8_find_108 ?_
        obtain ⟨u7, gu7, h⟩ := o_bind h
        refine w_putI (j := 3) 109 hX CI_8 s_19 rfl fl_X8_25 rfl rfl rfl rfl dX8_find_109 ?_
        rw [Option.some.inj gu7]
        refine w_aload_n 1 112 hX rfl rfl dX8_find_112 ?_
        refine w_getI (j := 3) 113 hX CI_8 s_19 rfl fl_X8_25 rfl dX8_find_113 ?_
        exact w_iret 116 hX hR dX8_find_116 (by cases h; rfl)
      · have h := ie h c3
        refine w_iconst (-1) 70 hX ic_m1 dX8_find_70 ?_
        exact w_iret 71 hX hR dX8_find_71 (by cases h; rfl)
def FX8_find_19 (p1 p2 p3 : Int32) (u : Mem) : Option (Int32 × Mem) :=
  (if p1 = (-1) then ((some (mupd u 19 3 0)).bind fun u8 => some (0, u8)) else ((if p1 < 0 then (FX8_find_19_b47 p1 p2 p3 0 u) else ((if 30 < p1 then (FX8_find_19_b47 p1 p2 p3 0 u) else ((if p2 < 0 then (FX8_find_19_b47 p1 p2 p3 0 u) else ((if 16 ≤ p2 then (FX8_find_19_b47 p1 p2 p3 0 u) else ((if p3 < 0 then (FX8_find_19_b47 p1 p2 p3 0 u) else ((if 9 < p3 then (FX8_find_19_b47 p1 p2 p3 0 u) else (FX8_find_19_b47 p1 p2 p3 1 u))))))))))))))
theorem CX8_find_19 {G : Gt} (p1 p2 p3 : Int32) (u : Mem) {v : Int32} {u' : Mem} (h : FX8_find_19 p1 p2 p3 u = some (v, u')) : CT G yX8_find cX8_find 5 (some .int) 1 [.ref 19, .int p1, .int p2, .int p3] SH RHO u (some (.int v), SH, RHO, u') :=
  ct_of (by decide) rfl (Nat.le_of_ble_eq_true rfl) (Nat.le_refl _) (Nat.le_refl _) (fun X hX hR => by
  unfold FX8_find_19 at h
  refine w_iload_n 1 0 hX rfl rfl dX8_find_0 ?_
  refine w_iconst (-1) 1 hX ic_m1 dX8_find_1 ?_
  refine w_icmp_ne (tgt := 12) 2 hX dX8_find_2 (by decide) (fun c1 => ?_) (fun c1 => ?_)
  · have h := ie h c1
    refine w_iload_n 1 12 hX rfl rfl dX8_find_12 ?_
    refine w_if_lt (tgt := 46) 13 hX dX8_find_13 (by decide) (fun c2 => ?_) (fun c2 => ?_)
    · have h := it h c2
      refine w_iconst 0 46 hX ic_0 dX8_find_46 ?_
      exact bX8_find_19_47 hX hR p1 p2 p3 0 u h
    · have h := ie h c2
      refine w_iload_n 1 16 hX rfl rfl dX8_find_16 ?_
      refine w_bipush 30 17 hX ib_30 dX8_find_17 ?_
      refine w_icmp_gt (tgt := 46) 19 hX dX8_find_19 (by decide) (fun c3 => ?_) (fun c3 => ?_)
      · have h := it h c3
        refine w_iconst 0 46 hX ic_0 dX8_find_46 ?_
        exact bX8_find_19_47 hX hR p1 p2 p3 0 u h
      · have h := ie h c3
        refine w_iload_n 2 22 hX rfl rfl dX8_find_22 ?_
        refine w_if_lt (tgt := 46) 23 hX dX8_find_23 (by decide) (fun c4 => ?_) (fun c4 => ?_)
        · have h := it h c4
          refine w_iconst 0 46 hX ic_0 dX8_find_46 ?_
          exact bX8_find_19_47 hX hR p1 p2 p3 0 u h
        · have h := ie h c4
          refine w_iload_n 2 26 hX rfl rfl dX8_find_26 ?_
          refine w_bipush 16 27 hX ib_16 dX8_find_27 ?_
          refine w_icmp_ge (tgt := 46) 29 hX dX8_find_29 (by decide) (fun c5 => ?_) (fun c5 => ?_)
          · have h := it h c5
            refine w_iconst 0 46 hX ic_0 dX8_find_46 ?_
            exact bX8_find_19_47 hX hR p1 p2 p3 0 u h
          · have h := ie h c5
            refine w_iload_n 3 32 hX rfl rfl dX8_find_32 ?_
            refine w_if_lt (tgt := 46) 33 hX dX8_find_33 (by decide) (fun c6 => ?_) (fun c6 => ?_)
            · have h := it h c6
              refine w_iconst 0 46 hX ic_0 dX8_find_46 ?_
              exact bX8_find_19_47 hX hR p1 p2 p3 0 u h
            · have h := ie h c6
              refine w_iload_n 3 36 hX rfl rfl dX8_find_36 ?_
              refine w_bipush 9 37 hX ib_9 dX8_find_37 ?_
              refine w_icmp_gt (tgt := 46) 39 hX dX8_find_39 (by decide) (fun c7 => ?_) (fun c7 => ?_)
              · have h := it h c7
                refine w_iconst 0 46 hX ic_0 dX8_find_46 ?_
                exact bX8_find_19_47 hX hR p1 p2 p3 0 u h
              · have h := ie h c7
                refine w_iconst 1 42 hX ic_1 dX8_find_42 ?_
                refine w_goto (tgt := 47) 43 hX (by decide) dX8_find_43 ?_
                exact bX8_find_19_47 hX hR p1 p2 p3 1 u h
  · have h := it h c1
    refine w_aload_n 0 5 hX rfl rfl dX8_find_5 ?_
    refine w_iconst 0 6 hX ic_0 dX8_find_6 ?_
    obtain ⟨u8, gu8, h⟩ := o_bind h
    refine w_putI (j := 3) 7 hX CI_8 s_19 rfl fl_X8_25 rfl rfl rfl rfl dX8_find_7 ?_
    rw [Option.some.inj gu8]
    refine w_iconst 0 10 hX ic_0 dX8_find_10 ?_
    exact w_iret 11 hX hR dX8_find_11 (by cases h; rfl))
def FX11_slipper_0 (p1 p2 p3 : Int32) (u : Mem) : Option (Int32 × Mem) :=
  bnd2 (FX8_find_19 p1 p2 p3 u) fun x1 u2 => some (x1, u2)
theorem CX11_slipper_0 {G : Gt} (p1 p2 p3 : Int32) (u : Mem) {v : Int32} {u' : Mem} (h : FX11_slipper_0 p1 p2 p3 u = some (v, u')) : CT G yX11_slipper cX11_slipper 4 (some .int) 2 [.ref 0, .int p1, .int p2, .int p3] SH RHO u (some (.int v), SH, RHO, u') :=
  ct_of (by decide) rfl (Nat.le_of_ble_eq_true rfl) (Nat.le_refl _) (Nat.le_refl _) (fun X hX hR => by
  unfold FX11_slipper_0 at h
  refine w_aload_n 0 0 hX rfl rfl dX11_slipper_0 ?_
  refine w_getR 1 hX CI_11 s_0 rfl r_0_0 fl_X11_10 rfl dX11_slipper_1 ?_
  refine w_getR 4 hX CI_9 s_1 rfl r_1_15 fl_X11_241 rfl dX11_slipper_4 ?_
  refine w_iload_n 1 7 hX rfl rfl dX11_slipper_7 ?_
  refine w_iload_n 2 8 hX rfl rfl dX11_slipper_8 ?_
  refine w_iload_n 3 9 hX rfl rfl dX11_slipper_9 ?_
  obtain ⟨x1, u2, gx1, h⟩ := o_bnd2 h
  refine w_invVi (av := [.int p1, .int p2, .int p3]) (st := []) 10 hX CI_8 s_19 rfl mv_yX8_find mi_yX8_find ml_X11_245 (CX8_find_19 p1 p2 p3 u gx1) rfl (by decide) (Nat.le_of_ble_eq_true rfl) (Nat.le_refl _) (Nat.le_refl _) dX11_slipper_10 ?_
  exact w_iret 13 hX hR dX11_slipper_13 (by cases h; rfl))
def FX12_slipper_146 (p1 p2 p3 : Int32) (u : Mem) : Option (Int32 × Mem) :=
  (if p1 = (-1) then ((some (mupd u 147 88 0)).bind fun u13 => some (0, u13)) else ((FX12_isIn p1 0 30).bind fun x2 => (if x2 = 0 then (some ((-1), u)) else ((FX12_isIn p2 0 15).bind fun x4 => (if x4 = 0 then (some ((-1), u)) else ((FX12_isIn p3 0 9).bind fun x6 => (if x6 = 0 then (some ((-1), u)) else ((if (u 147 88) = 10 then (some ((-1), u)) else ((wrA u 147 1786 (270 + (3 * (u 147 88))) p1).bind fun u9 => (wrA u9 147 1786 ((270 + (3 * (u 147 88))) + 1) p2).bind fun u10 => (wrA u10 147 1786 ((270 + (3 * (u 147 88))) + 2) p3).bind fun u11 => (some (mupd u11 147 88 ((u11 147 88) + 1))).bind fun u12 => some (u12 147 88, u12)))))))))))
theorem CX12_slipper_146 {G : Gt} (p1 p2 p3 : Int32) (u : Mem) {v : Int32} {u' : Mem} (h : FX12_slipper_146 p1 p2 p3 u = some (v, u')) : CT G yX12_slipper cX12_slipper 5 (some .int) 2 [.ref 146, .int p1, .int p2, .int p3] SH RHO u (some (.int v), SH, RHO, u') :=
  ct_of (by decide) rfl (Nat.le_of_ble_eq_true rfl) (Nat.le_refl _) (Nat.le_refl _) (fun X hX hR => by
  unfold FX12_slipper_146 at h
  refine w_iload_n 1 0 hX rfl rfl dX12_slipper_0 ?_
  refine w_iconst (-1) 1 hX ic_m1 dX12_slipper_1 ?_
  refine w_icmp_ne (tgt := 15) 2 hX dX12_slipper_2 (by decide) (fun c1 => ?_) (fun c1 => ?_)
  · have h := ie h c1
    refine w_iload_n 1 15 hX rfl rfl dX12_slipper_15 ?_
    refine w_iconst 0 16 hX ic_0 dX12_slipper_16 ?_
    refine w_bipush 30 17 hX ib_30 dX12_slipper_17 ?_
    obtain ⟨x2, gx2, h⟩ := o_bind h
    refine w_invSi (av := [.int p1, .int 0, .int 30]) (st := []) 19 hX ms_yX12_isIn mi_yX12_isIn ml_X12_54 (CX12_isIn p1 0 30 u gx2) rfl (by decide) (Nat.le_of_ble_eq_true rfl) (Nat.le_refl _) (Nat.le_refl _) dX12_slipper_19 ?_
    refine w_if_eq (tgt := 57) 22 hX dX12_slipper_22 (by decide) (fun c3 => ?_) (fun c3 => ?_)
    · have h := it h c3
      refine w_iconst (-1) 57 hX ic_m1 dX12_slipper_57 ?_
      exact w_iret 58 hX hR dX12_slipper_58 (by cases h; rfl)
    · have h := ie h c3
      refine w_iload_n 2 25 hX rfl rfl dX12_slipper_25 ?_
      refine w_iconst 0 26 hX ic_0 dX12_slipper_26 ?_
      refine w_bipush 15 27 hX ib_15 dX12_slipper_27 ?_
      obtain ⟨x4, gx4, h⟩ := o_bind h
      refine w_invSi (av := [.int p2, .int 0, .int 15]) (st := []) 29 hX ms_yX12_isIn mi_yX12_isIn ml_X12_54 (CX12_isIn p2 0 15 u gx4) rfl (by decide) (Nat.le_of_ble_eq_true rfl) (Nat.le_refl _) (Nat.le_refl _) dX12_slipper_29 ?_
      refine w_if_eq (tgt := 57) 32 hX dX12_slipper_32 (by decide) (fun c5 => ?_) (fun c5 => ?_)
      · have h := it h c5
        refine w_iconst (-1) 57 hX ic_m1 dX12_slipper_57 ?_
        exact w_iret 58 hX hR dX12_slipper_58 (by cases h; rfl)
      · have h := ie h c5
        refine w_iload_n 3 35 hX rfl rfl dX12_slipper_35 ?_
        refine w_iconst 0 36 hX ic_0 dX12_slipper_36 ?_
        refine w_bipush 9 37 hX ib_9 dX12_slipper_37 ?_
        obtain ⟨x6, gx6, h⟩ := o_bind h
        refine w_invSi (av := [.int p3, .int 0, .int 9]) (st := []) 39 hX ms_yX12_isIn mi_yX12_isIn ml_X12_54 (CX12_isIn p3 0 9 u gx6) rfl (by decide) (Nat.le_of_ble_eq_true rfl) (Nat.le_refl _) (Nat.le_refl _) dX12_slipper_39 ?_
        refine w_if_eq (tgt := 57) 42 hX dX12_slipper_42 (by decide) (fun c7 => ?_) (fun c7 => ?_)
        · have h := it h c7
          refine w_iconst (-1) 57 hX ic_m1 dX12_slipper_57 ?_
          exact w_iret 58 hX hR dX12_slipper_58 (by cases h; rfl)
        · have h := ie h c7
          refine w_aload_n 0 45 hX rfl rfl dX12_slipper_45 ?_
          refine w_getR 46 hX CI_12 s_146 rfl r_146_0 fl_X12_7 rfl dX12_slipper_46 ?_
          refine w_bipush 88 49 hX ib_88 dX12_slipper_49 ?_
          refine w_iald 51 hX s_147 (rdK 88 88 n_88 (by decide) (by decide)) dX12_slipper_51 ?_
          refine w_bipush 10 52 hX ib_10 dX12_slipper_52 ?_
          refine w_icmp_ne (tgt := 59) 54 hX dX12_slipper_54 (by decide) (fun c8 => ?_) (fun c8 => ?_)
          · have h := ie h c8
            refine w_sipush 270 59 hX isp_270 dX12_slipper_59 ?_
            refine w_iconst 3 62 hX ic_3 dX12_slipper_62 ?_
            refine w_aload_n 0 63 hX rfl rfl dX12_slipper_63 ?_
            refine w_getR 64 hX CI_12 s_146 rfl r_146_0 fl_X12_7 rfl dX12_slipper_64 ?_
            refine w_bipush 88 67 hX ib_88 dX12_slipper_67 ?_
            refine w_iald 69 hX s_147 (rdK 88 88 n_88 (by decide) (by decide)) dX12_slipper_69 ?_
            refine w_imul 70 hX dX12_slipper_70 ?_
            refine w_iadd 71 hX dX12_slipper_71 ?_
            refine w_istore (lv' := [(4, .int (270 + (3 * (u 147 88)))), (0, .ref 146), (1, .int p1), (2, .int p2), (3, .int p3)]) 72 hX dX12_slipper_72 (by decide) rfl ?_
            refine w_aload_n 1 74 hX rfl rfl dX12_slipper_74 ?_
            refine w_getR 75 hX CI_12 s_146 rfl r_146_0 fl_X12_7 rfl dX12_slipper_75 ?_
            refine w_iload 0 78 hX rfl dX12_slipper_78 ?_
            refine w_iload_n 2 80 hX rfl rfl dX12_slipper_80 ?_
            obtain ⟨u9, gu9, h⟩ := o_bind h
            refine w_iast 81 hX s_147 gu9 dX12_slipper_81 ?_
            refine w_aload_n 1 82 hX rfl rfl dX12_slipper_82 ?_
            refine w_getR 83 hX CI_12 s_146 rfl r_146_0 fl_X12_7 rfl dX12_slipper_83 ?_
            refine w_iload 0 86 hX rfl dX12_slipper_86 ?_
            refine w_iconst 1 88 hX ic_1 dX12_slipper_88 ?_
            refine w_iadd 89 hX dX12_slipper_89 ?_
            refine w_iload_n 3 90 hX rfl rfl dX12_slipper_90 ?_
            obtain ⟨u10, gu10, h⟩ := o_bind h
            refine w_iast 91 hX s_147 gu10 dX12_slipper_91 ?_
            refine w_aload_n 1 92 hX rfl rfl dX12_slipper_92 ?_
            refine w_getR 93 hX CI_12 s_146 rfl r_146_0 fl_X12_7 rfl dX12_slipper_93 ?_
            refine w_iload 0 96 hX rfl dX12_slipper_96 ?_
            refine w_iconst 2 98 hX ic_2 dX12_slipper_98 ?_
            refine w_iadd 99 hX dX12_slipper_99 ?_
            refine w_iload_n 4 100 hX rfl rfl dX12_slipper_100 ?_
            obtain ⟨u11, gu11, h⟩ := o_bind h
            refine w_iast 101 hX s_147 gu11 dX12_slipper_101 ?_
            refine w_aload_n 1 102 hX rfl rfl dX12_slipper_102 ?_
            refine w_getR 103 hX CI_12 s_146 rfl r_146_0 fl_X12_7 rfl dX12_slipper_103 ?_
            refine w_bipush 88 106 hX ib_88 dX12_slipper_106 ?_
            refine w_dup2 108 hX rfl rfl dX12_slipper_108 ?_
            refine w_iald 109 hX s_147 (rdK 88 88 n_88 (by decide) (by decide)) dX12_slipper_109 ?_
            refine w_iconst 1 110 hX ic_1 dX12_slipper_110 ?_
            refine w_iadd 111 hX dX12_slipper_111 ?_
            obtain ⟨u12, gu12, h⟩ := o_bind h
            refine w_iast 112 hX s_147 (wrK 88 88 n_88 (by decide) (by decide) gu12) dX12_slipper_112 ?_
            refine w_aload_n 1 113 hX rfl rfl dX12_slipper_113 ?_
            refine w_getR 114 hX CI_12 s_146 rfl r_146_0 fl_X12_7 rfl dX12_slipper_114 ?_
            refine w_bipush 88 117 hX ib_88 dX12_slipper_117 ?_
            refine w_iald 119 hX s_147 (rdK 88 88 n_88 (by decide) (by decide)) dX12_slipper_119 ?_
            exact w_iret 120 hX hR dX12_slipper_120 (by cases h; rfl)
          · have h := it h c8
            refine w_iconst (-1) 57 hX ic_m1 dX12_slipper_57 ?_
            exact w_iret 58 hX hR dX12_slipper_58 (by cases h; rfl)
  · have h := it h c1
    refine w_aload_n 0 5 hX rfl rfl dX12_slipper_5 ?_
    refine w_getR 6 hX CI_12 s_146 rfl r_146_0 fl_X12_7 rfl dX12_slipper_6 ?_
    refine w_bipush 88 9 hX ib_88 dX12_slipper_9 ?_
    refine w_iconst 0 11 hX ic_0 dX12_slipper_11 ?_
    obtain ⟨u13, gu13, h⟩ := o_bind h
    refine w_iast 12 hX s_147 (wrK 88 88 n_88 (by decide) (by decide) gu13) dX12_slipper_12 ?_
    refine w_iconst 0 13 hX ic_0 dX12_slipper_13 ?_
    exact w_iret 14 hX hR dX12_slipper_14 (by cases h; rfl))
def FX8_couldBeOf_19_b54 (k2 : Int32 → Int32 → Mem → Option Int32) (l1 l2 : Int32) (u : Mem) : Option Int32 :=
  k2 l1 (l2 + 1) u
theorem bX8_couldBeOf_19_54 {G : Gt} {X : Xt} {v : Int32} {u : Mem} (hX : CxOk G X cX8_couldBeOf 3 RX8 (some (.int v), SH, RHO, u) 1) (hR : CxRet G X (some .boolean) (some (.int v), SH, RHO, u)) {k2 : Int32 → Int32 → Mem → Option Int32} (hk2 : ∀ (l1 l2 : Int32), k2 l1 l2 u = some v → WM G X 2 [(0, .ref 19), (1, .int l1), (2, .int l2)] [] SH RHO u) (l1 l2 : Int32) (h : FX8_couldBeOf_19_b54 k2 l1 l2 u = some v) : WM G X 54 [(0, .ref 19), (1, .int l1), (2, .int l2)] [] SH RHO u := by
  unfold FX8_couldBeOf_19_b54 at h
  refine w_iinc (lv' := [(2, .int (l2 + 1)), (0, .ref 19), (1, .int l1)]) 54 2 hX dX8_couldBeOf_54 rfl (inc_1 _) (by decide) rfl ?_
  refine w_goto (tgt := 2) 57 hX (by decide) dX8_couldBeOf_57 ?_
  exact w_sub [1, 2, 0] rfl (hk2 l1 (l2 + 1) h)
def FX8_couldBeOf_19_b2 (k2 : Int32 → Int32 → Mem → Option Int32) (l1 l2 : Int32) (u : Mem) : Option Int32 :=
  (if (u 19 3) ≤ l2 then (some 1) else ((if 10 ≤ l2 then (some 1) else ((rdA u 21 10 l2).bind fun x3 => (rdA u 20 10 l2).bind fun x4 => (if (l1 * x4) < x3 then (some 0) else ((rdA u 22 10 l2).bind fun x6 => (if x6 = 0 then (FX8_couldBeOf_19_b54 k2 l1 l2 u) else ((rdA u 22 10 l2).bind fun x8 => (if x8 = l1 then (FX8_couldBeOf_19_b54 k2 l1 l2 u) else (some 0))))))))))
theorem bX8_couldBeOf_19_2 {G : Gt} {X : Xt} {v : Int32} {u : Mem} (hX : CxOk G X cX8_couldBeOf 3 RX8 (some (.int v), SH, RHO, u) 1) (hR : CxRet G X (some .boolean) (some (.int v), SH, RHO, u)) {k2 : Int32 → Int32 → Mem → Option Int32} (hk2 : ∀ (l1 l2 : Int32), k2 l1 l2 u = some v → WM G X 2 [(0, .ref 19), (1, .int l1), (2, .int l2)] [] SH RHO u) (l1 l2 : Int32) (h : FX8_couldBeOf_19_b2 k2 l1 l2 u = some v) : WM G X 2 [(0, .ref 19), (1, .int l1), (2, .int l2)] [] SH RHO u := by
  unfold FX8_couldBeOf_19_b2 at h
  refine w_iload_n 2 2 hX rfl rfl dX8_couldBeOf_2 ?_
  refine w_aload_n 0 3 hX rfl rfl dX8_couldBeOf_3 ?_
  refine w_getI (j := 3) 4 hX CI_8 s_19 rfl fl_X8_25 rfl dX8_couldBeOf_4 ?_
  refine w_icmp_ge (tgt := 60) 7 hX dX8_couldBeOf_7 (by decide) (fun c1 => ?_) (fun c1 => ?_)
  · have h := it h c1
    refine w_iconst 1 60 hX ic_1 dX8_couldBeOf_60 ?_
    exact w_zret 61 hX hR (by decide) dX8_couldBeOf_61 (by cases h; rfl)
  · have h := ie h c1
    refine w_iload_n 2 10 hX rfl rfl dX8_couldBeOf_10 ?_
    refine w_bipush 10 11 hX ib_10 dX8_couldBeOf_11 ?_
    refine w_icmp_ge (tgt := 60) 13 hX dX8_couldBeOf_13 (by decide) (fun c2 => ?_) (fun c2 => ?_)
    · have h := it h c2
      refine w_iconst 1 60 hX ic_1 dX8_couldBeOf_60 ?_
      exact w_zret 61 hX hR (by decide) dX8_couldBeOf_61 (by cases h; rfl)
    · have h := ie h c2
      refine w_aload_n 0 16 hX rfl rfl dX8_couldBeOf_16 ?_
      refine w_getR 17 hX CI_8 s_19 rfl r_19_1 fl_X8_15 rfl dX8_couldBeOf_17 ?_
      refine w_iload_n 2 20 hX rfl rfl dX8_couldBeOf_20 ?_
      obtain ⟨x3, gx3, h⟩ := o_bind h
      refine w_iald 21 hX s_21 gx3 dX8_couldBeOf_21 ?_
      refine w_iload_n 1 22 hX rfl rfl dX8_couldBeOf_22 ?_
      refine w_aload_n 0 23 hX rfl rfl dX8_couldBeOf_23 ?_
      refine w_getR 24 hX CI_8 s_19 rfl r_19_0 fl_X8_11 rfl dX8_couldBeOf_24 ?_
      refine w_iload_n 2 27 hX rfl rfl dX8_couldBeOf_27 ?_
      obtain ⟨x4, gx4, h⟩ := o_bind h
      refine w_iald 28 hX s_20 gx4 dX8_couldBeOf_28 ?_
      refine w_imul 29 hX dX8_couldBeOf_29 ?_
      refine w_icmp_gt (tgt := 52) 30 hX dX8_couldBeOf_30 (by decide) (fun c5 => ?_) (fun c5 => ?_)
      · have h := it h c5
        refine w_iconst 0 52 hX ic_0 dX8_couldBeOf_52 ?_
        exact w_zret 53 hX hR (by decide) dX8_couldBeOf_53 (by cases h; rfl)
      · have h := ie h c5
        refine w_aload_n 0 33 hX rfl rfl dX8_couldBeOf_33 ?_
        refine w_getR 34 hX CI_8 s_19 rfl r_19_2 fl_X8_18 rfl dX8_couldBeOf_34 ?_
        refine w_iload_n 2 37 hX rfl rfl dX8_couldBeOf_37 ?_
        obtain ⟨x6, gx6, h⟩ := o_bind h
        refine w_iald 38 hX s_22 gx6 dX8_couldBeOf_38 ?_
        refine w_if_eq (tgt := 54) 39 hX dX8_couldBeOf_39 (by decide) (fun c7 => ?_) (fun c7 => ?_)
        · have h := it h c7
          exact bX8_couldBeOf_19_54 hX hR hk2 l1 l2 h
        · have h := ie h c7
          refine w_aload_n 0 42 hX rfl rfl dX8_couldBeOf_42 ?_
          refine w_getR 43 hX CI_8 s_19 rfl r_19_2 fl_X8_18 rfl dX8_couldBeOf_43 ?_
          refine w_iload_n 2 46 hX rfl rfl dX8_couldBeOf_46 ?_
          obtain ⟨x8, gx8, h⟩ := o_bind h
          refine w_iald 47 hX s_22 gx8 dX8_couldBeOf_47 ?_
          refine w_iload_n 1 48 hX rfl rfl dX8_couldBeOf_48 ?_
          refine w_icmp_eq (tgt := 54) 49 hX dX8_couldBeOf_49 (by decide) (fun c9 => ?_) (fun c9 => ?_)
          · have h := it h c9
            exact bX8_couldBeOf_19_54 hX hR hk2 l1 l2 h
          · have h := ie h c9
            refine w_iconst 0 52 hX ic_0 dX8_couldBeOf_52 ?_
            exact w_zret 53 hX hR (by decide) dX8_couldBeOf_53 (by cases h; rfl)
def FX8_couldBeOf_19_L2 : Nat → Int32 → Int32 → Mem → Option Int32
  | 0, _, _, _ => none
  | n + 1, l1, l2, u => FX8_couldBeOf_19_b2 (FX8_couldBeOf_19_L2 n) l1 l2 u
theorem lX8_couldBeOf_19_2 {G : Gt} {X : Xt} {v : Int32} {u : Mem} (hX : CxOk G X cX8_couldBeOf 3 RX8 (some (.int v), SH, RHO, u) 1) (hR : CxRet G X (some .boolean) (some (.int v), SH, RHO, u)) : ∀ (n : Nat) (l1 l2 : Int32), FX8_couldBeOf_19_L2 n l1 l2 u = some v → WM G X 2 [(0, .ref 19), (1, .int l1), (2, .int l2)] [] SH RHO u := by
  intro n
  induction n with
  | zero =>
    intro l1 l2 h
    exact nn_ h
  | succ n ih =>
    intro l1 l2 h
    exact bX8_couldBeOf_19_2 hX hR ih l1 l2 h
def FX8_couldBeOf_19 (p1 : Int32) (u : Mem) : Option Int32 :=
  FX8_couldBeOf_19_L2 FU p1 0 u
theorem CX8_couldBeOf_19 {G : Gt} (p1 : Int32) (u : Mem) {v : Int32} (h : FX8_couldBeOf_19 p1 u = some v) : CT G yX8_couldBeOf cX8_couldBeOf 3 (some .boolean) 1 [.ref 19, .int p1] SH RHO u (some (.int v), SH, RHO, u) :=
  ct_of (by decide) rfl (Nat.le_of_ble_eq_true rfl) (Nat.le_refl _) (Nat.le_refl _) (fun X hX hR => by
  unfold FX8_couldBeOf_19 at h
  refine w_iconst 0 0 hX ic_0 dX8_couldBeOf_0 ?_
  refine w_istore_n (lv' := [(2, .int 0), (0, .ref 19), (1, .int p1)]) 1 hX rfl dX8_couldBeOf_1 (by decide) rfl ?_
  exact w_sub [1, 2, 0] rfl (lX8_couldBeOf_19_2 hX hR FU p1 0 h))
def FX9_couldHaveLeft_1_b50 (l1 : Int32) (u : Mem) : Option Int32 :=
  some l1
theorem bX9_couldHaveLeft_1_50 {G : Gt} {X : Xt} {v : Int32} {u : Mem} (hX : CxOk G X cX9_couldHaveLeft 3 RX9 (some (.int v), SH, RHO, u) 2) (hR : CxRet G X (some .int) (some (.int v), SH, RHO, u)) (l1 : Int32) (h : FX9_couldHaveLeft_1_b50 l1 u = some v) : WM G X 50 [(1, .int l1)] [] SH RHO u := by
  unfold FX9_couldHaveLeft_1_b50 at h
  refine w_iload_n 0 50 hX rfl rfl dX9_couldHaveLeft_50 ?_
  exact w_iret 51 hX hR dX9_couldHaveLeft_51 (by cases h; rfl)
def FX9_couldHaveLeft_1_b42 (k4 : Int32 → Int32 → Mem → Option Int32) (l2 t0 t1 : Int32) (u : Mem) : Option Int32 :=
  k4 (t0 ||| t1) (l2 + 1) u
theorem bX9_couldHaveLeft_1_42 {G : Gt} {X : Xt} {v : Int32} {u : Mem} (hX : CxOk G X cX9_couldHaveLeft 3 RX9 (some (.int v), SH, RHO, u) 2) (hR : CxRet G X (some .int) (some (.int v), SH, RHO, u)) {k4 : Int32 → Int32 → Mem → Option Int32} (hk4 : ∀ (l1 l2 : Int32), k4 l1 l2 u = some v → WM G X 4 [(0, .ref 1), (1, .int l1), (2, .int l2)] [] SH RHO u) (l2 t0 t1 : Int32) (h : FX9_couldHaveLeft_1_b42 k4 l2 t0 t1 u = some v) : WM G X 42 [(0, .ref 1), (2, .int l2)] [.int t1, .int t0] SH RHO u := by
  unfold FX9_couldHaveLeft_1_b42 at h
  refine w_ior 42 hX dX9_couldHaveLeft_42 ?_
  refine w_istore_n (lv' := [(1, .int (t0 ||| t1)), (0, .ref 1), (2, .int l2)]) 43 hX rfl dX9_couldHaveLeft_43 (by decide) rfl ?_
  refine w_iinc (lv' := [(2, .int (l2 + 1)), (1, .int (t0 ||| t1)), (0, .ref 1)]) 44 2 hX dX9_couldHaveLeft_44 rfl (inc_1 _) (by decide) rfl ?_
  refine w_goto (tgt := 4) 47 hX (by decide) dX9_couldHaveLeft_47 ?_
  exact w_sub [2, 1, 0] rfl (hk4 (t0 ||| t1) (l2 + 1) h)
def FX9_couldHaveLeft_1_b4 (k4 : Int32 → Int32 → Mem → Option Int32) (l1 l2 : Int32) (u : Mem) : Option Int32 :=
  (if 12 ≤ l2 then (FX9_couldHaveLeft_1_b50 l1 u) else ((if (u 1 0) ≤ l2 then (FX9_couldHaveLeft_1_b50 l1 u) else ((rdA u 4 12 l2).bind fun x3 => (FX8_couldBeOf_19 x3 u).bind fun x4 => (if x4 = 0 then (FX9_couldHaveLeft_1_b42 k4 l2 l1 0 u) else (FX9_couldHaveLeft_1_b42 k4 l2 l1 ((1 : Int32) <<< (l2 &&& 31)) u))))))
theorem bX9_couldHaveLeft_1_4 {G : Gt} {X : Xt} {v : Int32} {u : Mem} (hX : CxOk G X cX9_couldHaveLeft 3 RX9 (some (.int v), SH, RHO, u) 2) (hR : CxRet G X (some .int) (some (.int v), SH, RHO, u)) {k4 : Int32 → Int32 → Mem → Option Int32} (hk4 : ∀ (l1 l2 : Int32), k4 l1 l2 u = some v → WM G X 4 [(0, .ref 1), (1, .int l1), (2, .int l2)] [] SH RHO u) (l1 l2 : Int32) (h : FX9_couldHaveLeft_1_b4 k4 l1 l2 u = some v) : WM G X 4 [(0, .ref 1), (1, .int l1), (2, .int l2)] [] SH RHO u := by
  unfold FX9_couldHaveLeft_1_b4 at h
  refine w_iload_n 2 4 hX rfl rfl dX9_couldHaveLeft_4 ?_
  refine w_bipush 12 5 hX ib_12 dX9_couldHaveLeft_5 ?_
  refine w_icmp_ge (tgt := 50) 7 hX dX9_couldHaveLeft_7 (by decide) (fun c1 => ?_) (fun c1 => ?_)
  · have h := it h c1
    exact w_sub [1] rfl (bX9_couldHaveLeft_1_50 hX hR l1 h)
  · have h := ie h c1
    refine w_iload_n 2 10 hX rfl rfl dX9_couldHaveLeft_10 ?_
    refine w_aload_n 0 11 hX rfl rfl dX9_couldHaveLeft_11 ?_
    refine w_getI (j := 0) 12 hX CI_9 s_1 rfl fl_X9_58 rfl dX9_couldHaveLeft_12 ?_
    refine w_icmp_ge (tgt := 50) 15 hX dX9_couldHaveLeft_15 (by decide) (fun c2 => ?_) (fun c2 => ?_)
    · have h := it h c2
      exact w_sub [1] rfl (bX9_couldHaveLeft_1_50 hX hR l1 h)
    · have h := ie h c2
      refine w_iload_n 1 18 hX rfl rfl dX9_couldHaveLeft_18 ?_
      refine w_aload_n 0 19 hX rfl rfl dX9_couldHaveLeft_19 ?_
      refine w_getR 20 hX CI_9 s_1 rfl r_1_15 fl_X9_54 rfl dX9_couldHaveLeft_20 ?_
      refine w_aload_n 0 23 hX rfl rfl dX9_couldHaveLeft_23 ?_
      refine w_getR 24 hX CI_9 s_1 rfl r_1_3 fl_X9_18 rfl dX9_couldHaveLeft_24 ?_
      refine w_iload_n 2 27 hX rfl rfl dX9_couldHaveLeft_27 ?_
      obtain ⟨x3, gx3, h⟩ := o_bind h
      refine w_iald 28 hX s_4 gx3 dX9_couldHaveLeft_28 ?_
      obtain ⟨x4, gx4, h⟩ := o_bind h
      refine w_invVi (av := [.int x3]) (st := [.int l1]) 29 hX CI_8 s_19 rfl mv_yX8_couldBeOf mi_yX8_couldBeOf ml_X9_108 (CX8_couldBeOf_19 x3 u gx4) rfl (by decide) (Nat.le_of_ble_eq_true rfl) (Nat.le_refl _) (Nat.le_refl _) dX9_couldHaveLeft_29 ?_
      refine w_if_eq (tgt := 41) 32 hX dX9_couldHaveLeft_32 (by decide) (fun c5 => ?_) (fun c5 => ?_)
      · have h := it h c5
        refine w_iconst 0 41 hX ic_0 dX9_couldHaveLeft_41 ?_
        exact w_sub [0, 2] rfl (bX9_couldHaveLeft_1_42 hX hR hk4 l2 l1 0 h)
      · have h := ie h c5
        refine w_iconst 1 35 hX ic_1 dX9_couldHaveLeft_35 ?_
        refine w_iload_n 2 36 hX rfl rfl dX9_couldHaveLeft_36 ?_
        refine w_ishl 37 hX dX9_couldHaveLeft_37 ?_
        refine w_goto (tgt := 42) 38 hX (by decide) dX9_couldHaveLeft_38 ?_
        exact w_sub [0, 2] rfl (bX9_couldHaveLeft_1_42 hX hR hk4 l2 l1 ((1 : Int32) <<< (l2 &&& 31)) h)
def FX9_couldHaveLeft_1_L4 : Nat → Int32 → Int32 → Mem → Option Int32
  | 0, _, _, _ => none
  | n + 1, l1, l2, u => FX9_couldHaveLeft_1_b4 (FX9_couldHaveLeft_1_L4 n) l1 l2 u
theorem lX9_couldHaveLeft_1_4 {G : Gt} {X : Xt} {v : Int32} {u : Mem} (hX : CxOk G X cX9_couldHaveLeft 3 RX9 (some (.int v), SH, RHO, u) 2) (hR : CxRet G X (some .int) (some (.int v), SH, RHO, u)) : ∀ (n : Nat) (l1 l2 : Int32), FX9_couldHaveLeft_1_L4 n l1 l2 u = some v → WM G X 4 [(0, .ref 1), (1, .int l1), (2, .int l2)] [] SH RHO u := by
  intro n
  induction n with
  | zero =>
    intro l1 l2 h
    exact nn_ h
  | succ n ih =>
    intro l1 l2 h
    exact bX9_couldHaveLeft_1_4 hX hR ih l1 l2 h
def FX9_couldHaveLeft_1 (u : Mem) : Option Int32 :=
  FX9_couldHaveLeft_1_L4 FU 0 0 u
theorem CX9_couldHaveLeft_1 {G : Gt} (u : Mem) {v : Int32} (h : FX9_couldHaveLeft_1 u = some v) : CT G yX9_couldHaveLeft cX9_couldHaveLeft 3 (some .int) 2 [.ref 1] SH RHO u (some (.int v), SH, RHO, u) :=
  ct_of (by decide) rfl (Nat.le_of_ble_eq_true rfl) (Nat.le_refl _) (Nat.le_refl _) (fun X hX hR => by
  unfold FX9_couldHaveLeft_1 at h
  refine w_iconst 0 0 hX ic_0 dX9_couldHaveLeft_0 ?_
  refine w_istore_n (lv' := [(1, .int 0), (0, .ref 1)]) 1 hX rfl dX9_couldHaveLeft_1 (by decide) rfl ?_
  refine w_iconst 0 2 hX ic_0 dX9_couldHaveLeft_2 ?_
  refine w_istore_n (lv' := [(2, .int 0), (1, .int 0), (0, .ref 1)]) 3 hX rfl dX9_couldHaveLeft_3 (by decide) rfl ?_
  exact w_sub [2, 1, 0] rfl (lX9_couldHaveLeft_1_4 hX hR FU 0 0 h))
def FX11_left_0 (u : Mem) : Option Int32 :=
  (FX9_couldHaveLeft_1 u).bind fun x1 => some x1
theorem CX11_left_0 {G : Gt} (u : Mem) {v : Int32} (h : FX11_left_0 u = some v) : CT G yX11_left cX11_left 1 (some .int) 3 [.ref 0] SH RHO u (some (.int v), SH, RHO, u) :=
  ct_of (by decide) rfl (Nat.le_of_ble_eq_true rfl) (Nat.le_refl _) (Nat.le_refl _) (fun X hX hR => by
  unfold FX11_left_0 at h
  refine w_aload_n 0 0 hX rfl rfl dX11_left_0 ?_
  refine w_getR 1 hX CI_11 s_0 rfl r_0_0 fl_X11_10 rfl dX11_left_1 ?_
  obtain ⟨x1, gx1, h⟩ := o_bind h
  refine w_invVi (av := []) (st := []) 4 hX CI_9 s_1 rfl mv_yX9_couldHaveLeft mi_yX9_couldHaveLeft ml_X11_251 (CX9_couldHaveLeft_1 u gx1) rfl (by decide) (Nat.le_of_ble_eq_true rfl) (Nat.le_refl _) (Nat.le_refl _) dX11_left_4 ?_
  exact w_iret 7 hX hR dX11_left_7 (by cases h; rfl))
