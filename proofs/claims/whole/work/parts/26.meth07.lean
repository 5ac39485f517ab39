def FX6_tellingLine_34_b151 (u : Mem) : Option Mem :=
  (some (mupd u 34 11 ((u 34 11) + 1))).bind fun u1 => some u1
theorem bX6_tellingLine_34_151 {G : Gt} {X : Xt} {u' : Mem} (hX : CxOk G X cX6_tellingLine 8 RX6 (none, SH, RHO, u') 4) (hR : CxRet G X none (none, SH, RHO, u')) (u : Mem) (h : FX6_tellingLine_34_b151 u = some u') : WM G X 151 [(0, .ref 34)] [] SH RHO u := by
  unfold FX6_tellingLine_34_b151 at h
  refine w_aload_n 0 151 hX rfl rfl dX6_tellingLine_151 ?_
  refine w_dup 152 hX rfl dX6_tellingLine_152 ?_
  refine w_getI (j := 11) 153 hX CI_6 s_34 rfl fl_X6_92 rfl dX6_tellingLine_153 ?_
  refine w_iconst 1 156 hX ic_1 dX6_tellingLine_156 ?_
  refine w_iadd 157 hX dX6_tellingLine_157 ?_
  obtain ⟨u1, gu1, h⟩ := o_bind h
  refine w_putI (j := 11) 158 hX CI_6 s_34 rfl fl_X6_92 rfl rfl rfl rfl dX6_tellingLine_158 ?_
  rw [Option.some.inj gu1]
  exact w_vret 161 hX hR dX6_tellingLine_161 (by cases h; rfl)
def FX6_tellingLine_34_b117 (l3 l4 : Int32) (u : Mem) : Option Mem :=
  (FX6_need_34 59 u).bind fun u2 => (if (u2 34 13) = 0 then ((if l3 < 0 then (FX6_tellingLine_34_b151 u2) else ((if 12 ≤ l3 then (FX6_tellingLine_34_b151 u2) else ((rdA u2 50 12 l3).bind fun x6 => (wrA u2 50 12 l3 (x6 ||| l4)).bind fun u7 => FX6_tellingLine_34_b151 u7))))) else (FX6_tellingLine_34_b151 u2))
theorem bX6_tellingLine_34_117 {G : Gt} {X : Xt} {u' : Mem} (hX : CxOk G X cX6_tellingLine 8 RX6 (none, SH, RHO, u') 4) (hR : CxRet G X none (none, SH, RHO, u')) (l3 l4 : Int32) (u : Mem) (h : FX6_tellingLine_34_b117 l3 l4 u = some u') : WM G X 117 [(0, .ref 34), (3, .int l3), (4, .int l4)] [] SH RHO u := by
  unfold FX6_tellingLine_34_b117 at h
  refine w_aload_n 0 117 hX rfl rfl dX6_tellingLine_117 ?_
  refine w_bipush 59 118 hX ib_59 dX6_tellingLine_118 ?_
  obtain ⟨u2, gu2, h⟩ := o_bind h
  refine w_invVv (av := [.int 59]) (st := []) 120 hX CI_6 s_34 rfl mv_yX6_need mi_yX6_need ml_X6_197 (CX6_need_34 59 u gu2) rfl (by decide) (Nat.le_of_ble_eq_true rfl) (Nat.le_refl _) (Nat.le_refl _) dX6_tellingLine_120 ?_
  refine w_aload_n 0 123 hX rfl rfl dX6_tellingLine_123 ?_
  refine w_getI (j := 13) 124 hX CI_6 s_34 rfl fl_X6_57 rfl dX6_tellingLine_124 ?_
  refine w_if_ne (tgt := 151) 127 hX dX6_tellingLine_127 (by decide) (fun c3 => ?_) (fun c3 => ?_)
  · have h := ie h c3
    exact w_sub [0] rfl (bX6_tellingLine_34_151 hX hR u2 h)
  · have h := it h c3
    refine w_iload_n 1 130 hX rfl rfl dX6_tellingLine_130 ?_
    refine w_if_lt (tgt := 151) 131 hX dX6_tellingLine_131 (by decide) (fun c4 => ?_) (fun c4 => ?_)
    · have h := it h c4
      exact w_sub [0] rfl (bX6_tellingLine_34_151 hX hR u2 h)
    · have h := ie h c4
      refine w_iload_n 1 134 hX rfl rfl dX6_tellingLine_134 ?_
      refine w_bipush 12 135 hX ib_12 dX6_tellingLine_135 ?_
      refine w_icmp_ge (tgt := 151) 137 hX dX6_tellingLine_137 (by decide) (fun c5 => ?_) (fun c5 => ?_)
      · have h := it h c5
        exact w_sub [0] rfl (bX6_tellingLine_34_151 hX hR u2 h)
      · have h := ie h c5
        refine w_aload_n 0 140 hX rfl rfl dX6_tellingLine_140 ?_
        refine w_getR 141 hX CI_6 s_34 rfl r_34_6 fl_X6_38 rfl dX6_tellingLine_141 ?_
        refine w_iload_n 1 144 hX rfl rfl dX6_tellingLine_144 ?_
        refine w_dup2 145 hX rfl rfl dX6_tellingLine_145 ?_
        obtain ⟨x6, gx6, h⟩ := o_bind h
        refine w_iald 146 hX s_50 gx6 dX6_tellingLine_146 ?_
        refine w_iload 2 147 hX rfl dX6_tellingLine_147 ?_
        refine w_ior 149 hX dX6_tellingLine_149 ?_
        obtain ⟨u7, gu7, h⟩ := o_bind h
        refine w_iast 150 hX s_50 gu7 dX6_tellingLine_150 ?_
        exact w_sub [0] rfl (bX6_tellingLine_34_151 hX hR u7 h)
def FX6_tellingLine_34_b99 (k54 : Int32 → Int32 → Int32 → Int32 → Int32 → Mem → Option Mem) (l1 l3 l6 t0 t1 : Int32) (u : Mem) : Option Mem :=
  bnd2 (FX6_take_34 257 u) fun x1 u2 => k54 l1 l3 (t0 ||| t1) x1 (l6 + 1) u2
theorem bX6_tellingLine_34_99 {G : Gt} {X : Xt} {u' : Mem} (hX : CxOk G X cX6_tellingLine 8 RX6 (none, SH, RHO, u') 4) (hR : CxRet G X none (none, SH, RHO, u')) {k54 : Int32 → Int32 → Int32 → Int32 → Int32 → Mem → Option Mem} (hk54 : ∀ (l1 l3 l4 l5 l6 : Int32) (u : Mem), k54 l1 l3 l4 l5 l6 u = some u' → WM G X 54 [(0, .ref 34), (1, .int l1), (3, .int l3), (4, .int l4), (5, .int l5), (6, .int l6)] [] SH RHO u) (l1 l3 l6 t0 t1 : Int32) (u : Mem) (h : FX6_tellingLine_34_b99 k54 l1 l3 l6 t0 t1 u = some u') : WM G X 99 [(0, .ref 34), (1, .int l1), (3, .int l3), (6, .int l6)] [.int t1, .int t0] SH RHO u := by
  unfold FX6_tellingLine_34_b99 at h
  refine w_ior 99 hX dX6_tellingLine_99 ?_
  refine w_istore (lv' := [(4, .int (t0 ||| t1)), (0, .ref 34), (1, .int l1), (3, .int l3), (6, .int l6)]) 100 hX dX6_tellingLine_100 (by decide) rfl ?_
  refine w_aload_n 1 102 hX rfl rfl dX6_tellingLine_102 ?_
  refine w_sipush 257 103 hX isp_257 dX6_tellingLine_103 ?_
  obtain ⟨x1, u2, gx1, h⟩ := o_bnd2 h
  refine w_invVi (av := [.int 257]) (st := []) 106 hX CI_6 s_34 rfl mv_yX6_take mi_yX6_take ml_X6_191 (CX6_take_34 257 u gx1) rfl (by decide) (Nat.le_of_ble_eq_true rfl) (Nat.le_refl _) (Nat.le_refl _) dX6_tellingLine_106 ?_
  refine w_istore (lv' := [(5, .int x1), (4, .int (t0 ||| t1)), (0, .ref 34), (1, .int l1), (3, .int l3), (6, .int l6)]) 109 hX dX6_tellingLine_109 (by decide) rfl ?_
  refine w_iinc (lv' := [(6, .int (l6 + 1)), (5, .int x1), (4, .int (t0 ||| t1)), (0, .ref 34), (1, .int l1), (3, .int l3)]) 111 5 hX dX6_tellingLine_111 rfl (inc_1 _) (by decide) rfl ?_
  refine w_goto (tgt := 54) 114 hX (by decide) dX6_tellingLine_114 ?_
  exact w_sub [3, 4, 5, 2, 1, 0] rfl (hk54 l1 l3 (t0 ||| t1) x1 (l6 + 1) u2 h)
def FX6_tellingLine_34_b54 (k54 : Int32 → Int32 → Int32 → Int32 → Int32 → Mem → Option Mem) (l1 l3 l4 l5 l6 : Int32) (u : Mem) : Option Mem :=
  (if 400 ≤ l6 then (FX6_tellingLine_34_b117 l3 l4 u) else ((if l5 = 0 then (FX6_tellingLine_34_b117 l3 l4 u) else (bnd2 (FX6_number_34 (l1 - 1) l3 u) fun x3 u4 => (if x3 < 0 then (FX6_tellingLine_34_b99 k54 l1 l3 l6 l4 0 u4) else ((if 12 ≤ x3 then (FX6_tellingLine_34_b99 k54 l1 l3 l6 l4 0 u4) else (FX6_tellingLine_34_b99 k54 l1 l3 l6 l4 ((1 : Int32) <<< (x3 &&& 31)) u4))))))))
theorem bX6_tellingLine_34_54 {G : Gt} {X : Xt} {u' : Mem} (hX : CxOk G X cX6_tellingLine 8 RX6 (none, SH, RHO, u') 4) (hR : CxRet G X none (none, SH, RHO, u')) {k54 : Int32 → Int32 → Int32 → Int32 → Int32 → Mem → Option Mem} (hk54 : ∀ (l1 l3 l4 l5 l6 : Int32) (u : Mem), k54 l1 l3 l4 l5 l6 u = some u' → WM G X 54 [(0, .ref 34), (1, .int l1), (3, .int l3), (4, .int l4), (5, .int l5), (6, .int l6)] [] SH RHO u) (l1 l3 l4 l5 l6 : Int32) (u : Mem) (h : FX6_tellingLine_34_b54 k54 l1 l3 l4 l5 l6 u = some u') : WM G X 54 [(0, .ref 34), (1, .int l1), (3, .int l3), (4, .int l4), (5, .int l5), (6, .int l6)] [] SH RHO u := by
  unfold FX6_tellingLine_34_b54 at h
  refine w_iload 5 54 hX rfl dX6_tellingLine_54 ?_
  refine w_sipush 400 56 hX isp_400 dX6_tellingLine_56 ?_
  refine w_icmp_ge (tgt := 117) 59 hX dX6_tellingLine_59 (by decide) (fun c1 => ?_) (fun c1 => ?_)
  · have h := it h c1
    exact w_sub [0, 2, 3] rfl (bX6_tellingLine_34_117 hX hR l3 l4 u h)
  · have h := ie h c1
    refine w_iload 4 62 hX rfl dX6_tellingLine_62 ?_
    refine w_if_eq (tgt := 117) 64 hX dX6_tellingLine_64 (by decide) (fun c2 => ?_) (fun c2 => ?_)
    · have h := it h c2
      exact w_sub [0, 2, 3] rfl (bX6_tellingLine_34_117 hX hR l3 l4 u h)
    · have h := ie h c2
      refine w_aload_n 0 67 hX rfl rfl dX6_tellingLine_67 ?_
      refine w_iload_n 1 68 hX rfl rfl dX6_tellingLine_68 ?_
      refine w_iconst 1 69 hX ic_1 dX6_tellingLine_69 ?_
      refine w_isub 70 hX dX6_tellingLine_70 ?_
      refine w_iload_n 2 71 hX rfl rfl dX6_tellingLine_71 ?_
      obtain ⟨x3, u4, gx3, h⟩ := o_bnd2 h
      refine w_invVi (av := [.int (l1 - 1), .int l3]) (st := []) 72 hX CI_6 s_34 rfl mv_yX6_number mi_yX6_number ml_X6_225 (CX6_number_34 (l1 - 1) l3 u gx3) rfl (by decide) (Nat.le_of_ble_eq_true rfl) (Nat.le_refl _) (Nat.le_refl _) dX6_tellingLine_72 ?_
      refine w_istore (lv' := [(7, .int x3), (0, .ref 34), (1, .int l1), (3, .int l3), (4, .int l4), (5, .int l5), (6, .int l6)]) 75 hX dX6_tellingLine_75 (by decide) rfl ?_
      refine w_iload 4 77 hX rfl dX6_tellingLine_77 ?_
      refine w_iload 0 79 hX rfl dX6_tellingLine_79 ?_
      refine w_if_lt (tgt := 98) 81 hX dX6_tellingLine_81 (by decide) (fun c5 => ?_) (fun c5 => ?_)
      · have h := it h c5
        refine w_iconst 0 98 hX ic_0 dX6_tellingLine_98 ?_
        exact w_sub [1, 2, 3, 6] rfl (bX6_tellingLine_34_99 hX hR hk54 l1 l3 l6 l4 0 u4 h)
      · have h := ie h c5
        refine w_iload 0 84 hX rfl dX6_tellingLine_84 ?_
        refine w_bipush 12 86 hX ib_12 dX6_tellingLine_86 ?_
        refine w_icmp_ge (tgt := 98) 88 hX dX6_tellingLine_88 (by decide) (fun c6 => ?_) (fun c6 => ?_)
        · have h := it h c6
          refine w_iconst 0 98 hX ic_0 dX6_tellingLine_98 ?_
          exact w_sub [1, 2, 3, 6] rfl (bX6_tellingLine_34_99 hX hR hk54 l1 l3 l6 l4 0 u4 h)
        · have h := ie h c6
          refine w_iconst 1 91 hX ic_1 dX6_tellingLine_91 ?_
          refine w_iload 0 92 hX rfl dX6_tellingLine_92 ?_
          refine w_ishl 94 hX dX6_tellingLine_94 ?_
          refine w_goto (tgt := 99) 95 hX (by decide) dX6_tellingLine_95 ?_
          exact w_sub [1, 2, 3, 6] rfl (bX6_tellingLine_34_99 hX hR hk54 l1 l3 l6 l4 ((1 : Int32) <<< (x3 &&& 31)) u4 h)
def FX6_tellingLine_34_L54 : Nat → Int32 → Int32 → Int32 → Int32 → Int32 → Mem → Option Mem
  | 0, _, _, _, _, _, _ => none
  | n + 1, l1, l3, l4, l5, l6, u => FX6_tellingLine_34_b54 (FX6_tellingLine_34_L54 n) l1 l3 l4 l5 l6 u
theorem lX6_tellingLine_34_54 {G : Gt} {X : Xt} {u' : Mem} (hX : CxOk G X cX6_tellingLine 8 RX6 (none, SH, RHO, u') 4) (hR : CxRet G X none (none, SH, RHO, u')) : ∀ (n : Nat) (l1 l3 l4 l5 l6 : Int32) (u : Mem), FX6_tellingLine_34_L54 n l1 l3 l4 l5 l6 u = some u' → WM G X 54 [(0, .ref 34), (1, .int l1), (3, .int l3), (4, .int l4), (5, .int l5), (6, .int l6)] [] SH RHO u := by
  intro n
  induction n with
  | zero =>
    intro l1 l3 l4 l5 l6 u h
    exact nn_ h
  | succ n ih =>
    intro l1 l3 l4 l5 l6 u h
    exact bX6_tellingLine_34_54 hX hR ih l1 l3 l4 l5 l6 u h
def FX6_tellingLine_34_b38 (l1 l3 : Int32) (u : Mem) : Option Mem :=
  (FX6_need_34 256 u).bind fun u2 => FX6_tellingLine_34_L54 FU l1 l3 0 1 0 u2
theorem bX6_tellingLine_34_38 {G : Gt} {X : Xt} {u' : Mem} (hX : CxOk G X cX6_tellingLine 8 RX6 (none, SH, RHO, u') 4) (hR : CxRet G X none (none, SH, RHO, u')) (l1 l3 : Int32) (u : Mem) (h : FX6_tellingLine_34_b38 l1 l3 u = some u') : WM G X 38 [(0, .ref 34), (1, .int l1), (3, .int l3)] [] SH RHO u := by
  unfold FX6_tellingLine_34_b38 at h
  refine w_aload_n 0 38 hX rfl rfl dX6_tellingLine_38 ?_
  refine w_sipush 256 39 hX isp_256 dX6_tellingLine_39 ?_
  obtain ⟨u2, gu2, h⟩ := o_bind h
  refine w_invVv (av := [.int 256]) (st := []) 42 hX CI_6 s_34 rfl mv_yX6_need mi_yX6_need ml_X6_197 (CX6_need_34 256 u gu2) rfl (by decide) (Nat.le_of_ble_eq_true rfl) (Nat.le_refl _) (Nat.le_refl _) dX6_tellingLine_42 ?_
  refine w_iconst 0 45 hX ic_0 dX6_tellingLine_45 ?_
  refine w_istore (lv' := [(4, .int 0), (0, .ref 34), (1, .int l1), (3, .int l3)]) 46 hX dX6_tellingLine_46 (by decide) rfl ?_
  refine w_iconst 1 48 hX ic_1 dX6_tellingLine_48 ?_
  refine w_istore (lv' := [(5, .int 1), (4, .int 0), (0, .ref 34), (1, .int l1), (3, .int l3)]) 49 hX dX6_tellingLine_49 (by decide) rfl ?_
  refine w_iconst 0 51 hX ic_0 dX6_tellingLine_51 ?_
  refine w_istore (lv' := [(6, .int 0), (5, .int 1), (4, .int 0), (0, .ref 34), (1, .int l1), (3, .int l3)]) 52 hX dX6_tellingLine_52 (by decide) rfl ?_
  exact w_sub [3, 4, 5, 2, 1, 0] rfl (lX6_tellingLine_34_54 hX hR FU l1 l3 0 1 0 u2 h)
def FX6_tellingLine_34 (p1 : Int32) (u : Mem) : Option Mem :=
  bnd2 (FX6_number_34 (p1 - 1) (-1) u) fun x1 u2 => (if x1 = (-1) then (FX6_tellingLine_34_b38 p1 x1 u2) else ((if (u2 34 11) = 16 then ((FX6_go_34 (u 34 9) u2).bind fun u6 => (FX6_fail_34 3 u6).bind fun u8 => FX6_tellingLine_34_b38 p1 x1 u8) else (FX6_tellingLine_34_b38 p1 x1 u2))))
theorem CX6_tellingLine_34 {G : Gt} (p1 : Int32) (u : Mem) {u' : Mem} (h : FX6_tellingLine_34 p1 u = some u') : CT G yX6_tellingLine cX6_tellingLine 8 none 4 [.ref 34, .int p1] SH RHO u (none, SH, RHO, u') :=
  ct_of (by decide) rfl (Nat.le_of_ble_eq_true rfl) (Nat.le_refl _) (Nat.le_refl _) (fun X hX hR => by
  unfold FX6_tellingLine_34 at h
  refine w_aload_n 0 0 hX rfl rfl dX6_tellingLine_0 ?_
  refine w_getI (j := 9) 1 hX CI_6 s_34 rfl fl_X6_188 rfl dX6_tellingLine_1 ?_
  refine w_istore_n (lv' := [(2, .int (u 34 9)), (0, .ref 34), (1, .int p1)]) 4 hX rfl dX6_tellingLine_4 (by decide) rfl ?_
  refine w_aload_n 1 5 hX rfl rfl dX6_tellingLine_5 ?_
  refine w_iload_n 2 6 hX rfl rfl dX6_tellingLine_6 ?_
  refine w_iconst 1 7 hX ic_1 dX6_tellingLine_7 ?_
  refine w_isub 8 hX dX6_tellingLine_8 ?_
  refine w_iconst (-1) 9 hX ic_m1 dX6_tellingLine_9 ?_
  obtain ⟨x1, u2, gx1, h⟩ := o_bnd2 h
  refine w_invVi (av := [.int (p1 - 1), .int (-1)]) (st := []) 10 hX CI_6 s_34 rfl mv_yX6_number mi_yX6_number ml_X6_225 (CX6_number_34 (p1 - 1) (-1) u gx1) rfl (by decide) (Nat.le_of_ble_eq_true rfl) (Nat.le_refl _) (Nat.le_refl _) dX6_tellingLine_10 ?_
  refine w_istore_n (lv' := [(3, .int x1), (2, .int (u 34 9)), (0, .ref 34), (1, .int p1)]) 13 hX rfl dX6_tellingLine_13 (by decide) rfl ?_
  refine w_iload_n 0 14 hX rfl rfl dX6_tellingLine_14 ?_
  refine w_iconst (-1) 15 hX ic_m1 dX6_tellingLine_15 ?_
  refine w_icmp_eq (tgt := 38) 16 hX dX6_tellingLine_16 (by decide) (fun c3 => ?_) (fun c3 => ?_)
  · have h := it h c3
    exact w_sub [2, 3, 0] rfl (bX6_tellingLine_34_38 hX hR p1 x1 u2 h)
  · have h := ie h c3
    refine w_aload_n 2 19 hX rfl rfl dX6_tellingLine_19 ?_
    refine w_getI (j := 11) 20 hX CI_6 s_34 rfl fl_X6_92 rfl dX6_tellingLine_20 ?_
    refine w_bipush 16 23 hX ib_16 dX6_tellingLine_23 ?_
    refine w_icmp_ne (tgt := 38) 25 hX dX6_tellingLine_25 (by decide) (fun c4 => ?_) (fun c4 => ?_)
    · have h := ie h c4
      exact w_sub [2, 3, 0] rfl (bX6_tellingLine_34_38 hX hR p1 x1 u2 h)
    · have h := it h c4
      refine w_aload_n 2 28 hX rfl rfl dX6_tellingLine_28 ?_
      refine w_iload_n 1 29 hX rfl rfl dX6_tellingLine_29 ?_
      obtain ⟨u6, gu6, h⟩ := o_bind h
      refine w_invVv (av := [.int (u 34 9)]) (st := []) 30 hX CI_6 s_34 rfl mv_yX6_go mi_yX6_go ml_X6_95 (CX6_go_34 (u 34 9) u2 gu6) rfl (by decide) (Nat.le_of_ble_eq_true rfl) (Nat.le_refl _) (Nat.le_refl _) dX6_tellingLine_30 ?_
      refine w_aload_n 2 33 hX rfl rfl dX6_tellingLine_33 ?_
      refine w_iconst 3 34 hX ic_3 dX6_tellingLine_34 ?_
      obtain ⟨u8, gu8, h⟩ := o_bind h
      refine w_invVv (av := [.int 3]) (st := []) 35 hX CI_6 s_34 rfl mv_yX6_fail mi_yX6_fail ml_X6_194 (CX6_fail_34 3 u6 gu8) rfl (by decide) (Nat.le_of_ble_eq_true rfl) (Nat.le_refl _) (Nat.le_refl _) dX6_tellingLine_35 ?_
      exact w_sub [2, 3, 0] rfl (bX6_tellingLine_34_38 hX hR p1 x1 u8 h))
def FX6_weightLine_34_b57 (u : Mem) : Option Mem :=
  (some (mupd u 34 11 ((u 34 11) + 1))).bind fun u1 => some u1
theorem bX6_weightLine_34_57 {G : Gt} {X : Xt} {u' : Mem} (hX : CxOk G X cX6_weightLine 3 RX6 (none, SH, RHO, u') 5) (hR : CxRet G X none (none, SH, RHO, u')) (u : Mem) (h : FX6_weightLine_34_b57 u = some u') : WM G X 57 [(0, .ref 34)] [] SH RHO u := by
  unfold FX6_weightLine_34_b57 at h
  refine w_aload_n 0 57 hX rfl rfl dX6_weightLine_57 ?_
  refine w_dup 58 hX rfl dX6_weightLine_58 ?_
  refine w_getI (j := 11) 59 hX CI_6 s_34 rfl fl_X6_92 rfl dX6_weightLine_59 ?_
  refine w_iconst 1 62 hX ic_1 dX6_weightLine_62 ?_
  refine w_iadd 63 hX dX6_weightLine_63 ?_
  obtain ⟨u1, gu1, h⟩ := o_bind h
  refine w_putI (j := 11) 64 hX CI_6 s_34 rfl fl_X6_92 rfl rfl rfl rfl dX6_weightLine_64 ?_
  rw [Option.some.inj gu1]
  exact w_vret 67 hX hR dX6_weightLine_67 (by cases h; rfl)
def FX6_weightLine_34 (u : Mem) : Option Mem :=
  (FX6_beginLine_34 256 u).bind fun u2 => bnd2 (FX6_number_34 7 (-1) u2) fun x3 u4 => (FX6_need_34 257 u4).bind fun u6 => bnd2 (FX6_number_34 99 (-1) u6) fun x7 u8 => (FX6_need_34 59 u8).bind fun u10 => (if (u10 34 13) = 0 then ((FX11_isFact x3).bind fun x12 => (if x12 = 0 then (FX6_weightLine_34_b57 u10) else ((wrA u10 51 8 x3 x7).bind fun u14 => FX6_weightLine_34_b57 u14))) else (FX6_weightLine_34_b57 u10))
theorem CX6_weightLine_34 {G : Gt} (u : Mem) {u' : Mem} (h : FX6_weightLine_34 u = some u') : CT G yX6_weightLine cX6_weightLine 3 none 5 [.ref 34] SH RHO u (none, SH, RHO, u') :=
  ct_of (by decide) rfl (Nat.le_of_ble_eq_true rfl) (Nat.le_refl _) (Nat.le_refl _) (fun X hX hR => by
  unfold FX6_weightLine_34 at h
  refine w_aload_n 0 0 hX rfl rfl dX6_weightLine_0 ?_
  refine w_sipush 256 1 hX isp_256 dX6_weightLine_1 ?_
  obtain ⟨u2, gu2, h⟩ := o_bind h
  refine w_invVv (av := [.int 256]) (st := []) 4 hX CI_6 s_34 rfl mv_yX6_beginLine mi_yX6_beginLine ml_X6_200 (CX6_beginLine_34 256 u gu2) rfl (by decide) (Nat.le_of_ble_eq_true rfl) (Nat.le_refl _) (Nat.le_refl _) dX6_weightLine_4 ?_
  refine w_aload_n 0 7 hX rfl rfl dX6_weightLine_7 ?_
  refine w_bipush 7 8 hX ib_7 dX6_weightLine_8 ?_
  refine w_iconst (-1) 10 hX ic_m1 dX6_weightLine_10 ?_
  obtain ⟨x3, u4, gx3, h⟩ := o_bnd2 h
  refine w_invVi (av := [.int 7, .int (-1)]) (st := []) 11 hX CI_6 s_34 rfl mv_yX6_number mi_yX6_number ml_X6_225 (CX6_number_34 7 (-1) u2 gx3) rfl (by decide) (Nat.le_of_ble_eq_true rfl) (Nat.le_refl _) (Nat.le_refl _) dX6_weightLine_11 ?_
  refine w_istore_n (lv' := [(1, .int x3), (0, .ref 34)]) 14 hX rfl dX6_weightLine_14 (by decide) rfl ?_
  refine w_aload_n 1 15 hX rfl rfl dX6_weightLine_15 ?_
  refine w_sipush 257 16 hX isp_257 dX6_weightLine_16 ?_
  obtain ⟨u6, gu6, h⟩ := o_bind h
  refine w_invVv (av := [.int 257]) (st := []) 19 hX CI_6 s_34 rfl mv_yX6_need mi_yX6_need ml_X6_197 (CX6_need_34 257 u4 gu6) rfl (by decide) (Nat.le_of_ble_eq_true rfl) (Nat.le_refl _) (Nat.le_refl _) dX6_weightLine_19 ?_
  refine w_aload_n 1 22 hX rfl rfl dX6_weightLine_22 ?_
  refine w_bipush 99 23 hX ib_99 dX6_weightLine_23 ?_
  refine w_iconst (-1) 25 hX ic_m1 dX6_weightLine_25 ?_
  obtain ⟨x7, u8, gx7, h⟩ := o_bnd2 h
  refine w_invVi (av := [.int 99, .int (-1)]) (st := []) 26 hX CI_6 s_34 rfl mv_yX6_number mi_yX6_number ml_X6_225 (CX6_number_34 99 (-1) u6 gx7) rfl (by decide) (Nat.le_of_ble_eq_true rfl) (Nat.le_refl _) (Nat.le_refl _) dX6_weightLine_26 ?_
  refine w_istore_n (lv' := [(2, .int x7), (1, .int x3), (0, .ref 34)]) 29 hX rfl dX6_weightLine_29 (by decide) rfl ?_
  refine w_aload_n 2 30 hX rfl rfl dX6_weightLine_30 ?_
  refine w_bipush 59 31 hX ib_59 dX6_weightLine_31 ?_
  obtain ⟨u10, gu10, h⟩ := o_bind h
  refine w_invVv (av := [.int 59]) (st := []) 33 hX CI_6 s_34 rfl mv_yX6_need mi_yX6_need ml_X6_197 (CX6_need_34 59 u8 gu10) rfl (by decide) (Nat.le_of_ble_eq_true rfl) (Nat.le_refl _) (Nat.le_refl _) dX6_weightLine_33 ?_
  refine w_aload_n 2 36 hX rfl rfl dX6_weightLine_36 ?_
  refine w_getI (j := 13) 37 hX CI_6 s_34 rfl fl_X6_57 rfl dX6_weightLine_37 ?_
  refine w_if_ne (tgt := 57) 40 hX dX6_weightLine_40 (by decide) (fun c11 => ?_) (fun c11 => ?_)
  · have h := ie h c11
    exact w_sub [2] rfl (bX6_weightLine_34_57 hX hR u10 h)
  · have h := it h c11
    refine w_iload_n 1 43 hX rfl rfl dX6_weightLine_43 ?_
    obtain ⟨x12, gx12, h⟩ := o_bind h
    refine w_invSNi (av := [.int x3]) (st := []) 44 hX ms_yX11_isFact mi_yX11_isFact ml_X6_228 (CX11_isFact x3 u10 gx12) rfl (by decide) (Nat.le_of_ble_eq_true rfl) (Nat.le_refl _) (Nat.le_refl _) dX6_weightLine_44 ?_
    refine w_if_eq (tgt := 57) 47 hX dX6_weightLine_47 (by decide) (fun c13 => ?_) (fun c13 => ?_)
    · have h := it h c13
      exact w_sub [2] rfl (bX6_weightLine_34_57 hX hR u10 h)
    · have h := ie h c13
      refine w_aload_n 2 50 hX rfl rfl dX6_weightLine_50 ?_
      refine w_getR 51 hX CI_6 s_34 rfl r_34_7 fl_X6_41 rfl dX6_weightLine_51 ?_
      refine w_iload_n 1 54 hX rfl rfl dX6_weightLine_54 ?_
      refine w_iload_n 0 55 hX rfl rfl dX6_weightLine_55 ?_
      obtain ⟨u14, gu14, h⟩ := o_bind h
      refine w_iast 56 hX s_51 gu14 dX6_weightLine_56 ?_
      exact w_sub [2] rfl (bX6_weightLine_34_57 hX hR u14 h))
def FX5_add_46_b43 (l3 t1 t2 : Int32) (u : Mem) : Option Mem :=
  (wrA u 49 16 t1 t2).bind fun u1 => (wrA u1 48 16 (u1 46 3) l3).bind fun u2 => (some (mupd u2 46 3 ((u2 46 3) + 1))).bind fun u3 => some u3
theorem bX5_add_46_43 {G : Gt} {X : Xt} {u' : Mem} (hX : CxOk G X cX5_add 4 RX5 (none, SH, RHO, u') 1) (hR : CxRet G X none (none, SH, RHO, u')) (l3 t1 t2 : Int32) (u : Mem) (h : FX5_add_46_b43 l3 t1 t2 u = some u') : WM G X 43 [(0, .ref 46), (3, .int l3)] [.int t2, .int t1, .ref 49] SH RHO u := by
  unfold FX5_add_46_b43 at h
  obtain ⟨u1, gu1, h⟩ := o_bind h
  refine w_iast 43 hX s_49 gu1 dX5_add_43 ?_
  refine w_aload_n 0 44 hX rfl rfl dX5_add_44 ?_
  refine w_getR 45 hX CI_5 s_46 rfl r_46_1 fl_X5_15 rfl dX5_add_45 ?_
  refine w_aload_n 0 48 hX rfl rfl dX5_add_48 ?_
  refine w_getI (j := 3) 49 hX CI_5 s_46 rfl fl_X5_25 rfl dX5_add_49 ?_
  refine w_iload_n 1 52 hX rfl rfl dX5_add_52 ?_
  obtain ⟨u2, gu2, h⟩ := o_bind h
  refine w_iast 53 hX s_48 gu2 dX5_add_53 ?_
  refine w_aload_n 0 54 hX rfl rfl dX5_add_54 ?_
  refine w_dup 55 hX rfl dX5_add_55 ?_
  refine w_getI (j := 3) 56 hX CI_5 s_46 rfl fl_X5_25 rfl dX5_add_56 ?_
  refine w_iconst 1 59 hX ic_1 dX5_add_59 ?_
  refine w_iadd 60 hX dX5_add_60 ?_
  obtain ⟨u3, gu3, h⟩ := o_bind h
  refine w_putI (j := 3) 61 hX CI_5 s_46 rfl fl_X5_25 rfl rfl rfl rfl dX5_add_61 ?_
  rw [Option.some.inj gu3]
  exact w_vret 64 hX hR dX5_add_64 (by cases h; rfl)
def FX5_add_46 (p1 p2 p3 : Int32) (u : Mem) : Option Mem :=
  (if (u 46 3) < 0 then (some u) else ((if 16 ≤ (u 46 3) then (some u) else ((wrA u 47 16 (u 46 3) p1).bind fun u3 => (if p2 = 0 then (FX5_add_46_b43 p3 (u3 46 3) 0 u3) else (FX5_add_46_b43 p3 (u3 46 3) 1 u3))))))
theorem CX5_add_46 {G : Gt} (p1 p2 p3 : Int32) (u : Mem) {u' : Mem} (h : FX5_add_46 p1 p2 p3 u = some u') : CT G yX5_add cX5_add 4 none 1 [.ref 46, .int p1, .int p2, .int p3] SH RHO u (none, SH, RHO, u') :=
  ct_of (by decide) rfl (Nat.le_of_ble_eq_true rfl) (Nat.le_refl _) (Nat.le_refl _) (fun X hX hR => by
  unfold FX5_add_46 at h
  refine w_aload_n 0 0 hX rfl rfl dX5_add_0 ?_
  refine w_getI (j := 3) 1 hX CI_5 s_46 rfl fl_X5_25 rfl dX5_add_1 ?_
  refine w_if_lt (tgt := 64) 4 hX dX5_add_4 (by decide) (fun c1 => ?_) (fun c1 => ?_)
  · have h := it h c1
    exact w_vret 64 hX hR dX5_add_64 (by cases h; rfl)
  · have h := ie h c1
    refine w_aload_n 0 7 hX rfl rfl dX5_add_7 ?_
    refine w_getI (j := 3) 8 hX CI_5 s_46 rfl fl_X5_25 rfl dX5_add_8 ?_
    refine w_bipush 16 11 hX ib_16 dX5_add_11 ?_
    refine w_icmp_ge (tgt := 64) 13 hX dX5_add_13 (by decide) (fun c2 => ?_) (fun c2 => ?_)
    · have h := it h c2
      exact w_vret 64 hX hR dX5_add_64 (by cases h; rfl)
    · have h := ie h c2
      refine w_aload_n 0 16 hX rfl rfl dX5_add_16 ?_
      refine w_getR 17 hX CI_5 s_46 rfl r_46_0 fl_X5_9 rfl dX5_add_17 ?_
      refine w_aload_n 0 20 hX rfl rfl dX5_add_20 ?_
      refine w_getI (j := 3) 21 hX CI_5 s_46 rfl fl_X5_25 rfl dX5_add_21 ?_
      refine w_iload_n 1 24 hX rfl rfl dX5_add_24 ?_
      obtain ⟨u3, gu3, h⟩ := o_bind h
      refine w_iast 25 hX s_47 gu3 dX5_add_25 ?_
      refine w_aload_n 0 26 hX rfl rfl dX5_add_26 ?_
      refine w_getR 27 hX CI_5 s_46 rfl r_46_2 fl_X5_18 rfl dX5_add_27 ?_
      refine w_aload_n 0 30 hX rfl rfl dX5_add_30 ?_
      refine w_getI (j := 3) 31 hX CI_5 s_46 rfl fl_X5_25 rfl dX5_add_31 ?_
      refine w_iload_n 2 34 hX rfl rfl dX5_add_34 ?_
      refine w_if_eq (tgt := 42) 35 hX dX5_add_35 (by decide) (fun c4 => ?_) (fun c4 => ?_)
      · have h := it h c4
        refine w_iconst 0 42 hX ic_0 dX5_add_42 ?_
        exact w_sub [0, 3] rfl (bX5_add_46_43 hX hR p3 (u3 46 3) 0 u3 h)
      · have h := ie h c4
        refine w_iconst 1 38 hX ic_1 dX5_add_38 ?_
        refine w_goto (tgt := 43) 39 hX (by decide) dX5_add_39 ?_
        exact w_sub [0, 3] rfl (bX5_add_46_43 hX hR p3 (u3 46 3) 1 u3 h))
def FX6_orderLine_34_b79 (u : Mem) : Option Mem :=
  (some (mupd u 34 11 ((u 34 11) + 1))).bind fun u1 => some u1
theorem bX6_orderLine_34_79 {G : Gt} {X : Xt} {u' : Mem} (hX : CxOk G X cX6_orderLine 4 RX6 (none, SH, RHO, u') 5) (hR : CxRet G X none (none, SH, RHO, u')) (u : Mem) (h : FX6_orderLine_34_b79 u = some u') : WM G X 79 [(0, .ref 34)] [] SH RHO u := by
  unfold FX6_orderLine_34_b79 at h
  refine w_aload_n 0 79 hX rfl rfl dX6_orderLine_79 ?_
  refine w_dup 80 hX rfl dX6_orderLine_80 ?_
  refine w_getI (j := 11) 81 hX CI_6 s_34 rfl fl_X6_92 rfl dX6_orderLine_81 ?_
  refine w_iconst 1 84 hX ic_1 dX6_orderLine_84 ?_
  refine w_iadd 85 hX dX6_orderLine_85 ?_
  obtain ⟨u1, gu1, h⟩ := o_bind h
  refine w_putI (j := 11) 86 hX CI_6 s_34 rfl fl_X6_92 rfl rfl rfl rfl dX6_orderLine_86 ?_
  rw [Option.some.inj gu1]
  exact w_vret 89 hX hR dX6_orderLine_89 (by cases h; rfl)
def FX6_orderLine_34_b46 (l1 l2 t1 : Int32) (u : Mem) : Option Mem :=
  (FX6_need_34 t1 u).bind fun u2 => bnd2 (FX6_number_34 1 (-1) u2) fun x3 u4 => (FX6_need_34 59 u4).bind fun u6 => (if (u6 34 13) = 0 then ((FX5_add_46 l1 l2 x3 u6).bind fun u9 => FX6_orderLine_34_b79 u9) else (FX6_orderLine_34_b79 u6))
theorem bX6_orderLine_34_46 {G : Gt} {X : Xt} {u' : Mem} (hX : CxOk G X cX6_orderLine 4 RX6 (none, SH, RHO, u') 5) (hR : CxRet G X none (none, SH, RHO, u')) (l1 l2 t1 : Int32) (u : Mem) (h : FX6_orderLine_34_b46 l1 l2 t1 u = some u') : WM G X 46 [(0, .ref 34), (1, .int l1), (2, .int l2)] [.int t1, .ref 34] SH RHO u := by
  unfold FX6_orderLine_34_b46 at h
  obtain ⟨u2, gu2, h⟩ := o_bind h
  refine w_invVv (av := [.int t1]) (st := []) 46 hX CI_6 s_34 rfl mv_yX6_need mi_yX6_need ml_X6_197 (CX6_need_34 t1 u gu2) rfl (by decide) (Nat.le_of_ble_eq_true rfl) (Nat.le_refl _) (Nat.le_refl _) dX6_orderLine_46 ?_
  refine w_aload_n 0 49 hX rfl rfl dX6_orderLine_49 ?_
  refine w_iconst 1 50 hX ic_1 dX6_orderLine_50 ?_
  refine w_iconst (-1) 51 hX ic_m1 dX6_orderLine_51 ?_
  obtain ⟨x3, u4, gx3, h⟩ := o_bnd2 h
  refine w_invVi (av := [.int 1, .int (-1)]) (st := []) 52 hX CI_6 s_34 rfl mv_yX6_number mi_yX6_number ml_X6_225 (CX6_number_34 1 (-1) u2 gx3) rfl (by decide) (Nat.le_of_ble_eq_true rfl) (Nat.le_refl _) (Nat.le_refl _) dX6_orderLine_52 ?_
  refine w_istore_n (lv' := [(3, .int x3), (0, .ref 34), (1, .int l1), (2, .int l2)]) 55 hX rfl dX6_orderLine_55 (by decide) rfl ?_
  refine w_aload_n 1 56 hX rfl rfl dX6_orderLine_56 ?_
  refine w_bipush 59 57 hX ib_59 dX6_orderLine_57 ?_
  obtain ⟨u6, gu6, h⟩ := o_bind h
  refine w_invVv (av := [.int 59]) (st := []) 59 hX CI_6 s_34 rfl mv_yX6_need mi_yX6_need ml_X6_197 (CX6_need_34 59 u4 gu6) rfl (by decide) (Nat.le_of_ble_eq_true rfl) (Nat.le_refl _) (Nat.le_refl _) dX6_orderLine_59 ?_
  refine w_aload_n 1 62 hX rfl rfl dX6_orderLine_62 ?_
  refine w_getI (j := 13) 63 hX CI_6 s_34 rfl fl_X6_57 rfl dX6_orderLine_63 ?_
  refine w_if_ne (tgt := 79) 66 hX dX6_orderLine_66 (by decide) (fun c7 => ?_) (fun c7 => ?_)
  · have h := ie h c7
    exact w_sub [1] rfl (bX6_orderLine_34_79 hX hR u6 h)
  · have h := it h c7
    refine w_aload_n 1 69 hX rfl rfl dX6_orderLine_69 ?_
    refine w_getR 70 hX CI_6 s_34 rfl r_34_5 fl_X6_34 rfl dX6_orderLine_70 ?_
    refine w_iload_n 2 73 hX rfl rfl dX6_orderLine_73 ?_
    refine w_iload_n 3 74 hX rfl rfl dX6_orderLine_74 ?_
    refine w_iload_n 0 75 hX rfl rfl dX6_orderLine_75 ?_
    obtain ⟨u9, gu9, h⟩ := o_bind h
    refine w_invVv (av := [.int l1, .int l2, .int x3]) (st := []) 76 hX CI_5 s_46 rfl mv_yX5_add mi_yX5_add ml_X6_231 (CX5_add_46 l1 l2 x3 u6 gu9) rfl (by decide) (Nat.le_of_ble_eq_true rfl) (Nat.le_refl _) (Nat.le_refl _) dX6_orderLine_76 ?_
    exact w_sub [1] rfl (bX6_orderLine_34_79 hX hR u9 h)
def FX6_orderLine_34_b31 (l1 t0 : Int32) (u : Mem) : Option Mem :=
  (if t0 = 0 then (FX6_orderLine_34_b46 l1 t0 258 u) else (FX6_orderLine_34_b46 l1 t0 257 u))
theorem bX6_orderLine_34_31 {G : Gt} {X : Xt} {u' : Mem} (hX : CxOk G X cX6_orderLine 4 RX6 (none, SH, RHO, u') 5) (hR : CxRet G X none (none, SH, RHO, u')) (l1 t0 : Int32) (u : Mem) (h : FX6_orderLine_34_b31 l1 t0 u = some u') : WM G X 31 [(0, .ref 34), (1, .int l1)] [.int t0] SH RHO u := by
  unfold FX6_orderLine_34_b31 at h
  refine w_istore_n (lv' := [(2, .int t0), (0, .ref 34), (1, .int l1)]) 31 hX rfl dX6_orderLine_31 (by decide) rfl ?_
  refine w_aload_n 1 32 hX rfl rfl dX6_orderLine_32 ?_
  refine w_iload_n 0 33 hX rfl rfl dX6_orderLine_33 ?_
  refine w_if_eq (tgt := 43) 34 hX dX6_orderLine_34 (by decide) (fun c1 => ?_) (fun c1 => ?_)
  · have h := it h c1
    refine w_sipush 258 43 hX isp_258 dX6_orderLine_43 ?_
    exact w_sub [1, 2, 0] rfl (bX6_orderLine_34_46 hX hR l1 t0 258 u h)
  · have h := ie h c1
    refine w_sipush 257 37 hX isp_257 dX6_orderLine_37 ?_
    refine w_goto (tgt := 46) 40 hX (by decide) dX6_orderLine_40 ?_
    exact w_sub [1, 2, 0] rfl (bX6_orderLine_34_46 hX hR l1 t0 257 u h)
def FX6_orderLine_34 (u : Mem) : Option Mem :=
  (FX6_beginLine_34 256 u).bind fun u2 => bnd2 (FX6_number_34 999 (-1) u2) fun x3 u4 => (if (u4 34 10) = 257 then (FX6_orderLine_34_b31 x3 1 u4) else (FX6_orderLine_34_b31 x3 0 u4))
theorem CX6_orderLine_34 {G : Gt} (u : Mem) {u' : Mem} (h : FX6_orderLine_34 u = some u') : CT G yX6_orderLine cX6_orderLine 4 none 5 [.ref 34] SH RHO u (none, SH, RHO, u') :=
  ct_of (by decide) rfl (Nat.le_of_ble_eq_true rfl) (Nat.le_refl _) (Nat.le_refl _) (fun X hX hR => by
  unfold FX6_orderLine_34 at h
  refine w_aload_n 0 0 hX rfl rfl dX6_orderLine_0 ?_
  refine w_sipush 256 1 hX isp_256 dX6_orderLine_1 ?_
  obtain ⟨u2, gu2, h⟩ := o_bind h
  refine w_invVv (av := [.int 256]) (st := []) 4 hX CI_6 s_34 rfl mv_yX6_beginLine mi_yX6_beginLine ml_X6_200 (CX6_beginLine_34 256 u gu2) rfl (by decide) (Nat.le_of_ble_eq_true rfl) (Nat.le_refl _) (Nat.le_refl _) dX6_orderLine_4 ?_
  refine w_aload_n 0 7 hX rfl rfl dX6_orderLine_7 ?_
  refine w_sipush 999 8 hX isp_999 dX6_orderLine_8 ?_
  refine w_iconst (-1) 11 hX ic_m1 dX6_orderLine_11 ?_
  obtain ⟨x3, u4, gx3, h⟩ := o_bnd2 h
  refine w_invVi (av := [.int 999, .int (-1)]) (st := []) 12 hX CI_6 s_34 rfl mv_yX6_number mi_yX6_number ml_X6_225 (CX6_number_34 999 (-1) u2 gx3) rfl (by decide) (Nat.le_of_ble_eq_true rfl) (Nat.le_refl _) (Nat.le_refl _) dX6_orderLine_12 ?_
  refine w_istore_n (lv' := [(1, .int x3), (0, .ref 34)]) 15 hX rfl dX6_orderLine_15 (by decide) rfl ?_
  refine w_aload_n 1 16 hX rfl rfl dX6_orderLine_16 ?_
  refine w_getI (j := 10) 17 hX CI_6 s_34 rfl fl_X6_67 rfl dX6_orderLine_17 ?_
  refine w_sipush 257 20 hX isp_257 dX6_orderLine_20 ?_
  refine w_icmp_ne (tgt := 30) 23 hX dX6_orderLine_23 (by decide) (fun c5 => ?_) (fun c5 => ?_)
  · have h := ie h c5
    refine w_iconst 0 30 hX ic_0 dX6_orderLine_30 ?_
    exact w_sub [1, 0] rfl (bX6_orderLine_34_31 hX hR x3 0 u4 h)
  · have h := it h c5
    refine w_iconst 1 26 hX ic_1 dX6_orderLine_26 ?_
    refine w_goto (tgt := 31) 27 hX (by decide) dX6_orderLine_27 ?_
    exact w_sub [1, 0] rfl (bX6_orderLine_34_31 hX hR x3 1 u4 h))
def FX4_become_8_39 (u : Mem) : Option Mem :=
  (some (cpM u 40 9 400)).bind fun u1 => (some (cpM u1 41 10 16)).bind fun u2 => (some (cpM u2 42 11 16)).bind fun u3 => (some (cpM u3 43 12 16)).bind fun u4 => (some (cpM u4 44 13 16)).bind fun u5 => (some (mupd u5 8 6 (u5 39 6))).bind fun u6 => (some (mupd u6 8 7 (u6 39 7))).bind fun u7 => some u7
theorem CX4_become_8_39 {G : Gt} (u : Mem) {u' : Mem} (h : FX4_become_8_39 u = some u') : CT G yX4_become cX4_become 2 none 3 [.ref 8, .ref 39] SH RHO u (none, SH, RHO, u') :=
  ct_of (by decide) rfl (Nat.le_of_ble_eq_true rfl) (Nat.le_refl _) (Nat.le_refl _) (fun X hX hR => by
  unfold FX4_become_8_39 at h
  refine w_aload_n 1 0 hX rfl rfl dX4_become_0 ?_
  refine w_getR 1 hX CI_4 s_39 rfl r_39_0 fl_X4_9 rfl dX4_become_1 ?_
  refine w_aload_n 0 4 hX rfl rfl dX4_become_4 ?_
  refine w_getR 5 hX CI_4 s_8 rfl r_8_0 fl_X4_9 rfl dX4_become_5 ?_
  obtain ⟨u1, gu1, h⟩ := o_bind h
  refine w_invSNv (av := [.ref 40, .ref 9]) (st := []) 8 hX ms_yX11_copy mi_yX11_copy ml_X4_30 (C_copy s_40 s_9 (by decide) (by decide) (by decide) gu1) rfl (by decide) (Nat.le_of_ble_eq_true rfl) (Nat.le_refl _) (Nat.le_refl _) dX4_become_8 ?_
  refine w_aload_n 1 11 hX rfl rfl dX4_become_11 ?_
  refine w_getR 12 hX CI_4 s_39 rfl r_39_1 fl_X4_15 rfl dX4_become_12 ?_
  refine w_aload_n 0 15 hX rfl rfl dX4_become_15 ?_
  refine w_getR 16 hX CI_4 s_8 rfl r_8_1 fl_X4_15 rfl dX4_become_16 ?_
  obtain ⟨u2, gu2, h⟩ := o_bind h
  refine w_invSNv (av := [.ref 41, .ref 10]) (st := []) 19 hX ms_yX11_copy mi_yX11_copy ml_X4_30 (C_copy s_41 s_10 (by decide) (by decide) (by decide) gu2) rfl (by decide) (Nat.le_of_ble_eq_true rfl) (Nat.le_refl _) (Nat.le_refl _) dX4_become_19 ?_
  refine w_aload_n 1 22 hX rfl rfl dX4_become_22 ?_
  refine w_getR 23 hX CI_4 s_39 rfl r_39_2 fl_X4_18 rfl dX4_become_23 ?_
  refine w_aload_n 0 26 hX rfl rfl dX4_become_26 ?_
  refine w_getR 27 hX CI_4 s_8 rfl r_8_2 fl_X4_18 rfl dX4_become_27 ?_
  obtain ⟨u3, gu3, h⟩ := o_bind h
  refine w_invSNv (av := [.ref 42, .ref 11]) (st := []) 30 hX ms_yX11_copy mi_yX11_copy ml_X4_30 (C_copy s_42 s_11 (by decide) (by decide) (by decide) gu3) rfl (by decide) (Nat.le_of_ble_eq_true rfl) (Nat.le_refl _) (Nat.le_refl _) dX4_become_30 ?_
  refine w_aload_n 1 33 hX rfl rfl dX4_become_33 ?_
  refine w_getR 34 hX CI_4 s_39 rfl r_39_3 fl_X4_21 rfl dX4_become_34 ?_
  refine w_aload_n 0 37 hX rfl rfl dX4_become_37 ?_
  refine w_getR 38 hX CI_4 s_8 rfl r_8_3 fl_X4_21 rfl dX4_become_38 ?_
  obtain ⟨u4, gu4, h⟩ := o_bind h
  refine w_invSNv (av := [.ref 43, .ref 12]) (st := []) 41 hX ms_yX11_copy mi_yX11_copy ml_X4_30 (C_copy s_43 s_12 (by decide) (by decide) (by decide) gu4) rfl (by decide) (Nat.le_of_ble_eq_true rfl) (Nat.le_refl _) (Nat.le_refl _) dX4_become_41 ?_
  refine w_aload_n 1 44 hX rfl rfl dX4_become_44 ?_
  refine w_getR 45 hX CI_4 s_39 rfl r_39_4 fl_X4_24 rfl dX4_become_45 ?_
  refine w_aload_n 0 48 hX rfl rfl dX4_become_48 ?_
  refine w_getR 49 hX CI_4 s_8 rfl r_8_4 fl_X4_24 rfl dX4_become_49 ?_
  obtain ⟨u5, gu5, h⟩ := o_bind h
  refine w_invSNv (av := [.ref 44, .ref 13]) (st := []) 52 hX ms_yX11_copy mi_yX11_copy ml_X4_30 (C_copy s_44 s_13 (by decide) (by decide) (by decide) gu5) rfl (by decide) (Nat.le_of_ble_eq_true rfl) (Nat.le_refl _) (Nat.le_refl _) dX4_become_52 ?_
  refine w_aload_n 0 55 hX rfl rfl dX4_become_55 ?_
  refine w_aload_n 1 56 hX rfl rfl dX4_become_56 ?_
  refine w_getI (j := 6) 57 hX CI_4 s_39 rfl fl_X4_34 rfl dX4_become_57 ?_
  obtain ⟨u6, gu6, h⟩ := o_bind h
  refine w_putI (j := 6) 60 hX CI_4 s_8 rfl fl_X4_34 rfl rfl rfl rfl dX4_become_60 ?_
  rw [Option.some.inj gu6]
  refine w_aload_n 0 63 hX rfl rfl dX4_become_63 ?_
  refine w_aload_n 1 64 hX rfl rfl dX4_become_64 ?_
  refine w_getI (j := 7) 65 hX CI_4 s_39 rfl fl_X4_38 rfl dX4_become_65 ?_
  obtain ⟨u7, gu7, h⟩ := o_bind h
  refine w_putI (j := 7) 68 hX CI_4 s_8 rfl fl_X4_38 rfl rfl rfl rfl dX4_become_68 ?_
  rw [Option.some.inj gu7]
  exact w_vret 71 hX hR dX4_become_71 (by cases h; rfl))
def FX5_become_15_46 (u : Mem) : Option Mem :=
  (some (cpM u 47 16 16)).bind fun u1 => (some (cpM u1 48 17 16)).bind fun u2 => (some (cpM u2 49 18 16)).bind fun u3 => (some (mupd u3 15 3 (u3 46 3))).bind fun u4 => some u4
theorem CX5_become_15_46 {G : Gt} (u : Mem) {u' : Mem} (h : FX5_become_15_46 u = some u') : CT G yX5_become cX5_become 2 none 3 [.ref 15, .ref 46] SH RHO u (none, SH, RHO, u') :=
  ct_of (by decide) rfl (Nat.le_of_ble_eq_true rfl) (Nat.le_refl _) (Nat.le_refl _) (fun X hX hR => by
  unfold FX5_become_15_46 at h
  refine w_aload_n 1 0 hX rfl rfl dX5_become_0 ?_
  refine w_getR 1 hX CI_5 s_46 rfl r_46_0 fl_X5_9 rfl dX5_become_1 ?_
  refine w_aload_n 0 4 hX rfl rfl dX5_become_4 ?_
  refine w_getR 5 hX CI_5 s_15 rfl r_15_0 fl_X5_9 rfl dX5_become_5 ?_
  obtain ⟨u1, gu1, h⟩ := o_bind h
  refine w_invSNv (av := [.ref 47, .ref 16]) (st := []) 8 hX ms_yX11_copy mi_yX11_copy ml_X5_21 (C_copy s_47 s_16 (by decide) (by decide) (by decide) gu1) rfl (by decide) (Nat.le_of_ble_eq_true rfl) (Nat.le_refl _) (Nat.le_refl _) dX5_become_8 ?_
  refine w_aload_n 1 11 hX rfl rfl dX5_become_11 ?_
  refine w_getR 12 hX CI_5 s_46 rfl r_46_1 fl_X5_15 rfl dX5_become_12 ?_
  refine w_aload_n 0 15 hX rfl rfl dX5_become_15 ?_
  refine w_getR 16 hX CI_5 s_15 rfl r_15_1 fl_X5_15 rfl dX5_become_16 ?_
  obtain ⟨u2, gu2, h⟩ := o_bind h
  refine w_invSNv (av := [.ref 48, .ref 17]) (st := []) 19 hX ms_yX11_copy mi_yX11_copy ml_X5_21 (C_copy s_48 s_17 (by decide) (by decide) (by decide) gu2) rfl (by decide) (Nat.le_of_ble_eq_true rfl) (Nat.le_refl _) (Nat.le_refl _) dX5_become_19 ?_
  refine w_aload_n 1 22 hX rfl rfl dX5_become_22 ?_
  refine w_getR 23 hX CI_5 s_46 rfl r_46_2 fl_X5_18 rfl dX5_become_23 ?_
  refine w_aload_n 0 26 hX rfl rfl dX5_become_26 ?_
  refine w_getR 27 hX CI_5 s_15 rfl r_15_2 fl_X5_18 rfl dX5_become_27 ?_
  obtain ⟨u3, gu3, h⟩ := o_bind h
  refine w_invSNv (av := [.ref 49, .ref 18]) (st := []) 30 hX ms_yX11_copy mi_yX11_copy ml_X5_21 (C_copy s_49 s_18 (by decide) (by decide) (by decide) gu3) rfl (by decide) (Nat.le_of_ble_eq_true rfl) (Nat.le_refl _) (Nat.le_refl _) dX5_become_30 ?_
  refine w_aload_n 0 33 hX rfl rfl dX5_become_33 ?_
  refine w_aload_n 1 34 hX rfl rfl dX5_become_34 ?_
  refine w_getI (j := 3) 35 hX CI_5 s_46 rfl fl_X5_25 rfl dX5_become_35 ?_
  obtain ⟨u4, gu4, h⟩ := o_bind h
  refine w_putI (j := 3) 38 hX CI_5 s_15 rfl fl_X5_25 rfl rfl rfl rfl dX5_become_38 ?_
  rw [Option.some.inj gu4]
  exact w_vret 41 hX hR dX5_become_41 (by cases h; rfl))
def FX6_hand_34_1 (p1 : Int32) (u : Mem) : Option Mem :=
  (if p1 = 0 then ((FX4_become_8_39 u).bind fun u3 => some u3) else ((if p1 = 1 then ((some (cpM u 50 5 12)).bind fun u5 => (some (mupd u5 1 11 (u5 34 11))).bind fun u6 => some u6) else ((if p1 = 2 then ((some (cpM u 51 7 8)).bind fun u8 => (some (mupd u8 1 12 (u8 34 11))).bind fun u9 => some u9) else ((FX5_become_15_46 u).bind fun u11 => some u11))))))
theorem CX6_hand_34_1 {G : Gt} (p1 : Int32) (u : Mem) {u' : Mem} (h : FX6_hand_34_1 p1 u = some u') : CT G yX6_hand cX6_hand 3 none 4 [.ref 34, .int p1, .ref 1] SH RHO u (none, SH, RHO, u') :=
  ct_of (by decide) rfl (Nat.le_of_ble_eq_true rfl) (Nat.le_refl _) (Nat.le_refl _) (fun X hX hR => by
  unfold FX6_hand_34_1 at h
  refine w_iload_n 1 0 hX rfl rfl dX6_hand_0 ?_
  by_cases c1 : p1 = 0
  · have h := it h c1
    refine w_tabIn (tgt := 28) (off := 27) 1 hX dX6_hand_1 (by rw [c1]; decide) (by rw [c1]; decide) (by rw [c1]; decide) (by decide) ?_
    refine w_aload_n 2 28 hX rfl rfl dX6_hand_28 ?_
    refine w_getR 29 hX CI_9 s_1 rfl r_1_13 fl_X6_106 rfl dX6_hand_29 ?_
    refine w_aload_n 0 32 hX rfl rfl dX6_hand_32 ?_
    refine w_getR 33 hX CI_6 s_34 rfl r_34_4 fl_X6_27 rfl dX6_hand_33 ?_
    obtain ⟨u3, gu3, h⟩ := o_bind h
    refine w_invVv (av := [.ref 39]) (st := []) 36 hX CI_4 s_8 rfl mv_yX4_become mi_yX4_become ml_X6_107 (CX4_become_8_39 u gu3) rfl (by decide) (Nat.le_of_ble_eq_true rfl) (Nat.le_refl _) (Nat.le_refl _) dX6_hand_36 ?_
    refine w_goto (tgt := 97) 39 hX (by decide) dX6_hand_39 ?_
    exact w_vret 97 hX hR dX6_hand_97 (by cases h; rfl)
  · have h := ie h c1
    by_cases c4 : p1 = 1
    · have h := it h c4
      refine w_tabIn (tgt := 42) (off := 41) 1 hX dX6_hand_1 (by rw [c4]; decide) (by rw [c4]; decide) (by rw [c4]; decide) (by decide) ?_
      refine w_aload_n 0 42 hX rfl rfl dX6_hand_42 ?_
      refine w_getR 43 hX CI_6 s_34 rfl r_34_6 fl_X6_38 rfl dX6_hand_43 ?_
      refine w_aload_n 2 46 hX rfl rfl dX6_hand_46 ?_
      refine w_getR 47 hX CI_9 s_1 rfl r_1_4 fl_X6_111 rfl dX6_hand_47 ?_
      obtain ⟨u5, gu5, h⟩ := o_bind h
      refine w_invSNv (av := [.ref 50, .ref 5]) (st := []) 50 hX ms_yX11_copy mi_yX11_copy ml_X6_112 (C_copy s_50 s_5 (by decide) (by decide) (by decide) gu5) rfl (by decide) (Nat.le_of_ble_eq_true rfl) (Nat.le_refl _) (Nat.le_refl _) dX6_hand_50 ?_
      refine w_aload_n 2 53 hX rfl rfl dX6_hand_53 ?_
      refine w_aload_n 0 54 hX rfl rfl dX6_hand_54 ?_
      refine w_getI (j := 11) 55 hX CI_6 s_34 rfl fl_X6_92 rfl dX6_hand_55 ?_
      obtain ⟨u6, gu6, h⟩ := o_bind h
      refine w_putI (j := 11) 58 hX CI_9 s_1 rfl fl_X6_116 rfl rfl rfl rfl dX6_hand_58 ?_
      rw [Option.some.inj gu6]
      refine w_goto (tgt := 97) 61 hX (by decide) dX6_hand_61 ?_
      exact w_vret 97 hX hR dX6_hand_97 (by cases h; rfl)
    · have h := ie h c4
      by_cases c7 : p1 = 2
      · have h := it h c7
        refine w_tabIn (tgt := 64) (off := 63) 1 hX dX6_hand_1 (by rw [c7]; decide) (by rw [c7]; decide) (by rw [c7]; decide) (by decide) ?_
        refine w_aload_n 0 64 hX rfl rfl dX6_hand_64 ?_
        refine w_getR 65 hX CI_6 s_34 rfl r_34_7 fl_X6_41 rfl dX6_hand_65 ?_
        refine w_aload_n 2 68 hX rfl rfl dX6_hand_68 ?_
        refine w_getR 69 hX CI_9 s_1 rfl r_1_6 fl_X6_119 rfl dX6_hand_69 ?_
        obtain ⟨u8, gu8, h⟩ := o_bind h
        refine w_invSNv (av := [.ref 51, .ref 7]) (st := []) 72 hX ms_yX11_copy mi_yX11_copy ml_X6_112 (C_copy s_51 s_7 (by decide) (by decide) (by decide) gu8) rfl (by decide) (Nat.le_of_ble_eq_true rfl) (Nat.le_refl _) (Nat.le_refl _) dX6_hand_72 ?_
        refine w_aload_n 2 75 hX rfl rfl dX6_hand_75 ?_
        refine w_aload_n 0 76 hX rfl rfl dX6_hand_76 ?_
        refine w_getI (j := 11) 77 hX CI_6 s_34 rfl fl_X6_92 rfl dX6_hand_77 ?_
        obtain ⟨u9, gu9, h⟩ := o_bind h
        refine w_putI (j := 12) 80 hX CI_9 s_1 rfl fl_X6_120 rfl rfl rfl rfl dX6_hand_80 ?_
        rw [Option.some.inj gu9]
        refine w_goto (tgt := 97) 83 hX (by decide) dX6_hand_83 ?_
        exact w_vret 97 hX hR dX6_hand_97 (by cases h; rfl)
      · have h := ie h c7
        have zc1 := lv_neT c1 (a := 0) (by decide)
        have zc4 := lv_neT c4 (a := 1) (by decide)
        have zc7 := lv_neT c7 (a := 2) (by decide)
        refine w_tabOut (tgt := 86) 1 hX dX6_hand_1 (by omega) (by decide) ?_
        refine w_aload_n 2 86 hX rfl rfl dX6_hand_86 ?_
        refine w_getR 87 hX CI_9 s_1 rfl r_1_14 fl_X6_123 rfl dX6_hand_87 ?_
        refine w_aload_n 0 90 hX rfl rfl dX6_hand_90 ?_
        refine w_getR 91 hX CI_6 s_34 rfl r_34_5 fl_X6_34 rfl dX6_hand_91 ?_
        obtain ⟨u11, gu11, h⟩ := o_bind h
        refine w_invVv (av := [.ref 46]) (st := []) 94 hX CI_5 s_15 rfl mv_yX5_become mi_yX5_become ml_X6_124 (CX5_become_15_46 u gu11) rfl (by decide) (Nat.le_of_ble_eq_true rfl) (Nat.le_refl _) (Nat.le_refl _) dX6_hand_94 ?_
        exact w_vret 97 hX hR dX6_hand_97 (by cases h; rfl))
def FX6_read_34_1_b127 (l1 : Int32) (u : Mem) : Option (Int32 × Mem) :=
  (if (u 34 13) = 0 then ((FX6_hand_34_1 l1 u).bind fun u3 => some (u3 34 11, u3)) else (some ((-1), u)))
theorem bX6_read_34_1_127 {G : Gt} {X : Xt} {v : Int32} {u' : Mem} (hX : CxOk G X cX6_read 5 RX6 (some (.int v), SH, RHO, u') 92) (hR : CxRet G X (some .int) (some (.int v), SH, RHO, u')) (l1 : Int32) (u : Mem) (h : FX6_read_34_1_b127 l1 u = some (v, u')) : WM G X 127 [(0, .ref 34), (1, .int l1), (2, .ref 1)] [] SH RHO u := by
  unfold FX6_read_34_1_b127 at h
  refine w_aload_n 0 127 hX rfl rfl dX6_read_127 ?_
  refine w_getI (j := 13) 128 hX CI_6 s_34 rfl fl_X6_57 rfl dX6_read_128 ?_
  refine w_if_eq (tgt := 136) 131 hX dX6_read_131 (by decide) (fun c1 => ?_) (fun c1 => ?_)
  · have h := it h c1
    refine w_aload_n 0 136 hX rfl rfl dX6_read_136 ?_
    refine w_iload_n 1 137 hX rfl rfl dX6_read_137 ?_
    refine w_aload_n 2 138 hX rfl rfl dX6_read_138 ?_
    obtain ⟨u3, gu3, h⟩ := o_bind h
    refine w_invVv (av := [.int l1, .ref 1]) (st := []) 139 hX CI_6 s_34 rfl mv_yX6_hand mi_yX6_hand ml_X6_88 (CX6_hand_34_1 l1 u gu3) rfl (by decide) (Nat.le_of_ble_eq_true rfl) (Nat.le_refl _) (Nat.le_refl _) dX6_read_139 ?_
    refine w_aload_n 0 142 hX rfl rfl dX6_read_142 ?_
    refine w_getI (j := 11) 143 hX CI_6 s_34 rfl fl_X6_92 rfl dX6_read_143 ?_
    exact w_iret 146 hX hR dX6_read_146 (by cases h; rfl)
  · have h := ie h c1
    refine w_iconst (-1) 134 hX ic_m1 dX6_read_134 ?_
    exact w_iret 135 hX hR dX6_read_135 (by cases h; rfl)
def FX6_read_34_1_b121 (k50 : Int32 → Int32 → Mem → Option (Int32 × Mem)) (l1 l4 : Int32) (u : Mem) : Option (Int32 × Mem) :=
  k50 l1 (l4 + 1) u
theorem bX6_read_34_1_121 {G : Gt} {X : Xt} {v : Int32} {u' : Mem} (hX : CxOk G X cX6_read 5 RX6 (some (.int v), SH, RHO, u') 92) (hR : CxRet G X (some .int) (some (.int v), SH, RHO, u')) {k50 : Int32 → Int32 → Mem → Option (Int32 × Mem)} (hk50 : ∀ (l1 l4 : Int32) (u : Mem), k50 l1 l4 u = some (v, u') → WM G X 50 [(0, .ref 34), (1, .int l1), (2, .ref 1), (4, .int l4)] [] SH RHO u) (l1 l4 : Int32) (u : Mem) (h : FX6_read_34_1_b121 k50 l1 l4 u = some (v, u')) : WM G X 121 [(0, .ref 34), (1, .int l1), (2, .ref 1), (4, .int l4)] [] SH RHO u := by
  unfold FX6_read_34_1_b121 at h
  refine w_iinc (lv' := [(4, .int (l4 + 1)), (0, .ref 34), (1, .int l1), (2, .ref 1)]) 121 3 hX dX6_read_121 rfl (inc_1 _) (by decide) rfl ?_
  refine w_goto (tgt := 50) 124 hX (by decide) dX6_read_124 ?_
  exact w_sub [1, 2, 3, 0] rfl (hk50 l1 (l4 + 1) u h)
def FX6_read_34_1_b50 (k50 : Int32 → Int32 → Mem → Option (Int32 × Mem)) (l1 l4 : Int32) (u : Mem) : Option (Int32 × Mem) :=
  (if 400 < l4 then (FX6_read_34_1_b127 l1 u) else ((if (u 34 10) = 0 then (FX6_read_34_1_b127 l1 u) else ((if l1 = 0 then ((FX6_lawLine_34 u).bind fun u5 => FX6_read_34_1_b121 k50 l1 l4 u5) else ((if l1 = 1 then ((FX6_tellingLine_34 (u 1 0) u).bind fun u8 => FX6_read_34_1_b121 k50 l1 l4 u8) else ((if l1 = 2 then ((FX6_weightLine_34 u).bind fun u11 => FX6_read_34_1_b121 k50 l1 l4 u11) else ((FX6_orderLine_34 u).bind fun u13 => FX6_read_34_1_b121 k50 l1 l4 u13))))))))))
theorem bX6_read_34_1_50 {G : Gt} {X : Xt} {v : Int32} {u' : Mem} (hX : CxOk G X cX6_read 5 RX6 (some (.int v), SH, RHO, u') 92) (hR : CxRet G X (some .int) (some (.int v), SH, RHO, u')) {k50 : Int32 → Int32 → Mem → Option (Int32 × Mem)} (hk50 : ∀ (l1 l4 : Int32) (u : Mem), k50 l1 l4 u = some (v, u') → WM G X 50 [(0, .ref 34), (1, .int l1), (2, .ref 1), (4, .int l4)] [] SH RHO u) (l1 l4 : Int32) (u : Mem) (h : FX6_read_34_1_b50 k50 l1 l4 u = some (v, u')) : WM G X 50 [(0, .ref 34), (1, .int l1), (2, .ref 1), (4, .int l4)] [] SH RHO u := by
  unfold FX6_read_34_1_b50 at h
  refine w_iload 3 50 hX rfl dX6_read_50 ?_
  refine w_sipush 400 52 hX isp_400 dX6_read_52 ?_
  refine w_icmp_gt (tgt := 127) 55 hX dX6_read_55 (by decide) (fun c1 => ?_) (fun c1 => ?_)
  · have h := it h c1
    exact w_sub [0, 1, 2] rfl (bX6_read_34_1_127 hX hR l1 u h)
  · have h := ie h c1
    refine w_aload_n 0 58 hX rfl rfl dX6_read_58 ?_
    refine w_getI (j := 10) 59 hX CI_6 s_34 rfl fl_X6_67 rfl dX6_read_59 ?_
    refine w_if_eq (tgt := 127) 62 hX dX6_read_62 (by decide) (fun c2 => ?_) (fun c2 => ?_)
    · have h := it h c2
      exact w_sub [0, 1, 2] rfl (bX6_read_34_1_127 hX hR l1 u h)
    · have h := ie h c2
      refine w_iload_n 1 65 hX rfl rfl dX6_read_65 ?_
      by_cases c3 : l1 = 0
      · have h := it h c3
        refine w_tabIn (tgt := 92) (off := 26) 66 hX dX6_read_66 (by rw [c3]; decide) (by rw [c3]; decide) (by rw [c3]; decide) (by decide) ?_
        refine w_aload_n 0 92 hX rfl rfl dX6_read_92 ?_
        obtain ⟨u5, gu5, h⟩ := o_bind h
        refine w_invVv (av := []) (st := []) 93 hX CI_6 s_34 rfl mv_yX6_lawLine mi_yX6_lawLine ml_X6_70 (CX6_lawLine_34 u gu5) rfl (by decide) (Nat.le_of_ble_eq_true rfl) (Nat.le_refl _) (Nat.le_refl _) dX6_read_93 ?_
        refine w_goto (tgt := 121) 96 hX (by decide) dX6_read_96 ?_
        exact bX6_read_34_1_121 hX hR hk50 l1 l4 u5 h
      · have h := ie h c3
        by_cases c6 : l1 = 1
        · have h := it h c6
          refine w_tabIn (tgt := 99) (off := 33) 66 hX dX6_read_66 (by rw [c6]; decide) (by rw [c6]; decide) (by rw [c6]; decide) (by decide) ?_
          refine w_aload_n 0 99 hX rfl rfl dX6_read_99 ?_
          refine w_aload_n 2 100 hX rfl rfl dX6_read_100 ?_
          refine w_getI (j := 0) 101 hX CI_9 s_1 rfl fl_X6_73 rfl dX6_read_101 ?_
          obtain ⟨u8, gu8, h⟩ := o_bind h
          refine w_invVv (av := [.int (u 1 0)]) (st := []) 104 hX CI_6 s_34 rfl mv_yX6_tellingLine mi_yX6_tellingLine ml_X6_78 (CX6_tellingLine_34 (u 1 0) u gu8) rfl (by decide) (Nat.le_of_ble_eq_true rfl) (Nat.le_refl _) (Nat.le_refl _) dX6_read_104 ?_
          refine w_goto (tgt := 121) 107 hX (by decide) dX6_read_107 ?_
          exact bX6_read_34_1_121 hX hR hk50 l1 l4 u8 h
        · have h := ie h c6
          by_cases c9 : l1 = 2
          · have h := it h c9
            refine w_tabIn (tgt := 110) (off := 44) 66 hX dX6_read_66 (by rw [c9]; decide) (by rw [c9]; decide) (by rw [c9]; decide) (by decide) ?_
            refine w_aload_n 0 110 hX rfl rfl dX6_read_110 ?_
            obtain ⟨u11, gu11, h⟩ := o_bind h
            refine w_invVv (av := []) (st := []) 111 hX CI_6 s_34 rfl mv_yX6_weightLine mi_yX6_weightLine ml_X6_82 (CX6_weightLine_34 u gu11) rfl (by decide) (Nat.le_of_ble_eq_true rfl) (Nat.le_refl _) (Nat.le_refl _) dX6_read_111 ?_
            refine w_goto (tgt := 121) 114 hX (by decide) dX6_read_114 ?_
            exact bX6_read_34_1_121 hX hR hk50 l1 l4 u11 h
          · have h := ie h c9
            have zc3 := lv_neT c3 (a := 0) (by decide)
            have zc6 := lv_neT c6 (a := 1) (by decide)
            have zc9 := lv_neT c9 (a := 2) (by decide)
            refine w_tabOut (tgt := 117) 66 hX dX6_read_66 (by omega) (by decide) ?_
            refine w_aload_n 0 117 hX rfl rfl dX6_read_117 ?_
            obtain ⟨u13, gu13, h⟩ := o_bind h
            refine w_invVv (av := []) (st := []) 118 hX CI_6 s_34 rfl mv_yX6_orderLine mi_yX6_orderLine ml_X6_85 (CX6_orderLine_34 u gu13) rfl (by decide) (Nat.le_of_ble_eq_true rfl) (Nat.le_refl _) (Nat.le_refl _) dX6_read_118 ?_
            exact bX6_read_34_1_121 hX hR hk50 l1 l4 u13 h
def FX6_read_34_1_L50 : Nat → Int32 → Int32 → Mem → Option (Int32 × Mem)
  | 0, _, _, _ => none
  | n + 1, l1, l4, u => FX6_read_34_1_b50 (FX6_read_34_1_L50 n) l1 l4 u
theorem lX6_read_34_1_50 {G : Gt} {X : Xt} {v : Int32} {u' : Mem} (hX : CxOk G X cX6_read 5 RX6 (some (.int v), SH, RHO, u') 92) (hR : CxRet G X (some .int) (some (.int v), SH, RHO, u')) : ∀ (n : Nat) (l1 l4 : Int32) (u : Mem), FX6_read_34_1_L50 n l1 l4 u = some (v, u') → WM G X 50 [(0, .ref 34), (1, .int l1), (2, .ref 1), (4, .int l4)] [] SH RHO u := by
  intro n
  induction n with
  | zero =>
    intro l1 l4 u h
    exact nn_ h
  | succ n ih =>
    intro l1 l4 u h
    exact bX6_read_34_1_50 hX hR ih l1 l4 u h
def FX6_read_34_1 (p1 : Int32) (u : Mem) : Option (Int32 × Mem) :=
  (some (mupd u 34 12 0)).bind fun u1 => (some (mupd u1 34 13 0)).bind fun u2 => (some (mupd u2 34 14 (-1))).bind fun u3 => (if p1 < 0 then (some ((-1), u3)) else ((if p1 ≤ 3 then ((FX6_cut_34 (if 400 < (u 34 12) then 400 else (u 34 12)) p1 u3).bind fun u7 => (FX6_clear_34 u7).bind fun u9 => FX6_read_34_1_L50 FU p1 0 u9) else (some ((-1), u3)))))
theorem CX6_read_34_1 {G : Gt} (p1 : Int32) (u : Mem) {v : Int32} {u' : Mem} (h : FX6_read_34_1 p1 u = some (v, u')) : CT G yX6_read cX6_read 5 (some .int) 92 [.ref 34, .int p1, .ref 1] SH RHO u (some (.int v), SH, RHO, u') :=
  ct_of (by decide) rfl (Nat.le_of_ble_eq_true rfl) (Nat.le_refl _) (Nat.le_refl _) (fun X hX hR => by
  unfold FX6_read_34_1 at h
  refine w_aload_n 0 0 hX rfl rfl dX6_read_0 ?_
  refine w_getI (j := 12) 1 hX CI_6 s_34 rfl fl_X6_48 rfl dX6_read_1 ?_
  refine w_sipush 400 4 hX isp_400 dX6_read_4 ?_
  refine w_min 7 hX ml_X6_51 jm_min_s jm_i jm_min_c (by decide) (Nat.le_of_ble_eq_true rfl) (Nat.le_refl _) (Nat.le_refl _) dX6_read_7 ?_
  refine w_istore_n (lv' := [(3, .int (if 400 < (u 34 12) then 400 else (u 34 12))), (0, .ref 34), (1, .int p1), (2, .ref 1)]) 10 hX rfl dX6_read_10 (by decide) rfl ?_
  refine w_aload_n 1 11 hX rfl rfl dX6_read_11 ?_
  refine w_iconst 0 12 hX ic_0 dX6_read_12 ?_
  obtain ⟨u1, gu1, h⟩ := o_bind h
  refine w_putI (j := 12) 13 hX CI_6 s_34 rfl fl_X6_48 rfl rfl rfl rfl dX6_read_13 ?_
  rw [Option.some.inj gu1]
  refine w_aload_n 1 16 hX rfl rfl dX6_read_16 ?_
  refine w_iconst 0 17 hX ic_0 dX6_read_17 ?_
  obtain ⟨u2, gu2, h⟩ := o_bind h
  refine w_putI (j := 13) 18 hX CI_6 s_34 rfl fl_X6_57 rfl rfl rfl rfl dX6_read_18 ?_
  rw [Option.some.inj gu2]
  refine w_aload_n 1 21 hX rfl rfl dX6_read_21 ?_
  refine w_iconst (-1) 22 hX ic_m1 dX6_read_22 ?_
  obtain ⟨u3, gu3, h⟩ := o_bind h
  refine w_putI (j := 14) 23 hX CI_6 s_34 rfl fl_X6_44 rfl rfl rfl rfl dX6_read_23 ?_
  rw [Option.some.inj gu3]
  refine w_iload_n 2 26 hX rfl rfl dX6_read_26 ?_
  refine w_if_lt (tgt := 35) 27 hX dX6_read_27 (by decide) (fun c4 => ?_) (fun c4 => ?_)
  · have h := it h c4
    refine w_iconst (-1) 35 hX ic_m1 dX6_read_35 ?_
    exact w_iret 36 hX hR dX6_read_36 (by cases h; rfl)
  · have h := ie h c4
    refine w_iload_n 2 30 hX rfl rfl dX6_read_30 ?_
    refine w_iconst 3 31 hX ic_3 dX6_read_31 ?_
    refine w_icmp_le (tgt := 37) 32 hX dX6_read_32 (by decide) (fun c5 => ?_) (fun c5 => ?_)
    · have h := it h c5
      refine w_aload_n 1 37 hX rfl rfl dX6_read_37 ?_
      refine w_iload_n 0 38 hX rfl rfl dX6_read_38 ?_
      refine w_iload_n 2 39 hX rfl rfl dX6_read_39 ?_
      obtain ⟨u7, gu7, h⟩ := o_bind h
      refine w_invVv (av := [.int (if 400 < (u 34 12) then 400 else (u 34 12)), .int p1]) (st := []) 40 hX CI_6 s_34 rfl mv_yX6_cut mi_yX6_cut ml_X6_60 (CX6_cut_34 (if 400 < (u 34 12) then 400 else (u 34 12)) p1 u3 gu7) rfl (by decide) (Nat.le_of_ble_eq_true rfl) (Nat.le_refl _) (Nat.le_refl _) dX6_read_40 ?_
      refine w_aload_n 1 43 hX rfl rfl dX6_read_43 ?_
      obtain ⟨u9, gu9, h⟩ := o_bind h
      refine w_invVv (av := []) (st := []) 44 hX CI_6 s_34 rfl mv_yX6_clear mi_yX6_clear ml_X6_64 (CX6_clear_34 u7 gu9) rfl (by decide) (Nat.le_of_ble_eq_true rfl) (Nat.le_refl _) (Nat.le_refl _) dX6_read_44 ?_
      refine w_iconst 0 47 hX ic_0 dX6_read_47 ?_
      refine w_istore (lv' := [(4, .int 0), (3, .int (if 400 < (u 34 12) then 400 else (u 34 12))), (0, .ref 34), (1, .int p1), (2, .ref 1)]) 48 hX dX6_read_48 (by decide) rfl ?_
      exact w_sub [2, 3, 4, 0] rfl (lX6_read_34_1_50 hX hR FU p1 0 u9 h)
    · have h := ie h c5
      refine w_iconst (-1) 35 hX ic_m1 dX6_read_35 ?_
      exact w_iret 36 hX hR dX6_read_36 (by cases h; rfl))
def FX11_text_0_b35 (l2 : Int32) (u : Mem) : Option (Int32 × Mem) :=
  some (l2, u)
theorem bX11_text_0_35 {G : Gt} {X : Xt} {v : Int32} {u' : Mem} (hX : CxOk G X cX11_text 3 RX11 (some (.int v), SH, RHO, u') 93) (hR : CxRet G X (some .int) (some (.int v), SH, RHO, u')) (l2 : Int32) (u : Mem) (h : FX11_text_0_b35 l2 u = some (v, u')) : WM G X 35 [(2, .int l2)] [] SH RHO u := by
  unfold FX11_text_0_b35 at h
  refine w_iload_n 0 35 hX rfl rfl dX11_text_35 ?_
  exact w_iret 36 hX hR dX11_text_36 (by cases h; rfl)
def FX11_text_0_b28 (l2 : Int32) (u : Mem) : Option (Int32 × Mem) :=
  (FX10_forgetAll_52 u).bind fun u2 => FX11_text_0_b35 l2 u2
theorem bX11_text_0_28 {G : Gt} {X : Xt} {v : Int32} {u' : Mem} (hX : CxOk G X cX11_text 3 RX11 (some (.int v), SH, RHO, u') 93) (hR : CxRet G X (some .int) (some (.int v), SH, RHO, u')) (l2 : Int32) (u : Mem) (h : FX11_text_0_b28 l2 u = some (v, u')) : WM G X 28 [(0, .ref 0), (2, .int l2)] [] SH RHO u := by
  unfold FX11_text_0_b28 at h
  refine w_aload_n 0 28 hX rfl rfl dX11_text_28 ?_
  refine w_getR 29 hX CI_11 s_0 rfl r_0_5 fl_X11_49 rfl dX11_text_29 ?_
  obtain ⟨u2, gu2, h⟩ := o_bind h
  refine w_invVv (av := []) (st := []) 32 hX CI_10 s_52 rfl mv_yX10_forgetAll mi_yX10_forgetAll ml_X11_88 (CX10_forgetAll_52 u gu2) rfl (by decide) (Nat.le_of_ble_eq_true rfl) (Nat.le_refl _) (Nat.le_refl _) dX11_text_32 ?_
  exact w_sub [1] rfl (bX11_text_0_35 hX hR l2 u2 h)
def FX11_text_0 (p1 : Int32) (u : Mem) : Option (Int32 × Mem) :=
  bnd2 (FX6_read_34_1 p1 u) fun x1 u2 => (if x1 = (-1) then (FX11_text_0_b35 x1 u2) else ((if p1 = 1 then (FX11_text_0_b28 x1 u2) else ((if p1 = 3 then (FX11_text_0_b28 x1 u2) else (FX11_text_0_b35 x1 u2))))))
theorem CX11_text_0 {G : Gt} (p1 : Int32) (u : Mem) {v : Int32} {u' : Mem} (h : FX11_text_0 p1 u = some (v, u')) : CT G yX11_text cX11_text 3 (some .int) 93 [.ref 0, .int p1] SH RHO u (some (.int v), SH, RHO, u') :=
  ct_of (by decide) rfl (Nat.le_of_ble_eq_true rfl) (Nat.le_refl _) (Nat.le_refl _) (fun X hX hR => by
  unfold FX11_text_0 at h
  refine w_aload_n 0 0 hX rfl rfl dX11_text_0 ?_
  refine w_getR 1 hX CI_11 s_0 rfl r_0_4 fl_X11_42 rfl dX11_text_1 ?_
  refine w_iload_n 1 4 hX rfl rfl dX11_text_4 ?_
  refine w_aload_n 0 5 hX rfl rfl dX11_text_5 ?_
  refine w_getR 6 hX CI_11 s_0 rfl r_0_0 fl_X11_10 rfl dX11_text_6 ?_
  obtain ⟨x1, u2, gx1, h⟩ := o_bnd2 h
  refine w_invVi (av := [.int p1, .ref 1]) (st := []) 9 hX CI_6 s_34 rfl mv_yX6_read mi_yX6_read ml_X11_172 (CX6_read_34_1 p1 u gx1) rfl (by decide) (Nat.le_of_ble_eq_true rfl) (Nat.le_refl _) (Nat.le_refl _) dX11_text_9 ?_
  refine w_istore_n (lv' := [(2, .int x1), (0, .ref 0), (1, .int p1)]) 12 hX rfl dX11_text_12 (by decide) rfl ?_
  refine w_iload_n 0 13 hX rfl rfl dX11_text_13 ?_
  refine w_iconst (-1) 14 hX ic_m1 dX11_text_14 ?_
  refine w_icmp_eq (tgt := 35) 15 hX dX11_text_15 (by decide) (fun c3 => ?_) (fun c3 => ?_)
  · have h := it h c3
    exact w_sub [0] rfl (bX11_text_0_35 hX hR x1 u2 h)
  · have h := ie h c3
    refine w_iload_n 2 18 hX rfl rfl dX11_text_18 ?_
    refine w_iconst 1 19 hX ic_1 dX11_text_19 ?_
    refine w_icmp_eq (tgt := 28) 20 hX dX11_text_20 (by decide) (fun c4 => ?_) (fun c4 => ?_)
    · have h := it h c4
      exact w_sub [1, 0] rfl (bX11_text_0_28 hX hR x1 u2 h)
    · have h := ie h c4
      refine w_iload_n 2 23 hX rfl rfl dX11_text_23 ?_
      refine w_iconst 3 24 hX ic_3 dX11_text_24 ?_
      refine w_icmp_ne (tgt := 35) 25 hX dX11_text_25 (by decide) (fun c5 => ?_) (fun c5 => ?_)
      · have h := ie h c5
        exact w_sub [0] rfl (bX11_text_0_35 hX hR x1 u2 h)
      · have h := it h c5
        exact w_sub [1, 0] rfl (bX11_text_0_28 hX hR x1 u2 h))
def FX12_see_146 (p1 : Int32) (u : Mem) : Option Int32 :=
  (if (u 146 16) ≤ p1 then (some (-1)) else ((rdA u 154 400 p1).bind fun x2 => some x2))
theorem CX12_see_146 {G : Gt} (p1 : Int32) (u : Mem) {v : Int32} (h : FX12_see_146 p1 u = some v) : CT G yX12_see cX12_see 2 (some .int) 1 [.ref 146, .int p1] SH RHO u (some (.int v), SH, RHO, u) :=
  ct_of (by decide) rfl (Nat.le_of_ble_eq_true rfl) (Nat.le_refl _) (Nat.le_refl _) (fun X hX hR => by
  unfold FX12_see_146 at h
  refine w_iload_n 1 0 hX rfl rfl dX12_see_0 ?_
  refine w_aload_n 0 1 hX rfl rfl dX12_see_1 ?_
  refine w_getI (j := 16) 2 hX CI_12 s_146 rfl fl_X12_80 rfl dX12_see_2 ?_
  refine w_icmp_ge (tgt := 17) 5 hX dX12_see_5 (by decide) (fun c1 => ?_) (fun c1 => ?_)
  · have h := it h c1
    refine w_iconst (-1) 17 hX ic_m1 dX12_see_17 ?_
    exact w_iret 18 hX hR dX12_see_18 (by cases h; rfl)
  · have h := ie h c1
    refine w_aload_n 0 8 hX rfl rfl dX12_see_8 ?_
    refine w_getR 9 hX CI_12 s_146 rfl r_146_9 fl_X12_31 rfl dX12_see_9 ?_
    refine w_iload_n 1 12 hX rfl rfl dX12_see_12 ?_
    obtain ⟨x2, gx2, h⟩ := o_bind h
    refine w_iald 13 hX s_154 gx2 dX12_see_13 ?_
    refine w_goto (tgt := 18) 14 hX (by decide) dX12_see_14 ?_
    exact w_iret 18 hX hR dX12_see_18 (by cases h; rfl))
def FX12_isLetter (p0 : Int32) : Option Int32 :=
  (FX12_isIn p0 97 122).bind fun x1 => (if x1 = 0 then ((FX12_isIn p0 65 90).bind fun x3 => (if x3 = 0 then (some 0) else (some 1))) else (some 1))
theorem CX12_isLetter {G : Gt} (p0 : Int32) (u : Mem) {v : Int32} (h : FX12_isLetter p0 = some v) : CT G yX12_isLetter cX12_isLetter 1 (some .boolean) 2 [.int p0] SH RHO u (some (.int v), SH, RHO, u) :=
  ct_of (by decide) rfl (Nat.le_of_ble_eq_true rfl) (Nat.le_refl _) (Nat.le_refl _) (fun X hX hR => by
  unfold FX12_isLetter at h
  refine w_iload_n 0 0 hX rfl rfl dX12_isLetter_0 ?_
  refine w_bipush 97 1 hX ib_97 dX12_isLetter_1 ?_
  refine w_bipush 122 3 hX ib_122 dX12_isLetter_3 ?_
  obtain ⟨x1, gx1, h⟩ := o_bind h
  refine w_invSi (av := [.int p0, .int 97, .int 122]) (st := []) 5 hX ms_yX12_isIn mi_yX12_isIn ml_X12_54 (CX12_isIn p0 97 122 u gx1) rfl (by decide) (Nat.le_of_ble_eq_true rfl) (Nat.le_refl _) (Nat.le_refl _) dX12_isLetter_5 ?_
  refine w_if_ne (tgt := 22) 8 hX dX12_isLetter_8 (by decide) (fun c2 => ?_) (fun c2 => ?_)
  · have h := ie h c2
    refine w_iconst 1 22 hX ic_1 dX12_isLetter_22 ?_
    refine w_goto (tgt := 27) 23 hX (by decide) dX12_isLetter_23 ?_
    exact w_zret 27 hX hR (by decide) dX12_isLetter_27 (by cases h; rfl)
  · have h := it h c2
    refine w_iload_n 0 11 hX rfl rfl dX12_isLetter_11 ?_
    refine w_bipush 65 12 hX ib_65 dX12_isLetter_12 ?_
    refine w_bipush 90 14 hX ib_90 dX12_isLetter_14 ?_
    obtain ⟨x3, gx3, h⟩ := o_bind h
    refine w_invSi (av := [.int p0, .int 65, .int 90]) (st := []) 16 hX ms_yX12_isIn mi_yX12_isIn ml_X12_54 (CX12_isIn p0 65 90 u gx3) rfl (by decide) (Nat.le_of_ble_eq_true rfl) (Nat.le_refl _) (Nat.le_refl _) dX12_isLetter_16 ?_
    refine w_if_eq (tgt := 26) 19 hX dX12_isLetter_19 (by decide) (fun c4 => ?_) (fun c4 => ?_)
    · have h := it h c4
      refine w_iconst 0 26 hX ic_0 dX12_isLetter_26 ?_
      exact w_zret 27 hX hR (by decide) dX12_isLetter_27 (by cases h; rfl)
    · have h := ie h c4
      refine w_iconst 1 22 hX ic_1 dX12_isLetter_22 ?_
      refine w_goto (tgt := 27) 23 hX (by decide) dX12_isLetter_23 ?_
      exact w_zret 27 hX hR (by decide) dX12_isLetter_27 (by cases h; rfl))
def FX12_isDigit (p0 : Int32) : Option Int32 :=
  (FX12_isIn p0 48 57).bind fun x1 => (bchk x1).bind fun x2 => some x2
theorem CX12_isDigit {G : Gt} (p0 : Int32) (u : Mem) {v : Int32} (h : FX12_isDigit p0 = some v) : CT G yX12_isDigit cX12_isDigit 1 (some .boolean) 2 [.int p0] SH RHO u (some (.int v), SH, RHO, u) :=
  ct_of (by decide) rfl (Nat.le_of_ble_eq_true rfl) (Nat.le_refl _) (Nat.le_refl _) (fun X hX hR => by
  unfold FX12_isDigit at h
  refine w_iload_n 0 0 hX rfl rfl dX12_isDigit_0 ?_
  refine w_bipush 48 1 hX ib_48 dX12_isDigit_1 ?_
  refine w_bipush 57 3 hX ib_57 dX12_isDigit_3 ?_
  obtain ⟨x1, gx1, h⟩ := o_bind h
  refine w_invSi (av := [.int p0, .int 48, .int 57]) (st := []) 5 hX ms_yX12_isIn mi_yX12_isIn ml_X12_54 (CX12_isIn p0 48 57 u gx1) rfl (by decide) (Nat.le_of_ble_eq_true rfl) (Nat.le_refl _) (Nat.le_refl _) dX12_isDigit_5 ?_
  obtain ⟨x2, gx2, h⟩ := o_bind h
  obtain ⟨jx2, nx2, mx2⟩ := bchk_ok gx2
  rw [jx2]
  exact w_zret 8 hX hR nx2 dX12_isDigit_8 (by cases h; rfl))
def FX12_is_146_5005_b67 (l2 : Int32) (u : Mem) : Option Int32 :=
  (bchk l2).bind fun x1 => some x1
theorem bX12_is_146_5005_67 {G : Gt} {X : Xt} {v : Int32} {u : Mem} (hX : CxOk G X cX12_is 4 RX12 (some (.int v), SH, RHO, u) 7) (hR : CxRet G X (some .boolean) (some (.int v), SH, RHO, u)) (l2 : Int32) (h : FX12_is_146_5005_b67 l2 u = some v) : WM G X 67 [(2, .int l2)] [] SH RHO u := by
  unfold FX12_is_146_5005_b67 at h
  refine w_iload_n 0 67 hX rfl rfl dX12_is_67 ?_
  obtain ⟨x1, gx1, h⟩ := o_bind h
  obtain ⟨jx1, nx1, mx1⟩ := bchk_ok gx1
  rw [jx1]
  exact w_zret 68 hX hR nx1 dX12_is_68 (by cases h; rfl)
def FX12_is_146_5005_b60 (k24 : Int32 → Int32 → Mem → Option Int32) (l3 t0 : Int32) (u : Mem) : Option Int32 :=
  k24 t0 (l3 + 1) u
theorem bX12_is_146_5005_60 {G : Gt} {X : Xt} {v : Int32} {u : Mem} (hX : CxOk G X cX12_is 4 RX12 (some (.int v), SH, RHO, u) 7) (hR : CxRet G X (some .boolean) (some (.int v), SH, RHO, u)) {k24 : Int32 → Int32 → Mem → Option Int32} (hk24 : ∀ (l2 l3 : Int32), k24 l2 l3 u = some v → WM G X 24 [(0, .ref 146), (1, .ref 5005), (2, .int l2), (3, .int l3)] [] SH RHO u) (l3 t0 : Int32) (h : FX12_is_146_5005_b60 k24 l3 t0 u = some v) : WM G X 60 [(0, .ref 146), (1, .ref 5005), (3, .int l3)] [.int t0] SH RHO u := by
  unfold FX12_is_146_5005_b60 at h
  refine w_istore_n (lv' := [(2, .int t0), (0, .ref 146), (1, .ref 5005), (3, .int l3)]) 60 hX rfl dX12_is_60 (by decide) rfl ?_
  refine w_iinc (lv' := [(3, .int (l3 + 1)), (2, .int t0), (0, .ref 146), (1, .ref 5005)]) 61 3 hX dX12_is_61 rfl (inc_1 _) (by decide) rfl ?_
  refine w_goto (tgt := 24) 64 hX (by decide) dX12_is_64 ?_
  exact w_sub [2, 3, 1, 0] rfl (hk24 t0 (l3 + 1) h)
def FX12_is_146_5005_b24 (k24 : Int32 → Int32 → Mem → Option Int32) (l2 l3 : Int32) (u : Mem) : Option Int32 :=
  (S_len 5).bind fun x1 => (if x1 ≤ l3 then (FX12_is_146_5005_b67 l2 u) else ((if l2 = 0 then (FX12_is_146_5005_b67 l2 u) else ((rdA u 154 400 ((u 146 19) + l3)).bind fun x4 => (S_chr 5 l3).bind fun x5 => (if x4 = x5 then (FX12_is_146_5005_b60 k24 l3 1 u) else (FX12_is_146_5005_b60 k24 l3 0 u))))))
theorem bX12_is_146_5005_24 {G : Gt} {X : Xt} {v : Int32} {u : Mem} (hX : CxOk G X cX12_is 4 RX12 (some (.int v), SH, RHO, u) 7) (hR : CxRet G X (some .boolean) (some (.int v), SH, RHO, u)) {k24 : Int32 → Int32 → Mem → Option Int32} (hk24 : ∀ (l2 l3 : Int32), k24 l2 l3 u = some v → WM G X 24 [(0, .ref 146), (1, .ref 5005), (2, .int l2), (3, .int l3)] [] SH RHO u) (l2 l3 : Int32) (h : FX12_is_146_5005_b24 k24 l2 l3 u = some v) : WM G X 24 [(0, .ref 146), (1, .ref 5005), (2, .int l2), (3, .int l3)] [] SH RHO u := by
  unfold FX12_is_146_5005_b24 at h
  refine w_iload_n 3 24 hX rfl rfl dX12_is_24 ?_
  refine w_aload_n 1 25 hX rfl rfl dX12_is_25 ?_
  obtain ⟨x1, gx1, h⟩ := o_bind h
  refine w_S_len (i := 5) (st := [.int l3]) 26 hX ml_X12_89 gx1 (by decide) (by decide) (Nat.le_of_ble_eq_true rfl) dX12_is_26 ?_
  refine w_icmp_ge (tgt := 67) 29 hX dX12_is_29 (by decide) (fun c2 => ?_) (fun c2 => ?_)
  · have h := it h c2
    exact w_sub [2] rfl (bX12_is_146_5005_67 hX hR l2 h)
  · have h := ie h c2
    refine w_iload_n 2 32 hX rfl rfl dX12_is_32 ?_
    refine w_if_eq (tgt := 67) 33 hX dX12_is_33 (by decide) (fun c3 => ?_) (fun c3 => ?_)
    · have h := it h c3
      exact w_sub [2] rfl (bX12_is_146_5005_67 hX hR l2 h)
    · have h := ie h c3
      refine w_aload_n 0 36 hX rfl rfl dX12_is_36 ?_
      refine w_getR 37 hX CI_12 s_146 rfl r_146_9 fl_X12_31 rfl dX12_is_37 ?_
      refine w_aload_n 0 40 hX rfl rfl dX12_is_40 ?_
      refine w_getI (j := 19) 41 hX CI_12 s_146 rfl fl_X12_86 rfl dX12_is_41 ?_
      refine w_iload_n 3 44 hX rfl rfl dX12_is_44 ?_
      refine w_iadd 45 hX dX12_is_45 ?_
      obtain ⟨x4, gx4, h⟩ := o_bind h
      refine w_iald 46 hX s_154 gx4 dX12_is_46 ?_
      refine w_aload_n 1 47 hX rfl rfl dX12_is_47 ?_
      refine w_iload_n 3 48 hX rfl rfl dX12_is_48 ?_
      obtain ⟨x5, gx5, h⟩ := o_bind h
      refine w_S_chr (i := 5) (st := [.int x4]) 49 hX ml_X12_95 gx5 (by decide) (by decide) (Nat.le_of_ble_eq_true rfl) dX12_is_49 ?_
      refine w_icmp_ne (tgt := 59) 52 hX dX12_is_52 (by decide) (fun c6 => ?_) (fun c6 => ?_)
      · have h := ie h c6
        refine w_iconst 0 59 hX ic_0 dX12_is_59 ?_
        exact w_sub [0, 1, 3] rfl (bX12_is_146_5005_60 hX hR hk24 l3 0 h)
      · have h := it h c6
        refine w_iconst 1 55 hX ic_1 dX12_is_55 ?_
        refine w_goto (tgt := 60) 56 hX (by decide) dX12_is_56 ?_
        exact w_sub [0, 1, 3] rfl (bX12_is_146_5005_60 hX hR hk24 l3 1 h)
def FX12_is_146_5005_L24 : Nat → Int32 → Int32 → Mem → Option Int32
  | 0, _, _, _ => none
  | n + 1, l2, l3, u => FX12_is_146_5005_b24 (FX12_is_146_5005_L24 n) l2 l3 u
theorem lX12_is_146_5005_24 {G : Gt} {X : Xt} {v : Int32} {u : Mem} (hX : CxOk G X cX12_is 4 RX12 (some (.int v), SH, RHO, u) 7) (hR : CxRet G X (some .boolean) (some (.int v), SH, RHO, u)) : ∀ (n : Nat) (l2 l3 : Int32), FX12_is_146_5005_L24 n l2 l3 u = some v → WM G X 24 [(0, .ref 146), (1, .ref 5005), (2, .int l2), (3, .int l3)] [] SH RHO u := by
  intro n
  induction n with
  | zero =>
    intro l2 l3 h
    exact nn_ h
  | succ n ih =>
    intro l2 l3 h
    exact bX12_is_146_5005_24 hX hR ih l2 l3 h
def FX12_is_146_5005_b21 (t0 : Int32) (u : Mem) : Option Int32 :=
  FX12_is_146_5005_L24 FU t0 0 u
theorem bX12_is_146_5005_21 {G : Gt} {X : Xt} {v : Int32} {u : Mem} (hX : CxOk G X cX12_is 4 RX12 (some (.int v), SH, RHO, u) 7) (hR : CxRet G X (some .boolean) (some (.int v), SH, RHO, u)) (t0 : Int32) (h : FX12_is_146_5005_b21 t0 u = some v) : WM G X 21 [(0, .ref 146), (1, .ref 5005)] [.int t0] SH RHO u := by
  unfold FX12_is_146_5005_b21 at h
  refine w_istore_n (lv' := [(2, .int t0), (0, .ref 146), (1, .ref 5005)]) 21 hX rfl dX12_is_21 (by decide) rfl ?_
  refine w_iconst 0 22 hX ic_0 dX12_is_22 ?_
  refine w_istore_n (lv' := [(3, .int 0), (2, .int t0), (0, .ref 146), (1, .ref 5005)]) 23 hX rfl dX12_is_23 (by decide) rfl ?_
  exact w_sub [2, 3, 1, 0] rfl (lX12_is_146_5005_24 hX hR FU t0 0 h)
def FX12_is_146_5005 (u : Mem) : Option Int32 :=
  (S_len 5).bind fun x1 => (if ((u 146 17) - (u 146 19)) = x1 then (FX12_is_146_5005_b21 1 u) else (FX12_is_146_5005_b21 0 u))
theorem CX12_is_146_5005 {G : Gt} (u : Mem) {v : Int32} (h : FX12_is_146_5005 u = some v) : CT G yX12_is cX12_is 4 (some .boolean) 7 [.ref 146, .ref 5005] SH RHO u (some (.int v), SH, RHO, u) :=
  ct_of (by decide) rfl (Nat.le_of_ble_eq_true rfl) (Nat.le_refl _) (Nat.le_refl _) (fun X hX hR => by
  unfold FX12_is_146_5005 at h
  refine w_aload_n 0 0 hX rfl rfl dX12_is_0 ?_
  refine w_getI (j := 17) 1 hX CI_12 s_146 rfl fl_X12_83 rfl dX12_is_1 ?_
  refine w_aload_n 0 4 hX rfl rfl dX12_is_4 ?_
  refine w_getI (j := 19) 5 hX CI_12 s_146 rfl fl_X12_86 rfl dX12_is_5 ?_
  refine w_isub 8 hX dX12_is_8 ?_
  refine w_aload_n 1 9 hX rfl rfl dX12_is_9 ?_
  obtain ⟨x1, gx1, h⟩ := o_bind h
  refine w_S_len (i := 5) (st := [.int ((u 146 17) - (u 146 19))]) 10 hX ml_X12_89 gx1 (by decide) (by decide) (Nat.le_of_ble_eq_true rfl) dX12_is_10 ?_
  refine w_icmp_ne (tgt := 20) 13 hX dX12_is_13 (by decide) (fun c2 => ?_) (fun c2 => ?_)
  · have h := ie h c2
    refine w_iconst 0 20 hX ic_0 dX12_is_20 ?_
    exact bX12_is_146_5005_21 hX hR 0 h
  · have h := it h c2
    refine w_iconst 1 16 hX ic_1 dX12_is_16 ?_
    refine w_goto (tgt := 21) 17 hX (by decide) dX12_is_17 ?_
    exact bX12_is_146_5005_21 hX hR 1 h)
def FX12_is_146_5006_b67 (l2 : Int32) (u : Mem) : Option Int32 :=
  (bchk l2).bind fun x1 => some x1
theorem bX12_is_146_5006_67 {G : Gt} {X : Xt} {v : Int32} {u : Mem} (hX : CxOk G X cX12_is 4 RX12 (some (.int v), SH, RHO, u) 7) (hR : CxRet G X (some .boolean) (some (.int v), SH, RHO, u)) (l2 : Int32) (h : FX12_is_146_5006_b67 l2 u = some v) : WM G X 67 [(2, .int l2)] [] SH RHO u := by
  unfold FX12_is_146_5006_b67 at h
  refine w_iload_n 0 67 hX rfl rfl dX12_is_67 ?_
  obtain ⟨x1, gx1, h⟩ := o_bind h
  obtain ⟨jx1, nx1, mx1⟩ := bchk_ok gx1
  rw [jx1]
  exact w_zret 68 hX hR nx1 dX12_is_68 (by cases h; rfl)
def FX12_is_146_5006_b60 (k24 : Int32 → Int32 → Mem → Option Int32) (l3 t0 : Int32) (u : Mem) : Option Int32 :=
  k24 t0 (l3 + 1) u
theorem bX12_is_146_5006_60 {G : Gt} {X : Xt} {v : Int32} {u : Mem} (hX : CxOk G X cX12_is 4 RX12 (some (.int v), SH, RHO, u) 7) (hR : CxRet G X (some .boolean) (some (.int v), SH, RHO, u)) {k24 : Int32 → Int32 → Mem → Option Int32} (hk24 : ∀ (l2 l3 : Int32), k24 l2 l3 u = some v → WM G X 24 [(0, .ref 146), (1, .ref 5006), (2, .int l2), (3, .int l3)] [] SH RHO u) (l3 t0 : Int32) (h : FX12_is_146_5006_b60 k24 l3 t0 u = some v) : WM G X 60 [(0, .ref 146), (1, .ref 5006), (3, .int l3)] [.int t0] SH RHO u := by
  unfold FX12_is_146_5006_b60 at h
  refine w_istore_n (lv' := [(2, .int t0), (0, .ref 146), (1, .ref 5006), (3, .int l3)]) 60 hX rfl dX12_is_60 (by decide) rfl ?_
  refine w_iinc (lv' := [(3, .int (l3 + 1)), (2, .int t0), (0, .ref 146), (1, .ref 5006)]) 61 3 hX dX12_is_61 rfl (inc_1 _) (by decide) rfl ?_
  refine w_goto (tgt := 24) 64 hX (by decide) dX12_is_64 ?_
  exact w_sub [2, 3, 1, 0] rfl (hk24 t0 (l3 + 1) h)
def FX12_is_146_5006_b24 (k24 : Int32 → Int32 → Mem → Option Int32) (l2 l3 : Int32) (u : Mem) : Option Int32 :=
  (S_len 6).bind fun x1 => (if x1 ≤ l3 then (FX12_is_146_5006_b67 l2 u) else ((if l2 = 0 then (FX12_is_146_5006_b67 l2 u) else ((rdA u 154 400 ((u 146 19) + l3)).bind fun x4 => (S_chr 6 l3).bind fun x5 => (if x4 = x5 then (FX12_is_146_5006_b60 k24 l3 1 u) else (FX12_is_146_5006_b60 k24 l3 0 u))))))
theorem bX12_is_146_5006_24 {G : Gt} {X : Xt} {v : Int32} {u : Mem} (hX : CxOk G X cX12_is 4 RX12 (some (.int v), SH, RHO, u) 7) (hR : CxRet G X (some .boolean) (some (.int v), SH, RHO, u)) {k24 : Int32 → Int32 → Mem → Option Int32} (hk24 : ∀ (l2 l3 : Int32), k24 l2 l3 u = some v → WM G X 24 [(0, .ref 146), (1, .ref 5006), (2, .int l2), (3, .int l3)] [] SH RHO u) (l2 l3 : Int32) (h : FX12_is_146_5006_b24 k24 l2 l3 u = some v) : WM G X 24 [(0, .ref 146), (1, .ref 5006), (2, .int l2), (3, .int l3)] [] SH RHO u := by
  unfold FX12_is_146_5006_b24 at h
  refine w_iload_n 3 24 hX rfl rfl dX12_is_24 ?_
  refine w_aload_n 1 25 hX rfl rfl dX12_is_25 ?_
  obtain ⟨x1, gx1, h⟩ := o_bind h
  refine w_S_len (i := 6) (st := [.int l3]) 26 hX ml_X12_89 gx1 (by decide) (by decide) (Nat.le_of_ble_eq_true rfl) dX12_is_26 ?_
  refine w_icmp_ge (tgt := 67) 29 hX dX12_is_29 (by decide) (fun c2 => ?_) (fun c2 => ?_)
  · have h := it h c2
    exact w_sub [2] rfl (bX12_is_146_5006_67 hX hR l2 h)
  · have h := ie h c2
    refine w_iload_n 2 32 hX rfl rfl dX12_is_32 ?_
    refine w_if_eq (tgt := 67) 33 hX dX12_is_33 (by decide) (fun c3 => ?_) (fun c3 => ?_)
    · have h := it h c3
      exact w_sub [2] rfl (bX12_is_146_5006_67 hX hR l2 h)
    · have h := ie h c3
      refine w_aload_n 0 36 hX rfl rfl dX12_is_36 ?_
      refine w_getR 37 hX CI_12 s_146 rfl r_146_9 fl_X12_31 rfl dX12_is_37 ?_
      refine w_aload_n 0 40 hX rfl rfl dX12_is_40 ?_
      refine w_getI (j := 19) 41 hX CI_12 s_146 rfl fl_X12_86 rfl dX12_is_41 ?_
      refine w_iload_n 3 44 hX rfl rfl dX12_is_44 ?_
      refine w_iadd 45 hX dX12_is_45 ?_
      obtain ⟨x4, gx4, h⟩ := o_bind h
      refine w_iald 46 hX s_154 gx4 dX12_is_46 ?_
      refine w_aload_n 1 47 hX rfl rfl dX12_is_47 ?_
      refine w_iload_n 3 48 hX rfl rfl dX12_is_48 ?_
      obtain ⟨x5, gx5, h⟩ := o_bind h
      refine w_S_chr (i := 6) (st := [.int x4]) 49 hX ml_X12_95 gx5 (by decide) (by decide) (Nat.le_of_ble_eq_true rfl) dX12_is_49 ?_
      refine w_icmp_ne (tgt := 59) 52 hX dX12_is_52 (by decide) (fun c6 => ?_) (fun c6 => ?_)
      · have h := ie h c6
        refine w_iconst 0 59 hX ic_0 dX12_is_59 ?_
        exact w_sub [0, 1, 3] rfl (bX12_is_146_5006_60 hX hR hk24 l3 0 h)
      · have h := it h c6
        refine w_iconst 1 55 hX ic_1 dX12_is_55 ?_
        refine w_goto (tgt := 60) 56 hX (by decide) dX12_is_56 ?_
        exact w_sub [0, 1, 3] rfl (bX12_is_146_5006_60 hX hR hk24 l3 1 h)
def FX12_is_146_5006_L24 : Nat → Int32 → Int32 → Mem → Option Int32
  | 0, _, _, _ => none
  | n + 1, l2, l3, u => FX12_is_146_5006_b24 (FX12_is_146_5006_L24 n) l2 l3 u
theorem lX12_is_146_5006_24 {G : Gt} {X : Xt} {v : Int32} {u : Mem} (hX : CxOk G X cX12_is 4 RX12 (some (.int v), SH, RHO, u) 7) (hR : CxRet G X (some .boolean) (some (.int v), SH, RHO, u)) : ∀ (n : Nat) (l2 l3 : Int32), FX12_is_146_5006_L24 n l2 l3 u = some v → WM G X 24 [(0, .ref 146), (1, .ref 5006), (2, .int l2), (3, .int l3)] [] SH RHO u := by
  intro n
  induction n with
  | zero =>
    intro l2 l3 h
    exact nn_ h
  | succ n ih =>
    intro l2 l3 h
    exact bX12_is_146_5006_24 hX hR ih l2 l3 h
def FX12_is_146_5006_b21 (t0 : Int32) (u : Mem) : Option Int32 :=
  FX12_is_146_5006_L24 FU t0 0 u
theorem bX12_is_146_5006_21 {G : Gt} {X : Xt} {v : Int32} {u : Mem} (hX : CxOk G X cX12_is 4 RX12 (some (.int v), SH, RHO, u) 7) (hR : CxRet G X (some .boolean) (some (.int v), SH, RHO, u)) (t0 : Int32) (h : FX12_is_146_5006_b21 t0 u = some v) : WM G X 21 [(0, .ref 146), (1, .ref 5006)] [.int t0] SH RHO u := by
  unfold FX12_is_146_5006_b21 at h
  refine w_istore_n (lv' := [(2, .int t0), (0, .ref 146), (1, .ref 5006)]) 21 hX rfl dX12_is_21 (by decide) rfl ?_
  refine w_iconst 0 22 hX ic_0 dX12_is_22 ?_
  refine w_istore_n (lv' := [(3, .int 0), (2, .int t0), (0, .ref 146), (1, .ref 5006)]) 23 hX rfl dX12_is_23 (by decide) rfl ?_
  exact w_sub [2, 3, 1, 0] rfl (lX12_is_146_5006_24 hX hR FU t0 0 h)
def FX12_is_146_5006 (u : Mem) : Option Int32 :=
  (S_len 6).bind fun x1 => (if ((u 146 17) - (u 146 19)) = x1 then (FX12_is_146_5006_b21 1 u) else (FX12_is_146_5006_b21 0 u))
theorem CX12_is_146_5006 {G : Gt} (u : Mem) {v : Int32} (h : FX12_is_146_5006 u = some v) : CT G yX12_is cX12_is 4 (some .boolean) 7 [.ref 146, .ref 5006] SH RHO u (some (.int v), SH, RHO, u) :=
  ct_of (by decide) rfl (Nat.le_of_ble_eq_true rfl) (Nat.le_refl _) (Nat.le_refl _) (fun X hX hR => by
  unfold FX12_is_146_5006 at h
  refine w_aload_n 0 0 hX rfl rfl dX12_is_0 ?_
  refine w_getI (j := 17) 1 hX CI_12 s_146 rfl fl_X12_83 rfl dX12_is_1 ?_
  refine w_aload_n 0 4 hX rfl rfl dX12_is_4 ?_
  refine w_getI (j := 19) 5 hX CI_12 s_146 rfl fl_X12_86 rfl dX12_is_5 ?_
  refine w_isub 8 hX dX12_is_8 ?_
  refine w_aload_n 1 9 hX rfl rfl dX12_is_9 ?_
  obtain ⟨x1, gx1, h⟩ := o_bind h
  refine w_S_len (i := 6) (st := [.int ((u 146 17) - (u 146 19))]) 10 hX ml_X12_89 gx1 (by decide) (by decide) (Nat.le_of_ble_eq_true rfl) dX12_is_10 ?_
  refine w_icmp_ne (tgt := 20) 13 hX dX12_is_13 (by decide) (fun c2 => ?_) (fun c2 => ?_)
  · have h := ie h c2
    refine w_iconst 0 20 hX ic_0 dX12_is_20 ?_
    exact bX12_is_146_5006_21 hX hR 0 h
  · have h := it h c2
    refine w_iconst 1 16 hX ic_1 dX12_is_16 ?_
    refine w_goto (tgt := 21) 17 hX (by decide) dX12_is_17 ?_
    exact bX12_is_146_5006_21 hX hR 1 h)
def FX12_is_146_5007_b67 (l2 : Int32) (u : Mem) : Option Int32 :=
  (bchk l2).bind fun x1 => some x1
theorem bX12_is_146_5007_67 {G : Gt} {X : Xt} {v : Int32} {u : Mem} (hX : CxOk G X cX12_is 4 RX12 (some (.int v), SH, RHO, u) 7) (hR : CxRet G X (some .boolean) (some (.int v), SH, RHO, u)) (l2 : Int32) (h : FX12_is_146_5007_b67 l2 u = some v) : WM G X 67 [(2, .int l2)] [] SH RHO u := by
  unfold FX12_is_146_5007_b67 at h
  refine w_iload_n 0 67 hX rfl rfl dX12_is_67 ?_
  obtain ⟨x1, gx1, h⟩ := o_bind h
  obtain ⟨jx1, nx1, mx1⟩ := bchk_ok gx1
  rw [jx1]
  exact w_zret 68 hX hR nx1 dX12_is_68 (by cases h; rfl)
def FX12_is_146_5007_b60 (k24 : Int32 → Int32 → Mem → Option Int32) (l3 t0 : Int32) (u : Mem) : Option Int32 :=
  k24 t0 (l3 + 1) u
theorem bX12_is_146_5007_60 {G : Gt} {X : Xt} {v : Int32} {u : Mem} (hX : CxOk G X cX12_is 4 RX12 (some (.int v), SH, RHO, u) 7) (hR : CxRet G X (some .boolean) (some (.int v), SH, RHO, u)) {k24 : Int32 → Int32 → Mem → Option Int32} (hk24 : ∀ (l2 l3 : Int32), k24 l2 l3 u = some v → WM G X 24 [(0, .ref 146), (1, .ref 5007), (2, .int l2), (3, .int l3)] [] SH RHO u) (l3 t0 : Int32) (h : FX12_is_146_5007_b60 k24 l3 t0 u = some v) : WM G X 60 [(0, .ref 146), (1, .ref 5007), (3, .int l3)] [.int t0] SH RHO u := by
  unfold FX12_is_146_5007_b60 at h
  refine w_istore_n (lv' := [(2, .int t0), (0, .ref 146), (1, .ref 5007), (3, .int l3)]) 60 hX rfl dX12_is_60 (by decide) rfl ?_
  refine w_iinc (lv' := [(3, .int (l3 + 1)), (2, .int t0), (0, .ref 146), (1, .ref 5007)]) 61 3 hX dX12_is_61 rfl (inc_1 _) (by decide) rfl ?_
  refine w_goto (tgt := 24) 64 hX (by decide) dX12_is_64 ?_
  exact w_sub [2, 3, 1, 0] rfl (hk24 t0 (l3 + 1) h)
def FX12_is_146_5007_b24 (k24 : Int32 → Int32 → Mem → Option Int32) (l2 l3 : Int32) (u : Mem) : Option Int32 :=
  (S_len 7).bind fun x1 => (if x1 ≤ l3 then (FX12_is_146_5007_b67 l2 u) else ((if l2 = 0 then (FX12_is_146_5007_b67 l2 u) else ((rdA u 154 400 ((u 146 19) + l3)).bind fun x4 => (S_chr 7 l3).bind fun x5 => (if x4 = x5 then (FX12_is_146_5007_b60 k24 l3 1 u) else (FX12_is_146_5007_b60 k24 l3 0 u))))))
theorem bX12_is_146_5007_24 {G : Gt} {X : Xt} {v : Int32} {u : Mem} (hX : CxOk G X cX12_is 4 RX12 (some (.int v), SH, RHO, u) 7) (hR : CxRet G X (some .boolean) (some (.int v), SH, RHO, u)) {k24 : Int32 → Int32 → Mem → Option Int32} (hk24 : ∀ (l2 l3 : Int32), k24 l2 l3 u = some v → WM G X 24 [(0, .ref 146), (1, .ref 5007), (2, .int l2), (3, .int l3)] [] SH RHO u) (l2 l3 : Int32) (h : FX12_is_146_5007_b24 k24 l2 l3 u = some v) : WM G X 24 [(0, .ref 146), (1, .ref 5007), (2, .int l2), (3, .int l3)] [] SH RHO u := by
  unfold FX12_is_146_5007_b24 at h
  refine w_iload_n 3 24 hX rfl rfl dX12_is_24 ?_
  refine w_aload_n 1 25 hX rfl rfl dX12_is_25 ?_
  obtain ⟨x1, gx1, h⟩ := o_bind h
  refine w_S_len (i := 7) (st := [.int l3]) 26 hX ml_X12_89 gx1 (by decide) (by decide) (Nat.le_of_ble_eq_true rfl) dX12_is_26 ?_
  refine w_icmp_ge (tgt := 67) 29 hX dX12_is_29 (by decide) (fun c2 => ?_) (fun c2 => ?_)
  · have h := it h c2
    exact w_sub [2] rfl (bX12_is_146_5007_67 hX hR l2 h)
  · have h := ie h c2
    refine w_iload_n 2 32 hX rfl rfl dX12_is_32 ?_
    refine w_if_eq (tgt := 67) 33 hX dX12_is_33 (by decide) (fun c3 => ?_) (fun c3 => ?_)
    · have h := it h c3
      exact w_sub [2] rfl (bX12_is_146_5007_67 hX hR l2 h)
    · have h := ie h c3
      refine w_aload_n 0 36 hX rfl rfl dX12_is_36 ?_
      refine w_getR 37 hX CI_12 s_146 rfl r_146_9 fl_X12_31 rfl dX12_is_37 ?_
      refine w_aload_n 0 40 hX rfl rfl dX12_is_40 ?_
      refine w_getI (j := 19) 41 hX CI_12 s_146 rfl fl_X12_86 rfl dX12_is_41 ?_
      refine w_iload_n 3 44 hX rfl rfl dX12_is_44 ?_
      refine w_iadd 45 hX dX12_is_45 ?_
      obtain ⟨x4, gx4, h⟩ := o_bind h
      refine w_iald 46 hX s_154 gx4 dX12_is_46 ?_
      refine w_aload_n 1 47 hX rfl rfl dX12_is_47 ?_
      refine w_iload_n 3 48 hX rfl rfl dX12_is_48 ?_
      obtain ⟨x5, gx5, h⟩ := o_bind h
      refine w_S_chr (i := 7) (st := [.int x4]) 49 hX ml_X12_95 gx5 (by decide) (by decide) (Nat.le_of_ble_eq_true rfl) dX12_is_49 ?_
      refine w_icmp_ne (tgt := 59) 52 hX dX12_is_52 (by decide) (fun c6 => ?_) (fun c6 => ?_)
      · have h := ie h c6
        refine w_iconst 0 59 hX ic_0 dX12_is_59 ?_
        exact w_sub [0, 1, 3] rfl (bX12_is_146_5007_60 hX hR hk24 l3 0 h)
      · have h := it h c6
        refine w_iconst 1 55 hX ic_1 dX12_is_55 ?_
        refine w_goto (tgt := 60) 56 hX (by decide) dX12_is_56 ?_
        exact w_sub [0, 1, 3] rfl (bX12_is_146_5007_60 hX hR hk24 l3 1 h)
def FX12_is_146_5007_L24 : Nat → Int32 → Int32 → Mem → Option Int32
  | 0, _, _, _ => none
  | n + 1, l2, l3, u => FX12_is_146_5007_b24 (FX12_is_146_5007_L24 n) l2 l3 u
theorem lX12_is_146_5007_24 {G : Gt} {X : Xt} {v : Int32} {u : Mem} (hX : CxOk G X cX12_is 4 RX12 (some (.int v), SH, RHO, u) 7) (hR : CxRet G X (some .boolean) (some (.int v), SH, RHO, u)) : ∀ (n : Nat) (l2 l3 : Int32), FX12_is_146_5007_L24 n l2 l3 u = some v → WM G X 24 [(0, .ref 146), (1, .ref 5007), (2, .int l2), (3, .int l3)] [] SH RHO u := by
  intro n
  induction n with
  | zero =>
    intro l2 l3 h
    exact nn_ h
  | succ n ih =>
    intro l2 l3 h
    exact bX12_is_146_5007_24 hX hR ih l2 l3 h
def FX12_is_146_5007_b21 (t0 : Int32) (u : Mem) : Option Int32 :=
  FX12_is_146_5007_L24 FU t0 0 u
theorem bX12_is_146_5007_21 {G : Gt} {X : Xt} {v : Int32} {u : Mem} (hX : CxOk G X cX12_is 4 RX12 (some (.int v), SH, RHO, u) 7) (hR : CxRet G X (some .boolean) (some (.int v), SH, RHO, u)) (t0 : Int32) (h : FX12_is_146_5007_b21 t0 u = some v) : WM G X 21 [(0, .ref 146), (1, .ref 5007)] [.int t0] SH RHO u := by
  unfold FX12_is_146_5007_b21 at h
  refine w_istore_n (lv' := [(2, .int t0), (0, .ref 146), (1, .ref 5007)]) 21 hX rfl dX12_is_21 (by decide) rfl ?_
  refine w_iconst 0 22 hX ic_0 dX12_is_22 ?_
  refine w_istore_n (lv' := [(3, .int 0), (2, .int t0), (0, .ref 146), (1, .ref 5007)]) 23 hX rfl dX12_is_23 (by decide) rfl ?_
  exact w_sub [2, 3, 1, 0] rfl (lX12_is_146_5007_24 hX hR FU t0 0 h)
def FX12_is_146_5007 (u : Mem) : Option Int32 :=
  (S_len 7).bind fun x1 => (if ((u 146 17) - (u 146 19)) = x1 then (FX12_is_146_5007_b21 1 u) else (FX12_is_146_5007_b21 0 u))
theorem CX12_is_146_5007 {G : Gt} (u : Mem) {v : Int32} (h : FX12_is_146_5007 u = some v) : CT G yX12_is cX12_is 4 (some .boolean) 7 [.ref 146, .ref 5007] SH RHO u (some (.int v), SH, RHO, u) :=
  ct_of (by decide) rfl (Nat.le_of_ble_eq_true rfl) (Nat.le_refl _) (Nat.le_refl _) (fun X hX hR => by
  unfold FX12_is_146_5007 at h
  refine w_aload_n 0 0 hX rfl rfl dX12_is_0 ?_
  refine w_getI (j := 17) 1 hX CI_12 s_146 rfl fl_X12_83 rfl dX12_is_1 ?_
  refine w_aload_n 0 4 hX rfl rfl dX12_is_4 ?_
  refine w_getI (j := 19) 5 hX CI_12 s_146 rfl fl_X12_86 rfl dX12_is_5 ?_
  refine w_isub 8 hX dX12_is_8 ?_
  refine w_aload_n 1 9 hX rfl rfl dX12_is_9 ?_
  obtain ⟨x1, gx1, h⟩ := o_bind h
  refine w_S_len (i := 7) (st := [.int ((u 146 17) - (u 146 19))]) 10 hX ml_X12_89 gx1 (by decide) (by decide) (Nat.le_of_ble_eq_true rfl) dX12_is_10 ?_
  refine w_icmp_ne (tgt := 20) 13 hX dX12_is_13 (by decide) (fun c2 => ?_) (fun c2 => ?_)
  · have h := ie h c2
    refine w_iconst 0 20 hX ic_0 dX12_is_20 ?_
    exact bX12_is_146_5007_21 hX hR 0 h
  · have h := it h c2
    refine w_iconst 1 16 hX ic_1 dX12_is_16 ?_
    refine w_goto (tgt := 21) 17 hX (by decide) dX12_is_17 ?_
    exact bX12_is_146_5007_21 hX hR 1 h)
def FX12_is_146_5008_b67 (l2 : Int32) (u : Mem) : Option Int32 :=
  (bchk l2).bind fun x1 => some x1
theorem bX12_is_146_5008_67 {G : Gt} {X : Xt} {v : Int32} {u : Mem} (hX : CxOk G X cX12_is 4 RX12 (some (.int v), SH, RHO, u) 7) (hR : CxRet G X (some .boolean) (some (.int v), SH, RHO, u)) (l2 : Int32) (h : FX12_is_146_5008_b67 l2 u = some v) : WM G X 67 [(2, .int l2)] [] SH RHO u := by
  unfold FX12_is_146_5008_b67 at h
  refine w_iload_n 0 67 hX rfl rfl dX12_is_67 ?_
  obtain ⟨x1, gx1, h⟩ := o_bind h
  obtain ⟨jx1, nx1, mx1⟩ := bchk_ok gx1
  rw [jx1]
  exact w_zret 68 hX hR nx1 dX12_is_68 (by cases h; rfl)
def FX12_is_146_5008_b60 (k24 : Int32 → Int32 → Mem → Option Int32) (l3 t0 : Int32) (u : Mem) : Option Int32 :=
  k24 t0 (l3 + 1) u
theorem bX12_is_146_5008_60 {G : Gt} {X : Xt} {v : Int32} {u : Mem} (hX : CxOk G X cX12_is 4 RX12 (some (.int v), SH, RHO, u) 7) (hR : CxRet G X (some .boolean) (some (.int v), SH, RHO, u)) {k24 : Int32 → Int32 → Mem → Option Int32} (hk24 : ∀ (l2 l3 : Int32), k24 l2 l3 u = some v → WM G X 24 [(0, .ref 146), (1, .ref 5008), (2, .int l2), (3, .int l3)] [] SH RHO u) (l3 t0 : Int32) (h : FX12_is_146_5008_b60 k24 l3 t0 u = some v) : WM G X 60 [(0, .ref 146), (1, .ref 5008), (3, .int l3)] [.int t0] SH RHO u := by
  unfold FX12_is_146_5008_b60 at h
  refine w_istore_n (lv' := [(2, .int t0), (0, .ref 146), (1, .ref 5008), (3, .int l3)]) 60 hX rfl dX12_is_60 (by decide) rfl ?_
  refine w_iinc (lv' := [(3, .int (l3 + 1)), (2, .int t0), (0, .ref 146), (1, .ref 5008)]) 61 3 hX dX12_is_61 rfl (inc_1 _) (by decide) rfl ?_
  refine w_goto (tgt := 24) 64 hX (by decide) dX12_is_64 ?_
  exact w_sub [2, 3, 1, 0] rfl (hk24 t0 (l3 + 1) h)
def FX12_is_146_5008_b24 (k24 : Int32 → Int32 → Mem → Option Int32) (l2 l3 : Int32) (u : Mem) : Option Int32 :=
  (S_len 8).bind fun x1 => (if x1 ≤ l3 then (FX12_is_146_5008_b67 l2 u) else ((if l2 = 0 then (FX12_is_146_5008_b67 l2 u) else ((rdA u 154 400 ((u 146 19) + l3)).bind fun x4 => (S_chr 8 l3).bind fun x5 => (if x4 = x5 then (FX12_is_146_5008_b60 k24 l3 1 u) else (FX12_is_146_5008_b60 k24 l3 0 u))))))
theorem bX12_is_146_5008_24 {G : Gt} {X : Xt} {v : Int32} {u : Mem} (hX : CxOk G X cX12_is 4 RX12 (some (.int v), SH, RHO, u) 7) (hR : CxRet G X (some .boolean) (some (.int v), SH, RHO, u)) {k24 : Int32 → Int32 → Mem → Option Int32} (hk24 : ∀ (l2 l3 : Int32), k24 l2 l3 u = some v → WM G X 24 [(0, .ref 146), (1, .ref 5008), (2, .int l2), (3, .int l3)] [] SH RHO u) (l2 l3 : Int32) (h : FX12_is_146_5008_b24 k24 l2 l3 u = some v) : WM G X 24 [(0, .ref 146), (1, .ref 5008), (2, .int l2), (3, .int l3)] [] SH RHO u := by
  unfold FX12_is_146_5008_b24 at h
  refine w_iload_n 3 24 hX rfl rfl dX12_is_24 ?_
  refine w_aload_n 1 25 hX rfl rfl dX12_is_25 ?_
  obtain ⟨x1, gx1, h⟩ := o_bind h
  refine w_S_len (i := 8) (st := [.int l3]) 26 hX ml_X12_89 gx1 (by decide) (by decide) (Nat.le_of_ble_eq_true rfl) dX12_is_26 ?_
  refine w_icmp_ge (tgt := 67) 29 hX dX12_is_29 (by decide) (fun c2 => ?_) (fun c2 => ?_)
  · have h := it h c2
    exact w_sub [2] rfl (bX12_is_146_5008_67 hX hR l2 h)
  · have h := ie h c2
    refine w_iload_n 2 32 hX rfl rfl dX12_is_32 ?_
    refine w_if_eq (tgt := 67) 33 hX dX12_is_33 (by decide) (fun c3 => ?_) (fun c3 => ?_)
    · have h := it h c3
      exact w_sub [2] rfl (bX12_is_146_5008_67 hX hR l2 h)
    · have h := ie h c3
      refine w_aload_n 0 36 hX rfl rfl dX12_is_36 ?_
      refine w_getR 37 hX CI_12 s_146 rfl r_146_9 fl_X12_31 rfl dX12_is_37 ?_
      refine w_aload_n 0 40 hX rfl rfl dX12_is_40 ?_
      refine w_getI (j := 19) 41 hX CI_12 s_146 rfl fl_X12_86 rfl dX12_is_41 ?_
      refine w_iload_n 3 44 hX rfl rfl dX12_is_44 ?_
      refine w_iadd 45 hX dX12_is_45 ?_
      obtain ⟨x4, gx4, h⟩ := o_bind h
      refine w_iald 46 hX s_154 gx4 dX12_is_46 ?_
      refine w_aload_n 1 47 hX rfl rfl dX12_is_47 ?_
      refine w_iload_n 3 48 hX rfl rfl dX12_is_48 ?_
      obtain ⟨x5, gx5, h⟩ := o_bind h
      refine w_S_chr (i := 8) (st := [.int x4]) 49 hX ml_X12_95 gx5 (by decide) (by decide) (Nat.le_of_ble_eq_true rfl) dX12_is_49 ?_
      refine w_icmp_ne (tgt := 59) 52 hX dX12_is_52 (by decide) (fun c6 => ?_) (fun c6 => ?_)
      · have h := ie h c6
        refine w_iconst 0 59 hX ic_0 dX12_is_59 ?_
        exact w_sub [0, 1, 3] rfl (bX12_is_146_5008_60 hX hR hk24 l3 0 h)
      · have h := it h c6
        refine w_iconst 1 55 hX ic_1 dX12_is_55 ?_
        refine w_goto (tgt := 60) 56 hX (by decide) dX12_is_56 ?_
        exact w_sub [0, 1, 3] rfl (bX12_is_146_5008_60 hX hR hk24 l3 1 h)
def FX12_is_146_5008_L24 : Nat → Int32 → Int32 → Mem → Option Int32
  | 0, _, _, _ => none
  | n + 1, l2, l3, u => FX12_is_146_5008_b24 (FX12_is_146_5008_L24 n) l2 l3 u
theorem lX12_is_146_5008_24 {G : Gt} {X : Xt} {v : Int32} {u : Mem} (hX : CxOk G X cX12_is 4 RX12 (some (.int v), SH, RHO, u) 7) (hR : CxRet G X (some .boolean) (some (.int v), SH, RHO, u)) : ∀ (n : Nat) (l2 l3 : Int32), FX12_is_146_5008_L24 n l2 l3 u = some v → WM G X 24 [(0, .ref 146), (1, .ref 5008), (2, .int l2), (3, .int l3)] [] SH RHO u := by
  intro n
  induction n with
  | zero =>
    intro l2 l3 h
    exact nn_ h
  | succ n ih =>
    intro l2 l3 h
    exact bX12_is_146_5008_24 hX hR ih l2 l3 h
def FX12_is_146_5008_b21 (t0 : Int32) (u : Mem) : Option Int32 :=
  FX12_is_146_5008_L24 FU t0 0 u
theorem bX12_is_146_5008_21 {G : Gt} {X : Xt} {v : Int32} {u : Mem} (hX : CxOk G X cX12_is 4 RX12 (some (.int v), SH, RHO, u) 7) (hR : CxRet G X (some .boolean) (some (.int v), SH, RHO, u)) (t0 : Int32) (h : FX12_is_146_5008_b21 t0 u = some v) : WM G X 21 [(0, .ref 146), (1, .ref 5008)] [.int t0] SH RHO u := by
  unfold FX12_is_146_5008_b21 at h
  refine w_istore_n (lv' := [(2, .int t0), (0, .ref 146), (1, .ref 5008)]) 21 hX rfl dX12_is_21 (by decide) rfl ?_
  refine w_iconst 0 22 hX ic_0 dX12_is_22 ?_
  refine w_istore_n (lv' := [(3, .int 0), (2, .int t0), (0, .ref 146), (1, .ref 5008)]) 23 hX rfl dX12_is_23 (by decide) rfl ?_
  exact w_sub [2, 3, 1, 0] rfl (lX12_is_146_5008_24 hX hR FU t0 0 h)
def FX12_is_146_5008 (u : Mem) : Option Int32 :=
  (S_len 8).bind fun x1 => (if ((u 146 17) - (u 146 19)) = x1 then (FX12_is_146_5008_b21 1 u) else (FX12_is_146_5008_b21 0 u))
theorem CX12_is_146_5008 {G : Gt} (u : Mem) {v : Int32} (h : FX12_is_146_5008 u = some v) : CT G yX12_is cX12_is 4 (some .boolean) 7 [.ref 146, .ref 5008] SH RHO u (some (.int v), SH, RHO, u) :=
  ct_of (by decide) rfl (Nat.le_of_ble_eq_true rfl) (Nat.le_refl _) (Nat.le_refl _) (fun X hX hR => by
  unfold FX12_is_146_5008 at h
  refine w_aload_n 0 0 hX rfl rfl dX12_is_0 ?_
  refine w_getI (j := 17) 1 hX CI_12 s_146 rfl fl_X12_83 rfl dX12_is_1 ?_
  refine w_aload_n 0 4 hX rfl rfl dX12_is_4 ?_
  refine w_getI (j := 19) 5 hX CI_12 s_146 rfl fl_X12_86 rfl dX12_is_5 ?_
  refine w_isub 8 hX dX12_is_8 ?_
  refine w_aload_n 1 9 hX rfl rfl dX12_is_9 ?_
  obtain ⟨x1, gx1, h⟩ := o_bind h
  refine w_S_len (i := 8) (st := [.int ((u 146 17) - (u 146 19))]) 10 hX ml_X12_89 gx1 (by decide) (by decide) (Nat.le_of_ble_eq_true rfl) dX12_is_10 ?_
  refine w_icmp_ne (tgt := 20) 13 hX dX12_is_13 (by decide) (fun c2 => ?_) (fun c2 => ?_)
  · have h := ie h c2
    refine w_iconst 0 20 hX ic_0 dX12_is_20 ?_
    exact bX12_is_146_5008_21 hX hR 0 h
  · have h := it h c2
    refine w_iconst 1 16 hX ic_1 dX12_is_16 ?_
    refine w_goto (tgt := 21) 17 hX (by decide) dX12_is_17 ?_
    exact bX12_is_146_5008_21 hX hR 1 h)
def FX12_is_146_5009_b67 (l2 : Int32) (u : Mem) : Option Int32 :=
  (bchk l2).bind fun x1 => some x1
theorem bX12_is_146_5009_67 {G : Gt} {X : Xt} {v : Int32} {u : Mem} (hX : CxOk G X cX12_is 4 RX12 (some (.int v), SH, RHO, u) 7) (hR : CxRet G X (some .boolean) (some (.int v), SH, RHO, u)) (l2 : Int32) (h : FX12_is_146_5009_b67 l2 u = some v) : WM G X 67 [(2, .int l2)] [] SH RHO u := by
  unfold FX12_is_146_5009_b67 at h
  refine w_iload_n 0 67 hX rfl rfl dX12_is_67 ?_
  obtain ⟨x1, gx1, h⟩ := o_bind h
  obtain ⟨jx1, nx1, mx1⟩ := bchk_ok gx1
  rw [jx1]
  exact w_zret 68 hX hR nx1 dX12_is_68 (by cases h; rfl)
def FX12_is_146_5009_b60 (k24 : Int32 → Int32 → Mem → Option Int32) (l3 t0 : Int32) (u : Mem) : Option Int32 :=
  k24 t0 (l3 + 1) u
theorem bX12_is_146_5009_60 {G : Gt} {X : Xt} {v : Int32} {u : Mem} (hX : CxOk G X cX12_is 4 RX12 (some (.int v), SH, RHO, u) 7) (hR : CxRet G X (some .boolean) (some (.int v), SH, RHO, u)) {k24 : Int32 → Int32 → Mem → Option Int32} (hk24 : ∀ (l2 l3 : Int32), k24 l2 l3 u = some v → WM G X 24 [(0, .ref 146), (1, .ref 5009), (2, .int l2), (3, .int l3)] [] SH RHO u) (l3 t0 : Int32) (h : FX12_is_146_5009_b60 k24 l3 t0 u = some v) : WM G X 60 [(0, .ref 146), (1, .ref 5009), (3, .int l3)] [.int t0] SH RHO u := by
  unfold FX12_is_146_5009_b60 at h
  refine w_istore_n (lv' := [(2, .int t0), (0, .ref 146), (1, .ref 5009), (3, .int l3)]) 60 hX rfl dX12_is_60 (by decide) rfl ?_
  refine w_iinc (lv' := [(3, .int (l3 + 1)), (2, .int t0), (0, .ref 146), (1, .ref 5009)]) 61 3 hX dX12_is_61 rfl (inc_1 _) (by decide) rfl ?_
  refine w_goto (tgt := 24) 64 hX (by decide) dX12_is_64 ?_
  exact w_sub [2, 3, 1, 0] rfl (hk24 t0 (l3 + 1) h)
def FX12_is_146_5009_b24 (k24 : Int32 → Int32 → Mem → Option Int32) (l2 l3 : Int32) (u : Mem) : Option Int32 :=
  (S_len 9).bind fun x1 => (if x1 ≤ l3 then (FX12_is_146_5009_b67 l2 u) else ((if l2 = 0 then (FX12_is_146_5009_b67 l2 u) else ((rdA u 154 400 ((u 146 19) + l3)).bind fun x4 => (S_chr 9 l3).bind fun x5 => (if x4 = x5 then (FX12_is_146_5009_b60 k24 l3 1 u) else (FX12_is_146_5009_b60 k24 l3 0 u))))))
theorem bX12_is_146_5009_24 {G : Gt} {X : Xt} {v : Int32} {u : Mem} (hX : CxOk G X cX12_is 4 RX12 (some (.int v), SH, RHO, u) 7) (hR : CxRet G X (some .boolean) (some (.int v), SH, RHO, u)) {k24 : Int32 → Int32 → Mem → Option Int32} (hk24 : ∀ (l2 l3 : Int32), k24 l2 l3 u = some v → WM G X 24 [(0, .ref 146), (1, .ref 5009), (2, .int l2), (3, .int l3)] [] SH RHO u) (l2 l3 : Int32) (h : FX12_is_146_5009_b24 k24 l2 l3 u = some v) : WM G X 24 [(0, .ref 146), (1, .ref 5009), (2, .int l2), (3, .int l3)] [] SH RHO u := by
  unfold FX12_is_146_5009_b24 at h
  refine w_iload_n 3 24 hX rfl rfl dX12_is_24 ?_
  refine w_aload_n 1 25 hX rfl rfl dX12_is_25 ?_
  obtain ⟨x1, gx1, h⟩ := o_bind h
  refine w_S_len (i := 9) (st := [.int l3]) 26 hX ml_X12_89 gx1 (by decide) (by decide) (Nat.le_of_ble_eq_true rfl) dX12_is_26 ?_
  refine w_icmp_ge (tgt := 67) 29 hX dX12_is_29 (by decide) (fun c2 => ?_) (fun c2 => ?_)
  · have h := it h c2
    exact w_sub [2] rfl (bX12_is_146_5009_67 hX hR l2 h)
  · have h := ie h c2
    refine w_iload_n 2 32 hX rfl rfl dX12_is_32 ?_
    refine w_if_eq (tgt := 67) 33 hX dX12_is_33 (by decide) (fun c3 => ?_) (fun c3 => ?_)
    · have h := it h c3
      exact w_sub [2] rfl (bX12_is_146_5009_67 hX hR l2 h)
    · have h := ie h c3
      refine w_aload_n 0 36 hX rfl rfl dX12_is_36 ?_
      refine w_getR 37 hX CI_12 s_146 rfl r_146_9 fl_X12_31 rfl dX12_is_37 ?_
      refine w_aload_n 0 40 hX rfl rfl dX12_is_40 ?_
      refine w_getI (j := 19) 41 hX CI_12 s_146 rfl fl_X12_86 rfl dX12_is_41 ?_
      refine w_iload_n 3 44 hX rfl rfl dX12_is_44 ?_
      refine w_iadd 45 hX dX12_is_45 ?_
      obtain ⟨x4, gx4, h⟩ := o_bind h
      refine w_iald 46 hX s_154 gx4 dX12_is_46 ?_
      refine w_aload_n 1 47 hX rfl rfl dX12_is_47 ?_
      refine w_iload_n 3 48 hX rfl rfl dX12_is_48 ?_
      obtain ⟨x5, gx5, h⟩ := o_bind h
      refine w_S_chr (i := 9) (st := [.int x4]) 49 hX ml_X12_95 gx5 (by decide) (by decide) (Nat.le_of_ble_eq_true rfl) dX12_is_49 ?_
      refine w_icmp_ne (tgt := 59) 52 hX dX12_is_52 (by decide) (fun c6 => ?_) (fun c6 => ?_)
      · have h := ie h c6
        refine w_iconst 0 59 hX ic_0 dX12_is_59 ?_
        exact w_sub [0, 1, 3] rfl (bX12_is_146_5009_60 hX hR hk24 l3 0 h)
      · have h := it h c6
        refine w_iconst 1 55 hX ic_1 dX12_is_55 ?_
        refine w_goto (tgt := 60) 56 hX (by decide) dX12_is_56 ?_
        exact w_sub [0, 1, 3] rfl (bX12_is_146_5009_60 hX hR hk24 l3 1 h)
def FX12_is_146_5009_L24 : Nat → Int32 → Int32 → Mem → Option Int32
  | 0, _, _, _ => none
  | n + 1, l2, l3, u => FX12_is_146_5009_b24 (FX12_is_146_5009_L24 n) l2 l3 u
theorem lX12_is_146_5009_24 {G : Gt} {X : Xt} {v : Int32} {u : Mem} (hX : CxOk G X cX12_is 4 RX12 (some (.int v), SH, RHO, u) 7) (hR : CxRet G X (some .boolean) (some (.int v), SH, RHO, u)) : ∀ (n : Nat) (l2 l3 : Int32), FX12_is_146_5009_L24 n l2 l3 u = some v → WM G X 24 [(0, .ref 146), (1, .ref 5009), (2, .int l2), (3, .int l3)] [] SH RHO u := by
  intro n
  induction n with
  | zero =>
    intro l2 l3 h
    exact nn_ h
  | succ n ih =>
    intro l2 l3 h
    exact bX12_is_146_5009_24 hX hR ih l2 l3 h
def FX12_is_146_5009_b21 (t0 : Int32) (u : Mem) : Option Int32 :=
  FX12_is_146_5009_L24 FU t0 0 u
theorem bX12_is_146_5009_21 {G : Gt} {X : Xt} {v : Int32} {u : Mem} (hX : CxOk G X cX12_is 4 RX12 (some (.int v), SH, RHO, u) 7) (hR : CxRet G X (some .boolean) (some (.int v), SH, RHO, u)) (t0 : Int32) (h : FX12_is_146_5009_b21 t0 u = some v) : WM G X 21 [(0, .ref 146), (1, .ref 5009)] [.int t0] SH RHO u := by
  unfold FX12_is_146_5009_b21 at h
  refine w_istore_n (lv' := [(2, .int t0), (0, .ref 146), (1, .ref 5009)]) 21 hX rfl dX12_is_21 (by decide) rfl ?_
  refine w_iconst 0 22 hX ic_0 dX12_is_22 ?_
  refine w_istore_n (lv' := [(3, .int 0), (2, .int t0), (0, .ref 146), (1, .ref 5009)]) 23 hX rfl dX12_is_23 (by decide) rfl ?_
  exact w_sub [2, 3, 1, 0] rfl (lX12_is_146_5009_24 hX hR FU t0 0 h)
def FX12_is_146_5009 (u : Mem) : Option Int32 :=
  (S_len 9).bind fun x1 => (if ((u 146 17) - (u 146 19)) = x1 then (FX12_is_146_5009_b21 1 u) else (FX12_is_146_5009_b21 0 u))
theorem CX12_is_146_5009 {G : Gt} (u : Mem) {v : Int32} (h : FX12_is_146_5009 u = some v) : CT G yX12_is cX12_is 4 (some .boolean) 7 [.ref 146, .ref 5009] SH RHO u (some (.int v), SH, RHO, u) :=
  ct_of (by decide) rfl (Nat.le_of_ble_eq_true rfl) (Nat.le_refl _) (Nat.le_refl _) (fun X hX hR => by
  unfold FX12_is_146_5009 at h
  refine w_aload_n 0 0 hX rfl rfl dX12_is_0 ?_
  refine w_getI (j := 17) 1 hX CI_12 s_146 rfl fl_X12_83 rfl dX12_is_1 ?_
  refine w_aload_n 0 4 hX rfl rfl dX12_is_4 ?_
  refine w_getI (j := 19) 5 hX CI_12 s_146 rfl fl_X12_86 rfl dX12_is_5 ?_
  refine w_isub 8 hX dX12_is_8 ?_
  refine w_aload_n 1 9 hX rfl rfl dX12_is_9 ?_
  obtain ⟨x1, gx1, h⟩ := o_bind h
  refine w_S_len (i := 9) (st := [.int ((u 146 17) - (u 146 19))]) 10 hX ml_X12_89 gx1 (by decide) (by decide) (Nat.le_of_ble_eq_true rfl) dX12_is_10 ?_
  refine w_icmp_ne (tgt := 20) 13 hX dX12_is_13 (by decide) (fun c2 => ?_) (fun c2 => ?_)
  · have h := ie h c2
    refine w_iconst 0 20 hX ic_0 dX12_is_20 ?_
    exact bX12_is_146_5009_21 hX hR 0 h
  · have h := it h c2
    refine w_iconst 1 16 hX ic_1 dX12_is_16 ?_
    refine w_goto (tgt := 21) 17 hX (by decide) dX12_is_17 ?_
    exact bX12_is_146_5009_21 hX hR 1 h)
def FX12_is_146_5010_b67 (l2 : Int32) (u : Mem) : Option Int32 :=
  (bchk l2).bind fun x1 => some x1
theorem bX12_is_146_5010_67 {G : Gt} {X : Xt} {v : Int32} {u : Mem} (hX : CxOk G X cX12_is 4 RX12 (some (.int v), SH, RHO, u) 7) (hR : CxRet G X (some .boolean) (some (.int v), SH, RHO, u)) (l2 : Int32) (h : FX12_is_146_5010_b67 l2 u = some v) : WM G X 67 [(2, .int l2)] [] SH RHO u := by
  unfold FX12_is_146_5010_b67 at h
  refine w_iload_n 0 67 hX rfl rfl dX12_is_67 ?_
  obtain ⟨x1, gx1, h⟩ := o_bind h
  obtain ⟨jx1, nx1, mx1⟩ := bchk_ok gx1
  rw [jx1]
  exact w_zret 68 hX hR nx1 dX12_is_68 (by cases h; rfl)
def FX12_is_146_5010_b60 (k24 : Int32 → Int32 → Mem → Option Int32) (l3 t0 : Int32) (u : Mem) : Option Int32 :=
  k24 t0 (l3 + 1) u
theorem bX12_is_146_5010_60 {G : Gt} {X : Xt} {v : Int32} {u : Mem} (hX : CxOk G X cX12_is 4 RX12 (some (.int v), SH, RHO, u) 7) (hR : CxRet G X (some .boolean) (some (.int v), SH, RHO, u)) {k24 : Int32 → Int32 → Mem → Option Int32} (hk24 : ∀ (l2 l3 : Int32), k24 l2 l3 u = some v → WM G X 24 [(0, .ref 146), (1, .ref 5010), (2, .int l2), (3, .int l3)] [] SH RHO u) (l3 t0 : Int32) (h : FX12_is_146_5010_b60 k24 l3 t0 u = some v) : WM G X 60 [(0, .ref 146), (1, .ref 5010), (3, .int l3)] [.int t0] SH RHO u := by
  unfold FX12_is_146_5010_b60 at h
  refine w_istore_n (lv' := [(2, .int t0), (0, .ref 146), (1, .ref 5010), (3, .int l3)]) 60 hX rfl dX12_is_60 (by decide) rfl ?_
  refine w_iinc (lv' := [(3, .int (l3 + 1)), (2, .int t0), (0, .ref 146), (1, .ref 5010)]) 61 3 hX dX12_is_61 rfl (inc_1 _) (by decide) rfl ?_
  refine w_goto (tgt := 24) 64 hX (by decide) dX12_is_64 ?_
  exact w_sub [2, 3, 1, 0] rfl (hk24 t0 (l3 + 1) h)
def FX12_is_146_5010_b24 (k24 : Int32 → Int32 → Mem → Option Int32) (l2 l3 : Int32) (u : Mem) : Option Int32 :=
  (S_len 10).bind fun x1 => (if x1 ≤ l3 then (FX12_is_146_5010_b67 l2 u) else ((if l2 = 0 then (FX12_is_146_5010_b67 l2 u) else ((rdA u 154 400 ((u 146 19) + l3)).bind fun x4 => (S_chr 10 l3).bind fun x5 => (if x4 = x5 then (FX12_is_146_5010_b60 k24 l3 1 u) else (FX12_is_146_5010_b60 k24 l3 0 u))))))
theorem bX12_is_146_5010_24 {G : Gt} {X : Xt} {v : Int32} {u : Mem} (hX : CxOk G X cX12_is 4 RX12 (some (.int v), SH, RHO, u) 7) (hR : CxRet G X (some .boolean) (some (.int v), SH, RHO, u)) {k24 : Int32 → Int32 → Mem → Option Int32} (hk24 : ∀ (l2 l3 : Int32), k24 l2 l3 u = some v → WM G X 24 [(0, .ref 146), (1, .ref 5010), (2, .int l2), (3, .int l3)] [] SH RHO u) (l2 l3 : Int32) (h : FX12_is_146_5010_b24 k24 l2 l3 u = some v) : WM G X 24 [(0, .ref 146), (1, .ref 5010), (2, .int l2), (3, .int l3)] [] SH RHO u := by
  unfold FX12_is_146_5010_b24 at h
  refine w_iload_n 3 24 hX rfl rfl dX12_is_24 ?_
  refine w_aload_n 1 25 hX rfl rfl dX12_is_25 ?_
  obtain ⟨x1, gx1, h⟩ := o_bind h
  refine w_S_len (i := 10) (st := [.int l3]) 26 hX ml_X12_89 gx1 (by decide) (by decide) (Nat.le_of_ble_eq_true rfl) dX12_is_26 ?_
  refine w_icmp_ge (tgt := 67) 29 hX dX12_is_29 (by decide) (fun c2 => ?_) (fun c2 => ?_)
  · have h := it h c2
    exact w_sub [2] rfl (bX12_is_146_5010_67 hX hR l2 h)
  · have h := ie h c2
    refine w_iload_n 2 32 hX rfl rfl dX12_is_32 ?_
    refine w_if_eq (tgt := 67) 33 hX dX12_is_33 (by decide) (fun c3 => ?_) (fun c3 => ?_)
    · have h := it h c3
      exact w_sub [2] rfl (bX12_is_146_5010_67 hX hR l2 h)
    · have h := ie h c3
      refine w_aload_n 0 36 hX rfl rfl dX12_is_36 ?_
      refine w_getR 37 hX CI_12 s_146 rfl r_146_9 fl_X12_31 rfl dX12_is_37 ?_
      refine w_aload_n 0 40 hX rfl rfl dX12_is_40 ?_
      refine w_getI (j := 19) 41 hX CI_12 s_146 rfl fl_X12_86 rfl dX12_is_41 ?_
      refine w_iload_n 3 44 hX rfl rfl dX12_is_44 ?_
      refine w_iadd 45 hX dX12_is_45 ?_
      obtain ⟨x4, gx4, h⟩ := o_bind h
      refine w_iald 46 hX s_154 gx4 dX12_is_46 ?_
      refine w_aload_n 1 47 hX rfl rfl dX12_is_47 ?_
      refine w_iload_n 3 48 hX rfl rfl dX12_is_48 ?_
      obtain ⟨x5, gx5, h⟩ := o_bind h
      refine w_S_chr (i := 10) (st := [.int x4]) 49 hX ml_X12_95 gx5 (by decide) (by decide) (Nat.le_of_ble_eq_true rfl) dX12_is_49 ?_
      refine w_icmp_ne (tgt := 59) 52 hX dX12_is_52 (by decide) (fun c6 => ?_) (fun c6 => ?_)
      · have h := ie h c6
        refine w_iconst 0 59 hX ic_0 dX12_is_59 ?_
        exact w_sub [0, 1, 3] rfl (bX12_is_146_5010_60 hX hR hk24 l3 0 h)
      · have h := it h c6
        refine w_iconst 1 55 hX ic_1 dX12_is_55 ?_
        refine w_goto (tgt := 60) 56 hX (by decide) dX12_is_56 ?_
        exact w_sub [0, 1, 3] rfl (bX12_is_146_5010_60 hX hR hk24 l3 1 h)
def FX12_is_146_5010_L24 : Nat → Int32 → Int32 → Mem → Option Int32
  | 0, _, _, _ => none
  | n + 1, l2, l3, u => FX12_is_146_5010_b24 (FX12_is_146_5010_L24 n) l2 l3 u
theorem lX12_is_146_5010_24 {G : Gt} {X : Xt} {v : Int32} {u : Mem} (hX : CxOk G X cX12_is 4 RX12 (some (.int v), SH, RHO, u) 7) (hR : CxRet G X (some .boolean) (some (.int v), SH, RHO, u)) : ∀ (n : Nat) (l2 l3 : Int32), FX12_is_146_5010_L24 n l2 l3 u = some v → WM G X 24 [(0, .ref 146), (1, .ref 5010), (2, .int l2), (3, .int l3)] [] SH RHO u := by
  intro n
  induction n with
  | zero =>
    intro l2 l3 h
    exact nn_ h
  | succ n ih =>
    intro l2 l3 h
    exact bX12_is_146_5010_24 hX hR ih l2 l3 h
def FX12_is_146_5010_b21 (t0 : Int32) (u : Mem) : Option Int32 :=
  FX12_is_146_5010_L24 FU t0 0 u
theorem bX12_is_146_5010_21 {G : Gt} {X : Xt} {v : Int32} {u : Mem} (hX : CxOk G X cX12_is 4 RX12 (some (.int v), SH, RHO, u) 7) (hR : CxRet G X (some .boolean) (some (.int v), SH, RHO, u)) (t0 : Int32) (h : FX12_is_146_5010_b21 t0 u = some v) : WM G X 21 [(0, .ref 146), (1, .ref 5010)] [.int t0] SH RHO u := by
  unfold FX12_is_146_5010_b21 at h
  refine w_istore_n (lv' := [(2, .int t0), (0, .ref 146), (1, .ref 5010)]) 21 hX rfl dX12_is_21 (by decide) rfl ?_
  refine w_iconst 0 22 hX ic_0 dX12_is_22 ?_
  refine w_istore_n (lv' := [(3, .int 0), (2, .int t0), (0, .ref 146), (1, .ref 5010)]) 23 hX rfl dX12_is_23 (by decide) rfl ?_
  exact w_sub [2, 3, 1, 0] rfl (lX12_is_146_5010_24 hX hR FU t0 0 h)
def FX12_is_146_5010 (u : Mem) : Option Int32 :=
  (S_len 10).bind fun x1 => (if ((u 146 17) - (u 146 19)) = x1 then (FX12_is_146_5010_b21 1 u) else (FX12_is_146_5010_b21 0 u))
theorem CX12_is_146_5010 {G : Gt} (u : Mem) {v : Int32} (h : FX12_is_146_5010 u = some v) : CT G yX12_is cX12_is 4 (some .boolean) 7 [.ref 146, .ref 5010] SH RHO u (some (.int v), SH, RHO, u) :=
  ct_of (by decide) rfl (Nat.le_of_ble_eq_true rfl) (Nat.le_refl _) (Nat.le_refl _) (fun X hX hR => by
  unfold FX12_is_146_5010 at h
  refine w_aload_n 0 0 hX rfl rfl dX12_is_0 ?_
  refine w_getI (j := 17) 1 hX CI_12 s_146 rfl fl_X12_83 rfl dX12_is_1 ?_
  refine w_aload_n 0 4 hX rfl rfl dX12_is_4 ?_
  refine w_getI (j := 19) 5 hX CI_12 s_146 rfl fl_X12_86 rfl dX12_is_5 ?_
  refine w_isub 8 hX dX12_is_8 ?_
  refine w_aload_n 1 9 hX rfl rfl dX12_is_9 ?_
  obtain ⟨x1, gx1, h⟩ := o_bind h
  refine w_S_len (i := 10) (st := [.int ((u 146 17) - (u 146 19))]) 10 hX ml_X12_89 gx1 (by decide) (by decide) (Nat.le_of_ble_eq_true rfl) dX12_is_10 ?_
  refine w_icmp_ne (tgt := 20) 13 hX dX12_is_13 (by decide) (fun c2 => ?_) (fun c2 => ?_)
  · have h := ie h c2
    refine w_iconst 0 20 hX ic_0 dX12_is_20 ?_
    exact bX12_is_146_5010_21 hX hR 0 h
  · have h := it h c2
    refine w_iconst 1 16 hX ic_1 dX12_is_16 ?_
    refine w_goto (tgt := 21) 17 hX (by decide) dX12_is_17 ?_
    exact bX12_is_146_5010_21 hX hR 1 h)
def FX12_is_146_5011_b67 (l2 : Int32) (u : Mem) : Option Int32 :=
  (bchk l2).bind fun x1 => some x1
theorem bX12_is_146_5011_67 {G : Gt} {X : Xt} {v : Int32} {u : Mem} (hX : CxOk G X cX12_is 4 RX12 (some (.int v), SH, RHO, u) 7) (hR : CxRet G X (some .boolean) (some (.int v), SH, RHO, u)) (l2 : Int32) (h : FX12_is_146_5011_b67 l2 u = some v) : WM G X 67 [(2, .int l2)] [] SH RHO u := by
  unfold FX12_is_146_5011_b67 at h
  refine w_iload_n 0 67 hX rfl rfl dX12_is_67 ?_
  obtain ⟨x1, gx1, h⟩ := o_bind h
  obtain ⟨jx1, nx1, mx1⟩ := bchk_ok gx1
  rw [jx1]
  exact w_zret 68 hX hR nx1 dX12_is_68 (by cases h; rfl)
def FX12_is_146_5011_b60 (k24 : Int32 → Int32 → Mem → Option Int32) (l3 t0 : Int32) (u : Mem) : Option Int32 :=
  k24 t0 (l3 + 1) u
theorem bX12_is_146_5011_60 {G : Gt} {X : Xt} {v : Int32} {u : Mem} (hX : CxOk G X cX12_is 4 RX12 (some (.int v), SH, RHO, u) 7) (hR : CxRet G X (some .boolean) (some (.int v), SH, RHO, u)) {k24 : Int32 → Int32 → Mem → Option Int32} (hk24 : ∀ (l2 l3 : Int32), k24 l2 l3 u = some v → WM G X 24 [(0, .ref 146), (1, .ref 5011), (2, .int l2), (3, .int l3)] [] SH RHO u) (l3 t0 : Int32) (h : FX12_is_146_5011_b60 k24 l3 t0 u = some v) : WM G X 60 [(0, .ref 146), (1, .ref 5011), (3, .int l3)] [.int t0] SH RHO u := by
  unfold FX12_is_146_5011_b60 at h
  refine w_istore_n (lv' := [(2, .int t0), (0, .ref 146), (1, .ref 5011), (3, .int l3)]) 60 hX rfl dX12_is_60 (by decide) rfl ?_
  refine w_iinc (lv' := [(3, .int (l3 + 1)), (2, .int t0), (0, .ref 146), (1, .ref 5011)]) 61 3 hX dX12_is_61 rfl (inc_1 _) (by decide) rfl ?_
  refine w_goto (tgt := 24) 64 hX (by decide) dX12_is_64 ?_
  exact w_sub [2, 3, 1, 0] rfl (hk24 t0 (l3 + 1) h)
def FX12_is_146_5011_b24 (k24 : Int32 → Int32 → Mem → Option Int32) (l2 l3 : Int32) (u : Mem) : Option Int32 :=
  (S_len 11).bind fun x1 => (if x1 ≤ l3 then (FX12_is_146_5011_b67 l2 u) else ((if l2 = 0 then (FX12_is_146_5011_b67 l2 u) else ((rdA u 154 400 ((u 146 19) + l3)).bind fun x4 => (S_chr 11 l3).bind fun x5 => (if x4 = x5 then (FX12_is_146_5011_b60 k24 l3 1 u) else (FX12_is_146_5011_b60 k24 l3 0 u))))))
theorem bX12_is_146_5011_24 {G : Gt} {X : Xt} {v : Int32} {u : Mem} (hX : CxOk G X cX12_is 4 RX12 (some (.int v), SH, RHO, u) 7) (hR : CxRet G X (some .boolean) (some (.int v), SH, RHO, u)) {k24 : Int32 → Int32 → Mem → Option Int32} (hk24 : ∀ (l2 l3 : Int32), k24 l2 l3 u = some v → WM G X 24 [(0, .ref 146), (1, .ref 5011), (2, .int l2), (3, .int l3)] [] SH RHO u) (l2 l3 : Int32) (h : FX12_is_146_5011_b24 k24 l2 l3 u = some v) : WM G X 24 [(0, .ref 146), (1, .ref 5011), (2, .int l2), (3, .int l3)] [] SH RHO u := by
  unfold FX12_is_146_5011_b24 at h
  refine w_iload_n 3 24 hX rfl rfl dX12_is_24 ?_
  refine w_aload_n 1 25 hX rfl rfl dX12_is_25 ?_
  obtain ⟨x1, gx1, h⟩ := o_bind h
  refine w_S_len (i := 11) (st := [.int l3]) 26 hX ml_X12_89 gx1 (by decide) (by decide) (Nat.le_of_ble_eq_true rfl) dX12_is_26 ?_
  refine w_icmp_ge (tgt := 67) 29 hX dX12_is_29 (by decide) (fun c2 => ?_) (fun c2 => ?_)
  · have h := it h c2
    exact w_sub [2] rfl (bX12_is_146_5011_67 hX hR l2 h)
  · have h := ie h c2
    refine w_iload_n 2 32 hX rfl rfl dX12_is_32 ?_
    refine w_if_eq (tgt := 67) 33 hX dX12_is_33 (by decide) (fun c3 => ?_) (fun c3 => ?_)
    · have h := it h c3
      exact w_sub [2] rfl (bX12_is_146_5011_67 hX hR l2 h)
    · have h := ie h c3
      refine w_aload_n 0 36 hX rfl rfl dX12_is_36 ?_
      refine w_getR 37 hX CI_12 s_146 rfl r_146_9 fl_X12_31 rfl dX12_is_37 ?_
      refine w_aload_n 0 40 hX rfl rfl dX12_is_40 ?_
      refine w_getI (j := 19) 41 hX CI_12 s_146 rfl fl_X12_86 rfl dX12_is_41 ?_
      refine w_iload_n 3 44 hX rfl rfl dX12_is_44 ?_
      refine w_iadd 45 hX dX12_is_45 ?_
      obtain ⟨x4, gx4, h⟩ := o_bind h
      refine w_iald 46 hX s_154 gx4 dX12_is_46 ?_
      refine w_aload_n 1 47 hX rfl rfl dX12_is_47 ?_
      refine w_iload_n 3 48 hX rfl rfl dX12_is_48 ?_
      obtain ⟨x5, gx5, h⟩ := o_bind h
      refine w_S_chr (i := 11) (st := [.int x4]) 49 hX ml_X12_95 gx5 (by decide) (by decide) (Nat.le_of_ble_eq_true rfl) dX12_is_49 ?_
      refine w_icmp_ne (tgt := 59) 52 hX dX12_is_52 (by decide) (fun c6 => ?_) (fun c6 => ?_)
      · have h := ie h c6
        refine w_iconst 0 59 hX ic_0 dX12_is_59 ?_
        exact w_sub [0, 1, 3] rfl (bX12_is_146_5011_60 hX hR hk24 l3 0 h)
      · have h := it h c6
        refine w_iconst 1 55 hX ic_1 dX12_is_55 ?_
        refine w_goto (tgt := 60) 56 hX (by decide) dX12_is_56 ?_
        exact w_sub [0, 1, 3] rfl (bX12_is_146_5011_60 hX hR hk24 l3 1 h)
def FX12_is_146_5011_L24 : Nat → Int32 → Int32 → Mem → Option Int32
  | 0, _, _, _ => none
  | n + 1, l2, l3, u => FX12_is_146_5011_b24 (FX12_is_146_5011_L24 n) l2 l3 u
theorem lX12_is_146_5011_24 {G : Gt} {X : Xt} {v : Int32} {u : Mem} (hX : CxOk G X cX12_is 4 RX12 (some (.int v), SH, RHO, u) 7) (hR : CxRet G X (some .boolean) (some (.int v), SH, RHO, u)) : ∀ (n : Nat) (l2 l3 : Int32), FX12_is_146_5011_L24 n l2 l3 u = some v → WM G X 24 [(0, .ref 146), (1, .ref 5011), (2, .int l2), (3, .int l3)] [] SH RHO u := by
  intro n
  induction n with
  | zero =>
    intro l2 l3 h
    exact nn_ h
  | succ n ih =>
    intro l2 l3 h
    exact bX12_is_146_5011_24 hX hR ih l2 l3 h
def FX12_is_146_5011_b21 (t0 : Int32) (u : Mem) : Option Int32 :=
  FX12_is_146_5011_L24 FU t0 0 u
theorem bX12_is_146_5011_21 {G : Gt} {X : Xt} {v : Int32} {u : Mem} (hX : CxOk G X cX12_is 4 RX12 (some (.int v), SH, RHO, u) 7) (hR : CxRet G X (some .boolean) (some (.int v), SH, RHO, u)) (t0 : Int32) (h : FX12_is_146_5011_b21 t0 u = some v) : WM G X 21 [(0, .ref 146), (1, .ref 5011)] [.int t0] SH RHO u := by
  unfold FX12_is_146_5011_b21 at h
  refine w_istore_n (lv' := [(2, .int t0), (0, .ref 146), (1, .ref 5011)]) 21 hX rfl dX12_is_21 (by decide) rfl ?_
  refine w_iconst 0 22 hX ic_0 dX12_is_22 ?_
  refine w_istore_n (lv' := [(3, .int 0), (2, .int t0), (0, .ref 146), (1, .ref 5011)]) 23 hX rfl dX12_is_23 (by decide) rfl ?_
  exact w_sub [2, 3, 1, 0] rfl (lX12_is_146_5011_24 hX hR FU t0 0 h)
def FX12_is_146_5011 (u : Mem) : Option Int32 :=
  (S_len 11).bind fun x1 => (if ((u 146 17) - (u 146 19)) = x1 then (FX12_is_146_5011_b21 1 u) else (FX12_is_146_5011_b21 0 u))
theorem CX12_is_146_5011 {G : Gt} (u : Mem) {v : Int32} (h : FX12_is_146_5011 u = some v) : CT G yX12_is cX12_is 4 (some .boolean) 7 [.ref 146, .ref 5011] SH RHO u (some (.int v), SH, RHO, u) :=
  ct_of (by decide) rfl (Nat.le_of_ble_eq_true rfl) (Nat.le_refl _) (Nat.le_refl _) (fun X hX hR => by
  unfold FX12_is_146_5011 at h
  refine w_aload_n 0 0 hX rfl rfl dX12_is_0 ?_
  refine w_getI (j := 17) 1 hX CI_12 s_146 rfl fl_X12_83 rfl dX12_is_1 ?_
  refine w_aload_n 0 4 hX rfl rfl dX12_is_4 ?_
  refine w_getI (j := 19) 5 hX CI_12 s_146 rfl fl_X12_86 rfl dX12_is_5 ?_
  refine w_isub 8 hX dX12_is_8 ?_
  refine w_aload_n 1 9 hX rfl rfl dX12_is_9 ?_
  obtain ⟨x1, gx1, h⟩ := o_bind h
  refine w_S_len (i := 11) (st := [.int ((u 146 17) - (u 146 19))]) 10 hX ml_X12_89 gx1 (by decide) (by decide) (Nat.le_of_ble_eq_true rfl) dX12_is_10 ?_
  refine w_icmp_ne (tgt := 20) 13 hX dX12_is_13 (by decide) (fun c2 => ?_) (fun c2 => ?_)
  · have h := ie h c2
    refine w_iconst 0 20 hX ic_0 dX12_is_20 ?_
    exact bX12_is_146_5011_21 hX hR 0 h
  · have h := it h c2
    refine w_iconst 1 16 hX ic_1 dX12_is_16 ?_
    refine w_goto (tgt := 21) 17 hX (by decide) dX12_is_17 ?_
    exact bX12_is_146_5011_21 hX hR 1 h)
def FX12_is_146_5012_b67 (l2 : Int32) (u : Mem) : Option Int32 :=
  (bchk l2).bind fun x1 => some x1
theorem bX12_is_146_5012_67 {G : Gt} {X : Xt} {v : Int32} {u : Mem} (hX : CxOk G X cX12_is 4 RX12 (some (.int v), SH, RHO, u) 7) (hR : CxRet G X (some .boolean) (some (.int v), SH, RHO, u)) (l2 : Int32) (h : FX12_is_146_5012_b67 l2 u = some v) : WM G X 67 [(2, .int l2)] [] SH RHO u := by
  unfold FX12_is_146_5012_b67 at h
  refine w_iload_n 0 67 hX rfl rfl dX12_is_67 ?_
  obtain ⟨x1, gx1, h⟩ := o_bind h
  obtain ⟨jx1, nx1, mx1⟩ := bchk_ok gx1
  rw [jx1]
  exact w_zret 68 hX hR nx1 dX12_is_68 (by cases h; rfl)
def FX12_is_146_5012_b60 (k24 : Int32 → Int32 → Mem → Option Int32) (l3 t0 : Int32) (u : Mem) : Option Int32 :=
  k24 t0 (l3 + 1) u
theorem bX12_is_146_5012_60 {G : Gt} {X : Xt} {v : Int32} {u : Mem} (hX : CxOk G X cX12_is 4 RX12 (some (.int v), SH, RHO, u) 7) (hR : CxRet G X (some .boolean) (some (.int v), SH, RHO, u)) {k24 : Int32 → Int32 → Mem → Option Int32} (hk24 : ∀ (l2 l3 : Int32), k24 l2 l3 u = some v → WM G X 24 [(0, .ref 146), (1, .ref 5012), (2, .int l2), (3, .int l3)] [] SH RHO u) (l3 t0 : Int32) (h : FX12_is_146_5012_b60 k24 l3 t0 u = some v) : WM G X 60 [(0, .ref 146), (1, .ref 5012), (3, .int l3)] [.int t0] SH RHO u := by
  unfold FX12_is_146_5012_b60 at h
  refine w_istore_n (lv' := [(2, .int t0), (0, .ref 146), (1, .ref 5012), (3, .int l3)]) 60 hX rfl dX12_is_60 (by decide) rfl ?_
  refine w_iinc (lv' := [(3, .int (l3 + 1)), (2, .int t0), (0, .ref 146), (1, .ref 5012)]) 61 3 hX dX12_is_61 rfl (inc_1 _) (by decide) rfl ?_
  refine w_goto (tgt := 24) 64 hX (by decide) dX12_is_64 ?_
  exact w_sub [2, 3, 1, 0] rfl (hk24 t0 (l3 + 1) h)
def FX12_is_146_5012_b24 (k24 : Int32 → Int32 → Mem → Option Int32) (l2 l3 : Int32) (u : Mem) : Option Int32 :=
  (S_len 12).bind fun x1 => (if x1 ≤ l3 then (FX12_is_146_5012_b67 l2 u) else ((if l2 = 0 then (FX12_is_146_5012_b67 l2 u) else ((rdA u 154 400 ((u 146 19) + l3)).bind fun x4 => (S_chr 12 l3).bind fun x5 => (if x4 = x5 then (FX12_is_146_5012_b60 k24 l3 1 u) else (FX12_is_146_5012_b60 k24 l3 0 u))))))
theorem bX12_is_146_5012_24 {G : Gt} {X : Xt} {v : Int32} {u : Mem} (hX : CxOk G X cX12_is 4 RX12 (some (.int v), SH, RHO, u) 7) (hR : CxRet G X (some .boolean) (some (.int v), SH, RHO, u)) {k24 : Int32 → Int32 → Mem → Option Int32} (hk24 : ∀ (l2 l3 : Int32), k24 l2 l3 u = some v → WM G X 24 [(0, .ref 146), (1, .ref 5012), (2, .int l2), (3, .int l3)] [] SH RHO u) (l2 l3 : Int32) (h : FX12_is_146_5012_b24 k24 l2 l3 u = some v) : WM G X 24 [(0, .ref 146), (1, .ref 5012), (2, .int l2), (3, .int l3)] [] SH RHO u := by
  unfold FX12_is_146_5012_b24 at h
  refine w_iload_n 3 24 hX rfl rfl dX12_is_24 ?_
  refine w_aload_n 1 25 hX rfl rfl dX12_is_25 ?_
  obtain ⟨x1, gx1, h⟩ := o_bind h
  refine w_S_len (i := 12) (st := [.int l3]) 26 hX ml_X12_89 gx1 (by decide) (by decide) (Nat.le_of_ble_eq_true rfl) dX12_is_26 ?_
  refine w_icmp_ge (tgt := 67) 29 hX dX12_is_29 (by decide) (fun c2 => ?_) (fun c2 => ?_)
  · have h := it h c2
    exact w_sub [2] rfl (bX12_is_146_5012_67 hX hR l2 h)
  · have h := ie h c2
    refine w_iload_n 2 32 hX rfl rfl dX12_is_32 ?_
    refine w_if_eq (tgt := 67) 33 hX dX12_is_33 (by decide) (fun c3 => ?_) (fun c3 => ?_)
    · have h := it h c3
      exact w_sub [2] rfl (bX12_is_146_5012_67 hX hR l2 h)
    · have h := ie h c3
      refine w_aload_n 0 36 hX rfl rfl dX12_is_36 ?_
      refine w_getR 37 hX CI_12 s_146 rfl r_146_9 fl_X12_31 rfl dX12_is_37 ?_
      refine w_aload_n 0 40 hX rfl rfl dX12_is_40 ?_
      refine w_getI (j := 19) 41 hX CI_12 s_146 rfl fl_X12_86 rfl dX12_is_41 ?_
      refine w_iload_n 3 44 hX rfl rfl dX12_is_44 ?_
      refine w_iadd 45 hX dX12_is_45 ?_
      obtain ⟨x4, gx4, h⟩ := o_bind h
      refine w_iald 46 hX s_154 gx4 dX12_is_46 ?_
      refine w_aload_n 1 47 hX rfl rfl dX12_is_47 ?_
      refine w_iload_n 3 48 hX rfl rfl dX12_is_48 ?_
      obtain ⟨x5, gx5, h⟩ := o_bind h
      refine w_S_chr (i := 12) (st := [.int x4]) 49 hX ml_X12_95 gx5 (by decide) (by decide) (Nat.le_of_ble_eq_true rfl) dX12_is_49 ?_
      refine w_icmp_ne (tgt := 59) 52 hX dX12_is_52 (by decide) (fun c6 => ?_) (fun c6 => ?_)
      · have h := ie h c6
        refine w_iconst 0 59 hX ic_0 dX12_is_59 ?_
        exact w_sub [0, 1, 3] rfl (bX12_is_146_5012_60 hX hR hk24 l3 0 h)
      · have h := it h c6
        refine w_iconst 1 55 hX ic_1 dX12_is_55 ?_
        refine w_goto (tgt := 60) 56 hX (by decide) dX12_is_56 ?_
        exact w_sub [0, 1, 3] rfl (bX12_is_146_5012_60 hX hR hk24 l3 1 h)
def FX12_is_146_5012_L24 : Nat → Int32 → Int32 → Mem → Option Int32
  | 0, _, _, _ => none
  | n + 1, l2, l3, u => FX12_is_146_5012_b24 (FX12_is_146_5012_L24 n) l2 l3 u
theorem lX12_is_146_5012_24 {G : Gt} {X : Xt} {v : Int32} {u : Mem} (hX : CxOk G X cX12_is 4 RX12 (some (.int v), SH, RHO, u) 7) (hR : CxRet G X (some .boolean) (some (.int v), SH, RHO, u)) : ∀ (n : Nat) (l2 l3 : Int32), FX12_is_146_5012_L24 n l2 l3 u = some v → WM G X 24 [(0, .ref 146), (1, .ref 5012), (2, .int l2), (3, .int l3)] [] SH RHO u := by
  intro n
  induction n with
  | zero =>
    intro l2 l3 h
    exact nn_ h
  | succ n ih =>
    intro l2 l3 h
    exact bX12_is_146_5012_24 hX hR ih l2 l3 h
def FX12_is_146_5012_b21 (t0 : Int32) (u : Mem) : Option Int32 :=
  FX12_is_146_5012_L24 FU t0 0 u
theorem bX12_is_146_5012_21 {G : Gt} {X : Xt} {v : Int32} {u : Mem} (hX : CxOk G X cX12_is 4 RX12 (some (.int v), SH, RHO, u) 7) (hR : CxRet G X (some .boolean) (some (.int v), SH, RHO, u)) (t0 : Int32) (h : FX12_is_146_5012_b21 t0 u = some v) : WM G X 21 [(0, .ref 146), (1, .ref 5012)] [.int t0] SH RHO u := by
  unfold FX12_is_146_5012_b21 at h
  refine w_istore_n (lv' := [(2, .int t0), (0, .ref 146), (1, .ref 5012)]) 21 hX rfl dX12_is_21 (by decide) rfl ?_
  refine w_iconst 0 22 hX ic_0 dX12_is_22 ?_
  refine w_istore_n (lv' := [(3, .int 0), (2, .int t0), (0, .ref 146), (1, .ref 5012)]) 23 hX rfl dX12_is_23 (by decide) rfl ?_
  exact w_sub [2, 3, 1, 0] rfl (lX12_is_146_5012_24 hX hR FU t0 0 h)
def FX12_is_146_5012 (u : Mem) : Option Int32 :=
  (S_len 12).bind fun x1 => (if ((u 146 17) - (u 146 19)) = x1 then (FX12_is_146_5012_b21 1 u) else (FX12_is_146_5012_b21 0 u))
theorem CX12_is_146_5012 {G : Gt} (u : Mem) {v : Int32} (h : FX12_is_146_5012 u = some v) : CT G yX12_is cX12_is 4 (some .boolean) 7 [.ref 146, .ref 5012] SH RHO u (some (.int v), SH, RHO, u) :=
  ct_of (by decide) rfl (Nat.le_of_ble_eq_true rfl) (Nat.le_refl _) (Nat.le_refl _) (fun X hX hR => by
  unfold FX12_is_146_5012 at h
  refine w_aload_n 0 0 hX rfl rfl dX12_is_0 ?_
  refine w_getI (j := 17) 1 hX CI_12 s_146 rfl fl_X12_83 rfl dX12_is_1 ?_
  refine w_aload_n 0 4 hX rfl rfl dX12_is_4 ?_
  refine w_getI (j := 19) 5 hX CI_12 s_146 rfl fl_X12_86 rfl dX12_is_5 ?_
  refine w_isub 8 hX dX12_is_8 ?_
  refine w_aload_n 1 9 hX rfl rfl dX12_is_9 ?_
  obtain ⟨x1, gx1, h⟩ := o_bind h
  refine w_S_len (i := 12) (st := [.int ((u 146 17) - (u 146 19))]) 10 hX ml_X12_89 gx1 (by decide) (by decide) (Nat.le_of_ble_eq_true rfl) dX12_is_10 ?_
  refine w_icmp_ne (tgt := 20) 13 hX dX12_is_13 (by decide) (fun c2 => ?_) (fun c2 => ?_)
  · have h := ie h c2
    refine w_iconst 0 20 hX ic_0 dX12_is_20 ?_
    exact bX12_is_146_5012_21 hX hR 0 h
  · have h := it h c2
    refine w_iconst 1 16 hX ic_1 dX12_is_16 ?_
    refine w_goto (tgt := 21) 17 hX (by decide) dX12_is_17 ?_
    exact bX12_is_146_5012_21 hX hR 1 h)
def FX12_is_146_5013_b67 (l2 : Int32) (u : Mem) : Option Int32 :=
  (bchk l2).bind fun x1 => some x1
theorem bX12_is_146_5013_67 {G : Gt} {X : Xt} {v : Int32} {u : Mem} (hX : CxOk G X cX12_is 4 RX12 (some (.int v), SH, RHO, u) 7) (hR : CxRet G X (some .boolean) (some (.int v), SH, RHO, u)) (l2 : Int32) (h : FX12_is_146_5013_b67 l2 u = some v) : WM G X 67 [(2, .int l2)] [] SH RHO u := by
  unfold FX12_is_146_5013_b67 at h
  refine w_iload_n 0 67 hX rfl rfl dX12_is_67 ?_
  obtain ⟨x1, gx1, h⟩ := o_bind h
  obtain ⟨jx1, nx1, mx1⟩ := bchk_ok gx1
  rw [jx1]
  exact w_zret 68 hX hR nx1 dX12_is_68 (by cases h; rfl)
def FX12_is_146_5013_b60 (k24 : Int32 → Int32 → Mem → Option Int32) (l3 t0 : Int32) (u : Mem) : Option Int32 :=
  k24 t0 (l3 + 1) u
theorem bX12_is_146_5013_60 {G : Gt} {X : Xt} {v : Int32} {u : Mem} (hX : CxOk G X cX12_is 4 RX12 (some (.int v), SH, RHO, u) 7) (hR : CxRet G X (some .boolean) (some (.int v), SH, RHO, u)) {k24 : Int32 → Int32 → Mem → Option Int32} (hk24 : ∀ (l2 l3 : Int32), k24 l2 l3 u = some v → WM G X 24 [(0, .ref 146), (1, .ref 5013), (2, .int l2), (3, .int l3)] [] SH RHO u) (l3 t0 : Int32) (h : FX12_is_146_5013_b60 k24 l3 t0 u = some v) : WM G X 60 [(0, .ref 146), (1, .ref 5013), (3, .int l3)] [.int t0] SH RHO u := by
  unfold FX12_is_146_5013_b60 at h
  refine w_istore_n (lv' := [(2, .int t0), (0, .ref 146), (1, .ref 5013), (3, .int l3)]) 60 hX rfl dX12_is_60 (by decide) rfl ?_
  refine w_iinc (lv' := [(3, .int (l3 + 1)), (2, .int t0), (0, .ref 146), (1, .ref 5013)]) 61 3 hX dX12_is_61 rfl (inc_1 _) (by decide) rfl ?_
  refine w_goto (tgt := 24) 64 hX (by decide) dX12_is_64 ?_
  exact w_sub [2, 3, 1, 0] rfl (hk24 t0 (l3 + 1) h)
def FX12_is_146_5013_b24 (k24 : Int32 → Int32 → Mem → Option Int32) (l2 l3 : Int32) (u : Mem) : Option Int32 :=
  (S_len 13).bind fun x1 => (if x1 ≤ l3 then (FX12_is_146_5013_b67 l2 u) else ((if l2 = 0 then (FX12_is_146_5013_b67 l2 u) else ((rdA u 154 400 ((u 146 19) + l3)).bind fun x4 => (S_chr 13 l3).bind fun x5 => (if x4 = x5 then (FX12_is_146_5013_b60 k24 l3 1 u) else (FX12_is_146_5013_b60 k24 l3 0 u))))))
theorem bX12_is_146_5013_24 {G : Gt} {X : Xt} {v : Int32} {u : Mem} (hX : CxOk G X cX12_is 4 RX12 (some (.int v), SH, RHO, u) 7) (hR : CxRet G X (some .boolean) (some (.int v), SH, RHO, u)) {k24 : Int32 → Int32 → Mem → Option Int32} (hk24 : ∀ (l2 l3 : Int32), k24 l2 l3 u = some v → WM G X 24 [(0, .ref 146), (1, .ref 5013), (2, .int l2), (3, .int l3)] [] SH RHO u) (l2 l3 : Int32) (h : FX12_is_146_5013_b24 k24 l2 l3 u = some v) : WM G X 24 [(0, .ref 146), (1, .ref 5013), (2, .int l2), (3, .int l3)] [] SH RHO u := by
  unfold FX12_is_146_5013_b24 at h
  refine w_iload_n 3 24 hX rfl rfl dX12_is_24 ?_
  refine w_aload_n 1 25 hX rfl rfl dX12_is_25 ?_
  obtain ⟨x1, gx1, h⟩ := o_bind h
  refine w_S_len (i := 13) (st := [.int l3]) 26 hX ml_X12_89 gx1 (by decide) (by decide) (Nat.le_of_ble_eq_true rfl) dX12_is_26 ?_
  refine w_icmp_ge (tgt := 67) 29 hX dX12_is_29 (by decide) (fun c2 => ?_) (fun c2 => ?_)
  · have h := it h c2
    exact w_sub [2] rfl (bX12_is_146_5013_67 hX hR l2 h)
  · have h := ie h c2
    refine w_iload_n 2 32 hX rfl rfl dX12_is_32 ?_
    refine w_if_eq (tgt := 67) 33 hX dX12_is_33 (by decide) (fun c3 => ?_) (fun c3 => ?_)
    · have h := it h c3
      exact w_sub [2] rfl (bX12_is_146_5013_67 hX hR l2 h)
    · have h := ie h c3
      refine w_aload_n 0 36 hX rfl rfl dX12_is_36 ?_
      refine w_getR 37 hX CI_12 s_146 rfl r_146_9 fl_X12_31 rfl dX12_is_37 ?_
      refine w_aload_n 0 40 hX rfl rfl dX12_is_40 ?_
      refine w_getI (j := 19) 41 hX CI_12 s_146 rfl fl_X12_86 rfl dX12_is_41 ?_
      refine w_iload_n 3 44 hX rfl rfl dX12_is_44 ?_
      refine w_iadd 45 hX dX12_is_45 ?_
      obtain ⟨x4, gx4, h⟩ := o_bind h
      refine w_iald 46 hX s_154 gx4 dX12_is_46 ?_
      refine w_aload_n 1 47 hX rfl rfl dX12_is_47 ?_
      refine w_iload_n 3 48 hX rfl rfl dX12_is_48 ?_
      obtain ⟨x5, gx5, h⟩ := o_bind h
      refine w_S_chr (i := 13) (st := [.int x4]) 49 hX ml_X12_95 gx5 (by decide) (by decide) (Nat.le_of_ble_eq_true rfl) dX12_is_49 ?_
      refine w_icmp_ne (tgt := 59) 52 hX dX12_is_52 (by decide) (fun c6 => ?_) (fun c6 => ?_)
      · have h := ie h c6
        refine w_iconst 0 59 hX ic_0 dX12_is_59 ?_
        exact w_sub [0, 1, 3] rfl (bX12_is_146_5013_60 hX hR hk24 l3 0 h)
      · have h := it h c6
        refine w_iconst 1 55 hX ic_1 dX12_is_55 ?_
        refine w_goto (tgt := 60) 56 hX (by decide) dX12_is_56 ?_
        exact w_sub [0, 1, 3] rfl (bX12_is_146_5013_60 hX hR hk24 l3 1 h)
def FX12_is_146_5013_L24 : Nat → Int32 → Int32 → Mem → Option Int32
  | 0, _, _, _ => none
  | n + 1, l2, l3, u => FX12_is_146_5013_b24 (FX12_is_146_5013_L24 n) l2 l3 u
theorem lX12_is_146_5013_24 {G : Gt} {X : Xt} {v : Int32} {u : Mem} (hX : CxOk G X cX12_is 4 RX12 (some (.int v), SH, RHO, u) 7) (hR : CxRet G X (some .boolean) (some (.int v), SH, RHO, u)) : ∀ (n : Nat) (l2 l3 : Int32), FX12_is_146_5013_L24 n l2 l3 u = some v → WM G X 24 [(0, .ref 146), (1, .ref 5013), (2, .int l2), (3, .int l3)] [] SH RHO u := by
  intro n
  induction n with
  | zero =>
    intro l2 l3 h
    exact nn_ h
  | succ n ih =>
    intro l2 l3 h
    exact bX12_is_146_5013_24 hX hR ih l2 l3 h
def FX12_is_146_5013_b21 (t0 : Int32) (u : Mem) : Option Int32 :=
  FX12_is_146_5013_L24 FU t0 0 u
theorem bX12_is_146_5013_21 {G : Gt} {X : Xt} {v : Int32} {u : Mem} (hX : CxOk G X cX12_is 4 RX12 (some (.int v), SH, RHO, u) 7) (hR : CxRet G X (some .boolean) (some (.int v), SH, RHO, u)) (t0 : Int32) (h : FX12_is_146_5013_b21 t0 u = some v) : WM G X 21 [(0, .ref 146), (1, .ref 5013)] [.int t0] SH RHO u := by
  unfold FX12_is_146_5013_b21 at h
  refine w_istore_n (lv' := [(2, .int t0), (0, .ref 146), (1, .ref 5013)]) 21 hX rfl dX12_is_21 (by decide) rfl ?_
  refine w_iconst 0 22 hX ic_0 dX12_is_22 ?_
  refine w_istore_n (lv' := [(3, .int 0), (2, .int t0), (0, .ref 146), (1, .ref 5013)]) 23 hX rfl dX12_is_23 (by decide) rfl ?_
  exact w_sub [2, 3, 1, 0] rfl (lX12_is_146_5013_24 hX hR FU t0 0 h)
def FX12_is_146_5013 (u : Mem) : Option Int32 :=
  (S_len 13).bind fun x1 => (if ((u 146 17) - (u 146 19)) = x1 then (FX12_is_146_5013_b21 1 u) else (FX12_is_146_5013_b21 0 u))
theorem CX12_is_146_5013 {G : Gt} (u : Mem) {v : Int32} (h : FX12_is_146_5013 u = some v) : CT G yX12_is cX12_is 4 (some .boolean) 7 [.ref 146, .ref 5013] SH RHO u (some (.int v), SH, RHO, u) :=
  ct_of (by decide) rfl (Nat.le_of_ble_eq_true rfl) (Nat.le_refl _) (Nat.le_refl _) (fun X hX hR => by
  unfold FX12_is_146_5013 at h
  refine w_aload_n 0 0 hX rfl rfl dX12_is_0 ?_
  refine w_getI (j := 17) 1 hX CI_12 s_146 rfl fl_X12_83 rfl dX12_is_1 ?_
  refine w_aload_n 0 4 hX rfl rfl dX12_is_4 ?_
  refine w_getI (j := 19) 5 hX CI_12 s_146 rfl fl_X12_86 rfl dX12_is_5 ?_
  refine w_isub 8 hX dX12_is_8 ?_
  refine w_aload_n 1 9 hX rfl rfl dX12_is_9 ?_
  obtain ⟨x1, gx1, h⟩ := o_bind h
  refine w_S_len (i := 13) (st := [.int ((u 146 17) - (u 146 19))]) 10 hX ml_X12_89 gx1 (by decide) (by decide) (Nat.le_of_ble_eq_true rfl) dX12_is_10 ?_
  refine w_icmp_ne (tgt := 20) 13 hX dX12_is_13 (by decide) (fun c2 => ?_) (fun c2 => ?_)
  · have h := ie h c2
    refine w_iconst 0 20 hX ic_0 dX12_is_20 ?_
    exact bX12_is_146_5013_21 hX hR 0 h
  · have h := it h c2
    refine w_iconst 1 16 hX ic_1 dX12_is_16 ?_
    refine w_goto (tgt := 21) 17 hX (by decide) dX12_is_17 ?_
    exact bX12_is_146_5013_21 hX hR 1 h)
def FX12_is_146_5014_b67 (l2 : Int32) (u : Mem) : Option Int32 :=
  (bchk l2).bind fun x1 => some x1
theorem bX12_is_146_5014_67 {G : Gt} {X : Xt} {v : Int32} {u : Mem} (hX : CxOk G X cX12_is 4 RX12 (some (.int v), SH, RHO, u) 7) (hR : CxRet G X (some .boolean) (some (.int v), SH, RHO, u)) (l2 : Int32) (h : FX12_is_146_5014_b67 l2 u = some v) : WM G X 67 [(2, .int l2)] [] SH RHO u := by
  unfold FX12_is_146_5014_b67 at h
  refine w_iload_n 0 67 hX rfl rfl dX12_is_67 ?_
  obtain ⟨x1, gx1, h⟩ := o_bind h
  obtain ⟨jx1, nx1, mx1⟩ := bchk_ok gx1
  rw [jx1]
  exact w_zret 68 hX hR nx1 dX12_is_68 (by cases h; rfl)
def FX12_is_146_5014_b60 (k24 : Int32 → Int32 → Mem → Option Int32) (l3 t0 : Int32) (u : Mem) : Option Int32 :=
  k24 t0 (l3 + 1) u
theorem bX12_is_146_5014_60 {G : Gt} {X : Xt} {v : Int32} {u : Mem} (hX : CxOk G X cX12_is 4 RX12 (some (.int v), SH, RHO, u) 7) (hR : CxRet G X (some .boolean) (some (.int v), SH, RHO, u)) {k24 : Int32 → Int32 → Mem → Option Int32} (hk24 : ∀ (l2 l3 : Int32), k24 l2 l3 u = some v → WM G X 24 [(0, .ref 146), (1, .ref 5014), (2, .int l2), (3, .int l3)] [] SH RHO u) (l3 t0 : Int32) (h : FX12_is_146_5014_b60 k24 l3 t0 u = some v) : WM G X 60 [(0, .ref 146), (1, .ref 5014), (3, .int l3)] [.int t0] SH RHO u := by
  unfold FX12_is_146_5014_b60 at h
  refine w_istore_n (lv' := [(2, .int t0), (0, .ref 146), (1, .ref 5014), (3, .int l3)]) 60 hX rfl dX12_is_60 (by decide) rfl ?_
  refine w_iinc (lv' := [(3, .int (l3 + 1)), (2, .int t0), (0, .ref 146), (1, .ref 5014)]) 61 3 hX dX12_is_61 rfl (inc_1 _) (by decide) rfl ?_
  refine w_goto (tgt := 24) 64 hX (by decide) dX12_is_64 ?_
  exact w_sub [2, 3, 1, 0] rfl (hk24 t0 (l3 + 1) h)
def FX12_is_146_5014_b24 (k24 : Int32 → Int32 → Mem → Option Int32) (l2 l3 : Int32) (u : Mem) : Option Int32 :=
  (S_len 14).bind fun x1 => (if x1 ≤ l3 then (FX12_is_146_5014_b67 l2 u) else ((if l2 = 0 then (FX12_is_146_5014_b67 l2 u) else ((rdA u 154 400 ((u 146 19) + l3)).bind fun x4 => (S_chr 14 l3).bind fun x5 => (if x4 = x5 then (FX12_is_146_5014_b60 k24 l3 1 u) else (FX12_is_146_5014_b60 k24 l3 0 u))))))
theorem bX12_is_146_5014_24 {G : Gt} {X : Xt} {v : Int32} {u : Mem} (hX : CxOk G X cX12_is 4 RX12 (some (.int v), SH, RHO, u) 7) (hR : CxRet G X (some .boolean) (some (.int v), SH, RHO, u)) {k24 : Int32 → Int32 → Mem → Option Int32} (hk24 : ∀ (l2 l3 : Int32), k24 l2 l3 u = some v → WM G X 24 [(0, .ref 146), (1, .ref 5014), (2, .int l2), (3, .int l3)] [] SH RHO u) (l2 l3 : Int32) (h : FX12_is_146_5014_b24 k24 l2 l3 u = some v) : WM G X 24 [(0, .ref 146), (1, .ref 5014), (2, .int l2), (3, .int l3)] [] SH RHO u := by
  unfold FX12_is_146_5014_b24 at h
  refine w_iload_n 3 24 hX rfl rfl dX12_is_24 ?_
  refine w_aload_n 1 25 hX rfl rfl dX12_is_25 ?_
  obtain ⟨x1, gx1, h⟩ := o_bind h
  refine w_S_len (i := 14) (st := [.int l3]) 26 hX ml_X12_89 gx1 (by decide) (by decide) (Nat.le_of_ble_eq_true rfl) dX12_is_26 ?_
  refine w_icmp_ge (tgt := 67) 29 hX dX12_is_29 (by decide) (fun c2 => ?_) (fun c2 => ?_)
  · have h := it h c2
    exact w_sub [2] rfl (bX12_is_146_5014_67 hX hR l2 h)
  · have h := ie h c2
    refine w_iload_n 2 32 hX rfl rfl dX12_is_32 ?_
    refine w_if_eq (tgt := 67) 33 hX dX12_is_33 (by decide) (fun c3 => ?_) (fun c3 => ?_)
    · have h := it h c3
      exact w_sub [2] rfl (bX12_is_146_5014_67 hX hR l2 h)
    · have h := ie h c3
      refine w_aload_n 0 36 hX rfl rfl dX12_is_36 ?_
      refine w_getR 37 hX CI_12 s_146 rfl r_146_9 fl_X12_31 rfl dX12_is_37 ?_
      refine w_aload_n 0 40 hX rfl rfl dX12_is_40 ?_
      refine w_getI (j := 19) 41 hX CI_12 s_146 rfl fl_X12_86 rfl dX12_is_41 ?_
      refine w_iload_n 3 44 hX rfl rfl dX12_is_44 ?_
      refine w_iadd 45 hX dX12_is_45 ?_
      obtain ⟨x4, gx4, h⟩ := o_bind h
      refine w_iald 46 hX s_154 gx4 dX12_is_46 ?_
      refine w_aload_n 1 47 hX rfl rfl dX12_is_47 ?_
      refine w_iload_n 3 48 hX rfl rfl dX12_is_48 ?_
      obtain ⟨x5, gx5, h⟩ := o_bind h
      refine w_S_chr (i := 14) (st := [.int x4]) 49 hX ml_X12_95 gx5 (by decide) (by decide) (Nat.le_of_ble_eq_true rfl) dX12_is_49 ?_
      refine w_icmp_ne (tgt := 59) 52 hX dX12_is_52 (by decide) (fun c6 => ?_) (fun c6 => ?_)
      · have h := ie h c6
        refine w_iconst 0 59 hX ic_0 dX12_is_59 ?_
        exact w_sub [0, 1, 3] rfl (bX12_is_146_5014_60 hX hR hk24 l3 0 h)
      · have h := it h c6
        refine w_iconst 1 55 hX ic_1 dX12_is_55 ?_
        refine w_goto (tgt := 60) 56 hX (by decide) dX12_is_56 ?_
        exact w_sub [0, 1, 3] rfl (bX12_is_146_5014_60 hX hR hk24 l3 1 h)
def FX12_is_146_5014_L24 : Nat → Int32 → Int32 → Mem → Option Int32
  | 0, _, _, _ => none
  | n + 1, l2, l3, u => FX12_is_146_5014_b24 (FX12_is_146_5014_L24 n) l2 l3 u
theorem lX12_is_146_5014_24 {G : Gt} {X : Xt} {v : Int32} {u : Mem} (hX : CxOk G X cX12_is 4 RX12 (some (.int v), SH, RHO, u) 7) (hR : CxRet G X (some .boolean) (some (.int v), SH, RHO, u)) : ∀ (n : Nat) (l2 l3 : Int32), FX12_is_146_5014_L24 n l2 l3 u = some v → WM G X 24 [(0, .ref 146), (1, .ref 5014), (2, .int l2), (3, .int l3)] [] SH RHO u := by
  intro n
  induction n with
  | zero =>
    intro l2 l3 h
    exact nn_ h
  | succ n ih =>
    intro l2 l3 h
    exact bX12_is_146_5014_24 hX hR ih l2 l3 h
def FX12_is_146_5014_b21 (t0 : Int32) (u : Mem) : Option Int32 :=
  FX12_is_146_5014_L24 FU t0 0 u
theorem bX12_is_146_5014_21 {G : Gt} {X : Xt} {v : Int32} {u : Mem} (hX : CxOk G X cX12_is 4 RX12 (some (.int v), SH, RHO, u) 7) (hR : CxRet G X (some .boolean) (some (.int v), SH, RHO, u)) (t0 : Int32) (h : FX12_is_146_5014_b21 t0 u = some v) : WM G X 21 [(0, .ref 146), (1, .ref 5014)] [.int t0] SH RHO u := by
  unfold FX12_is_146_5014_b21 at h
  refine w_istore_n (lv' := [(2, .int t0), (0, .ref 146), (1, .ref 5014)]) 21 hX rfl dX12_is_21 (by decide) rfl ?_
  refine w_iconst 0 22 hX ic_0 dX12_is_22 ?_
  refine w_istore_n (lv' := [(3, .int 0), (2, .int t0), (0, .ref 146), (1, .ref 5014)]) 23 hX rfl dX12_is_23 (by decide) rfl ?_
  exact w_sub [2, 3, 1, 0] rfl (lX12_is_146_5014_24 hX hR FU t0 0 h)
def FX12_is_146_5014 (u : Mem) : Option Int32 :=
  (S_len 14).bind fun x1 => (if ((u 146 17) - (u 146 19)) = x1 then (FX12_is_146_5014_b21 1 u) else (FX12_is_146_5014_b21 0 u))
theorem CX12_is_146_5014 {G : Gt} (u : Mem) {v : Int32} (h : FX12_is_146_5014 u = some v) : CT G yX12_is cX12_is 4 (some .boolean) 7 [.ref 146, .ref 5014] SH RHO u (some (.int v), SH, RHO, u) :=
  ct_of (by decide) rfl (Nat.le_of_ble_eq_true rfl) (Nat.le_refl _) (Nat.le_refl _) (fun X hX hR => by
  unfold FX12_is_146_5014 at h
  refine w_aload_n 0 0 hX rfl rfl dX12_is_0 ?_
  refine w_getI (j := 17) 1 hX CI_12 s_146 rfl fl_X12_83 rfl dX12_is_1 ?_
  refine w_aload_n 0 4 hX rfl rfl dX12_is_4 ?_
  refine w_getI (j := 19) 5 hX CI_12 s_146 rfl fl_X12_86 rfl dX12_is_5 ?_
  refine w_isub 8 hX dX12_is_8 ?_
  refine w_aload_n 1 9 hX rfl rfl dX12_is_9 ?_
  obtain ⟨x1, gx1, h⟩ := o_bind h
  refine w_S_len (i := 14) (st := [.int ((u 146 17) - (u 146 19))]) 10 hX ml_X12_89 gx1 (by decide) (by decide) (Nat.le_of_ble_eq_true rfl) dX12_is_10 ?_
  refine w_icmp_ne (tgt := 20) 13 hX dX12_is_13 (by decide) (fun c2 => ?_) (fun c2 => ?_)
  · have h := ie h c2
    refine w_iconst 0 20 hX ic_0 dX12_is_20 ?_
    exact bX12_is_146_5014_21 hX hR 0 h
  · have h := it h c2
    refine w_iconst 1 16 hX ic_1 dX12_is_16 ?_
    refine w_goto (tgt := 21) 17 hX (by decide) dX12_is_17 ?_
    exact bX12_is_146_5014_21 hX hR 1 h)
def FX12_is_146_5015_b67 (l2 : Int32) (u : Mem) : Option Int32 :=
  (bchk l2).bind fun x1 => some x1
theorem bX12_is_146_5015_67 {G : Gt} {X : Xt} {v : Int32} {u : Mem} (hX : CxOk G X cX12_is 4 RX12 (some (.int v), SH, RHO, u) 7) (hR : CxRet G X (some .boolean) (some (.int v), SH, RHO, u)) (l2 : Int32) (h : FX12_is_146_5015_b67 l2 u = some v) : WM G X 67 [(2, .int l2)] [] SH RHO u := by
  unfold FX12_is_146_5015_b67 at h
  refine w_iload_n 0 67 hX rfl rfl dX12_is_67 ?_
  obtain ⟨x1, gx1, h⟩ := o_bind h
  obtain ⟨jx1, nx1, mx1⟩ := bchk_ok gx1
  rw [jx1]
  exact w_zret 68 hX hR nx1 dX12_is_68 (by cases h; rfl)
def FX12_is_146_5015_b60 (k24 : Int32 → Int32 → Mem → Option Int32) (l3 t0 : Int32) (u : Mem) : Option Int32 :=
  k24 t0 (l3 + 1) u
theorem bX12_is_146_5015_60 {G : Gt} {X : Xt} {v : Int32} {u : Mem} (hX : CxOk G X cX12_is 4 RX12 (some (.int v), SH, RHO, u) 7) (hR : CxRet G X (some .boolean) (some (.int v), SH, RHO, u)) {k24 : Int32 → Int32 → Mem → Option Int32} (hk24 : ∀ (l2 l3 : Int32), k24 l2 l3 u = some v → WM G X 24 [(0, .ref 146), (1, .ref 5015), (2, .int l2), (3, .int l3)] [] SH RHO u) (l3 t0 : Int32) (h : FX12_is_146_5015_b60 k24 l3 t0 u = some v) : WM G X 60 [(0, .ref 146), (1, .ref 5015), (3, .int l3)] [.int t0] SH RHO u := by
  unfold FX12_is_146_5015_b60 at h
  refine w_istore_n (lv' := [(2, .int t0), (0, .ref 146), (1, .ref 5015), (3, .int l3)]) 60 hX rfl dX12_is_60 (by decide) rfl ?_
  refine w_iinc (lv' := [(3, .int (l3 + 1)), (2, .int t0), (0, .ref 146), (1, .ref 5015)]) 61 3 hX dX12_is_61 rfl (inc_1 _) (by decide) rfl ?_
  refine w_goto (tgt := 24) 64 hX (by decide) dX12_is_64 ?_
  exact w_sub [2, 3, 1, 0] rfl (hk24 t0 (l3 + 1) h)
def FX12_is_146_5015_b24 (k24 : Int32 → Int32 → Mem → Option Int32) (l2 l3 : Int32) (u : Mem) : Option Int32 :=
  (S_len 15).bind fun x1 => (if x1 ≤ l3 then (FX12_is_146_5015_b67 l2 u) else ((if l2 = 0 then (FX12_is_146_5015_b67 l2 u) else ((rdA u 154 400 ((u 146 19) + l3)).bind fun x4 => (S_chr 15 l3).bind fun x5 => (if x4 = x5 then (FX12_is_146_5015_b60 k24 l3 1 u) else (FX12_is_146_5015_b60 k24 l3 0 u))))))
theorem bX12_is_146_5015_24 {G : Gt} {X : Xt} {v : Int32} {u : Mem} (hX : CxOk G X cX12_is 4 RX12 (some (.int v), SH, RHO, u) 7) (hR : CxRet G X (some .boolean) (some (.int v), SH, RHO, u)) {k24 : Int32 → Int32 → Mem → Option Int32} (hk24 : ∀ (l2 l3 : Int32), k24 l2 l3 u = some v → WM G X 24 [(0, .ref 146), (1, .ref 5015), (2, .int l2), (3, .int l3)] [] SH RHO u) (l2 l3 : Int32) (h : FX12_is_146_5015_b24 k24 l2 l3 u = some v) : WM G X 24 [(0, .ref 146), (1, .ref 5015), (2, .int l2), (3, .int l3)] [] SH RHO u := by
  unfold FX12_is_146_5015_b24 at h
  refine w_iload_n 3 24 hX rfl rfl dX12_is_24 ?_
  refine w_aload_n 1 25 hX rfl rfl dX12_is_25 ?_
  obtain ⟨x1, gx1, h⟩ := o_bind h
  refine w_S_len (i := 15) (st := [.int l3]) 26 hX ml_X12_89 gx1 (by decide) (by decide) (Nat.le_of_ble_eq_true rfl) dX12_is_26 ?_
  refine w_icmp_ge (tgt := 67) 29 hX dX12_is_29 (by decide) (fun c2 => ?_) (fun c2 => ?_)
  · have h := it h c2
    exact w_sub [2] rfl (bX12_is_146_5015_67 hX hR l2 h)
  · have h := ie h c2
    refine w_iload_n 2 32 hX rfl rfl dX12_is_32 ?_
    refine w_if_eq (tgt := 67) 33 hX dX12_is_33 (by decide) (fun c3 => ?_) (fun c3 => ?_)
    · have h := it h c3
      exact w_sub [2] rfl (bX12_is_146_5015_67 hX hR l2 h)
    · have h := ie h c3
      refine w_aload_n 0 36 hX rfl rfl dX12_is_36 ?_
      refine w_getR 37 hX CI_12 s_146 rfl r_146_9 fl_X12_31 rfl dX12_is_37 ?_
      refine w_aload_n 0 40 hX rfl rfl dX12_is_40 ?_
      refine w_getI (j := 19) 41 hX CI_12 s_146 rfl fl_X12_86 rfl dX12_is_41 ?_
      refine w_iload_n 3 44 hX rfl rfl dX12_is_44 ?_
      refine w_iadd 45 hX dX12_is_45 ?_
      obtain ⟨x4, gx4, h⟩ := o_bind h
      refine w_iald 46 hX s_154 gx4 dX12_is_46 ?_
      refine w_aload_n 1 47 hX rfl rfl dX12_is_47 ?_
      refine w_iload_n 3 48 hX rfl rfl dX12_is_48 ?_
      obtain ⟨x5, gx5, h⟩ := o_bind h
      refine w_S_chr (i := 15) (st := [.int x4]) 49 hX ml_X12_95 gx5 (by decide) (by decide) (Nat.le_of_ble_eq_true rfl) dX12_is_49 ?_
      refine w_icmp_ne (tgt := 59) 52 hX dX12_is_52 (by decide) (fun c6 => ?_) (fun c6 => ?_)
      · have h := ie h c6
        refine w_iconst 0 59 hX ic_0 dX12_is_59 ?_
        exact w_sub [0, 1, 3] rfl (bX12_is_146_5015_60 hX hR hk24 l3 0 h)
      · have h := it h c6
        refine w_iconst 1 55 hX ic_1 dX12_is_55 ?_
        refine w_goto (tgt := 60) 56 hX (by decide) dX12_is_56 ?_
        exact w_sub [0, 1, 3] rfl (bX12_is_146_5015_60 hX hR hk24 l3 1 h)
def FX12_is_146_5015_L24 : Nat → Int32 → Int32 → Mem → Option Int32
  | 0, _, _, _ => none
  | n + 1, l2, l3, u => FX12_is_146_5015_b24 (FX12_is_146_5015_L24 n) l2 l3 u
theorem lX12_is_146_5015_24 {G : Gt} {X : Xt} {v : Int32} {u : Mem} (hX : CxOk G X cX12_is 4 RX12 (some (.int v), SH, RHO, u) 7) (hR : CxRet G X (some .boolean) (some (.int v), SH, RHO, u)) : ∀ (n : Nat) (l2 l3 : Int32), FX12_is_146_5015_L24 n l2 l3 u = some v → WM G X 24 [(0, .ref 146), (1, .ref 5015), (2, .int l2), (3, .int l3)] [] SH RHO u := by
  intro n
  induction n with
  | zero =>
    intro l2 l3 h
    exact nn_ h
  | succ n ih =>
    intro l2 l3 h
    exact bX12_is_146_5015_24 hX hR ih l2 l3 h
def FX12_is_146_5015_b21 (t0 : Int32) (u : Mem) : Option Int32 :=
  FX12_is_146_5015_L24 FU t0 0 u
theorem bX12_is_146_5015_21 {G : Gt} {X : Xt} {v : Int32} {u : Mem} (hX : CxOk G X cX12_is 4 RX12 (some (.int v), SH, RHO, u) 7) (hR : CxRet G X (some .boolean) (some (.int v), SH, RHO, u)) (t0 : Int32) (h : FX12_is_146_5015_b21 t0 u = some v) : WM G X 21 [(0, .ref 146), (1, .ref 5015)] [.int t0] SH RHO u := by
  unfold FX12_is_146_5015_b21 at h
  refine w_istore_n (lv' := [(2, .int t0), (0, .ref 146), (1, .ref 5015)]) 21 hX rfl dX12_is_21 (by decide) rfl ?_
  refine w_iconst 0 22 hX ic_0 dX12_is_22 ?_
  refine w_istore_n (lv' := [(3, .int 0), (2, .int t0), (0, .ref 146), (1, .ref 5015)]) 23 hX rfl dX12_is_23 (by decide) rfl ?_
  exact w_sub [2, 3, 1, 0] rfl (lX12_is_146_5015_24 hX hR FU t0 0 h)
def FX12_is_146_5015 (u : Mem) : Option Int32 :=
  (S_len 15).bind fun x1 => (if ((u 146 17) - (u 146 19)) = x1 then (FX12_is_146_5015_b21 1 u) else (FX12_is_146_5015_b21 0 u))
theorem CX12_is_146_5015 {G : Gt} (u : Mem) {v : Int32} (h : FX12_is_146_5015 u = some v) : CT G yX12_is cX12_is 4 (some .boolean) 7 [.ref 146, .ref 5015] SH RHO u (some (.int v), SH, RHO, u) :=
  ct_of (by decide) rfl (Nat.le_of_ble_eq_true rfl) (Nat.le_refl _) (Nat.le_refl _) (fun X hX hR => by
  unfold FX12_is_146_5015 at h
  refine w_aload_n 0 0 hX rfl rfl dX12_is_0 ?_
  refine w_getI (j := 17) 1 hX CI_12 s_146 rfl fl_X12_83 rfl dX12_is_1 ?_
  refine w_aload_n 0 4 hX rfl rfl dX12_is_4 ?_
  refine w_getI (j := 19) 5 hX CI_12 s_146 rfl fl_X12_86 rfl dX12_is_5 ?_
  refine w_isub 8 hX dX12_is_8 ?_
  refine w_aload_n 1 9 hX rfl rfl dX12_is_9 ?_
  obtain ⟨x1, gx1, h⟩ := o_bind h
  refine w_S_len (i := 15) (st := [.int ((u 146 17) - (u 146 19))]) 10 hX ml_X12_89 gx1 (by decide) (by decide) (Nat.le_of_ble_eq_true rfl) dX12_is_10 ?_
  refine w_icmp_ne (tgt := 20) 13 hX dX12_is_13 (by decide) (fun c2 => ?_) (fun c2 => ?_)
  · have h := ie h c2
    refine w_iconst 0 20 hX ic_0 dX12_is_20 ?_
    exact bX12_is_146_5015_21 hX hR 0 h
  · have h := it h c2
    refine w_iconst 1 16 hX ic_1 dX12_is_16 ?_
    refine w_goto (tgt := 21) 17 hX (by decide) dX12_is_17 ?_
    exact bX12_is_146_5015_21 hX hR 1 h)
def FX12_is_146_5016_b67 (l2 : Int32) (u : Mem) : Option Int32 :=
  (bchk l2).bind fun x1 => some x1
theorem bX12_is_146_5016_67 {G : Gt} {X : Xt} {v : Int32} {u : Mem} (hX : CxOk G X cX12_is 4 RX12 (some (.int v), SH, RHO, u) 7) (hR : CxRet G X (some .boolean) (some (.int v), SH, RHO, u)) (l2 : Int32) (h : FX12_is_146_5016_b67 l2 u = some v) : WM G X 67 [(2, .int l2)] [] SH RHO u := by
  unfold FX12_is_146_5016_b67 at h
  refine w_iload_n 0 67 hX rfl rfl dX12_is_67 ?_
  obtain ⟨x1, gx1, h⟩ := o_bind h
  obtain ⟨jx1, nx1, mx1⟩ := bchk_ok gx1
  rw [jx1]
  exact w_zret 68 hX hR nx1 dX12_is_68 (by cases h; rfl)
def FX12_is_146_5016_b60 (k24 : Int32 → Int32 → Mem → Option Int32) (l3 t0 : Int32) (u : Mem) : Option Int32 :=
  k24 t0 (l3 + 1) u
theorem bX12_is_146_5016_60 {G : Gt} {X : Xt} {v : Int32} {u : Mem} (hX : CxOk G X cX12_is 4 RX12 (some (.int v), SH, RHO, u) 7) (hR : CxRet G X (some .boolean) (some (.int v), SH, RHO, u)) {k24 : Int32 → Int32 → Mem → Option Int32} (hk24 : ∀ (l2 l3 : Int32), k24 l2 l3 u = some v → WM G X 24 [(0, .ref 146), (1, .ref 5016), (2, .int l2), (3, .int l3)] [] SH RHO u) (l3 t0 : Int32) (h : FX12_is_146_5016_b60 k24 l3 t0 u = some v) : WM G X 60 [(0, .ref 146), (1, .ref 5016), (3, .int l3)] [.int t0] SH RHO u := by
  unfold FX12_is_146_5016_b60 at h
  refine w_istore_n (lv' := [(2, .int t0), (0, .ref 146), (1, .ref 5016), (3, .int l3)]) 60 hX rfl dX12_is_60 (by decide) rfl ?_
  refine w_iinc (lv' := [(3, .int (l3 + 1)), (2, .int t0), (0, .ref 146), (1, .ref 5016)]) 61 3 hX dX12_is_61 rfl (inc_1 _) (by decide) rfl ?_
  refine w_goto (tgt := 24) 64 hX (by decide) dX12_is_64 ?_
  exact w_sub [2, 3, 1, 0] rfl (hk24 t0 (l3 + 1) h)
def FX12_is_146_5016_b24 (k24 : Int32 → Int32 → Mem → Option Int32) (l2 l3 : Int32) (u : Mem) : Option Int32 :=
  (S_len 16).bind fun x1 => (if x1 ≤ l3 then (FX12_is_146_5016_b67 l2 u) else ((if l2 = 0 then (FX12_is_146_5016_b67 l2 u) else ((rdA u 154 400 ((u 146 19) + l3)).bind fun x4 => (S_chr 16 l3).bind fun x5 => (if x4 = x5 then (FX12_is_146_5016_b60 k24 l3 1 u) else (FX12_is_146_5016_b60 k24 l3 0 u))))))
theorem bX12_is_146_5016_24 {G : Gt} {X : Xt} {v : Int32} {u : Mem} (hX : CxOk G X cX12_is 4 RX12 (some (.int v), SH, RHO, u) 7) (hR : CxRet G X (some .boolean) (some (.int v), SH, RHO, u)) {k24 : Int32 → Int32 → Mem → Option Int32} (hk24 : ∀ (l2 l3 : Int32), k24 l2 l3 u = some v → WM G X 24 [(0, .ref 146), (1, .ref 5016), (2, .int l2), (3, .int l3)] [] SH RHO u) (l2 l3 : Int32) (h : FX12_is_146_5016_b24 k24 l2 l3 u = some v) : WM G X 24 [(0, .ref 146), (1, .ref 5016), (2, .int l2), (3, .int l3)] [] SH RHO u := by
  unfold FX12_is_146_5016_b24 at h
  refine w_iload_n 3 24 hX rfl rfl dX12_is_24 ?_
  refine w_aload_n 1 25 hX rfl rfl dX12_is_25 ?_
  obtain ⟨x1, gx1, h⟩ := o_bind h
  refine w_S_len (i := 16) (st := [.int l3]) 26 hX ml_X12_89 gx1 (by decide) (by decide) (Nat.le_of_ble_eq_true rfl) dX12_is_26 ?_
  refine w_icmp_ge (tgt := 67) 29 hX dX12_is_29 (by decide) (fun c2 => ?_) (fun c2 => ?_)
  · have h := it h c2
    exact w_sub [2] rfl (bX12_is_146_5016_67 hX hR l2 h)
  · have h := ie h c2
    refine w_iload_n 2 32 hX rfl rfl dX12_is_32 ?_
    refine w_if_eq (tgt := 67) 33 hX dX12_is_33 (by decide) (fun c3 => ?_) (fun c3 => ?_)
    · have h := it h c3
      exact w_sub [2] rfl (bX12_is_146_5016_67 hX hR l2 h)
    · have h := ie h c3
      refine w_aload_n 0 36 hX rfl rfl dX12_is_36 ?_
      refine w_getR 37 hX CI_12 s_146 rfl r_146_9 fl_X12_31 rfl dX12_is_37 ?_
      refine w_aload_n 0 40 hX rfl rfl dX12_is_40 ?_
      refine w_getI (j := 19) 41 hX CI_12 s_146 rfl fl_X12_86 rfl dX12_is_41 ?_
      refine w_iload_n 3 44 hX rfl rfl dX12_is_44 ?_
      refine w_iadd 45 hX dX12_is_45 ?_
      obtain ⟨x4, gx4, h⟩ := o_bind h
      refine w_iald 46 hX s_154 gx4 dX12_is_46 ?_
      refine w_aload_n 1 47 hX rfl rfl dX12_is_47 ?_
      refine w_iload_n 3 48 hX rfl rfl dX12_is_48 ?_
      obtain ⟨x5, gx5, h⟩ := o_bind h
      refine w_S_chr (i := 16) (st := [.int x4]) 49 hX ml_X12_95 gx5 (by decide) (by decide) (Nat.le_of_ble_eq_true rfl) dX12_is_49 ?_
      refine w_icmp_ne (tgt := 59) 52 hX dX12_is_52 (by decide) (fun c6 => ?_) (fun c6 => ?_)
      · have h := ie h c6
        refine w_iconst 0 59 hX ic_0 dX12_is_59 ?_
        exact w_sub [0, 1, 3] rfl (bX12_is_146_5016_60 hX hR hk24 l3 0 h)
      · have h := it h c6
        refine w_iconst 1 55 hX ic_1 dX12_is_55 ?_
        refine w_goto (tgt := 60) 56 hX (by decide) dX12_is_56 ?_
        exact w_sub [0, 1, 3] rfl (bX12_is_146_5016_60 hX hR hk24 l3 1 h)
def FX12_is_146_5016_L24 : Nat → Int32 → Int32 → Mem → Option Int32
  | 0, _, _, _ => none
  | n + 1, l2, l3, u => FX12_is_146_5016_b24 (FX12_is_146_5016_L24 n) l2 l3 u
theorem lX12_is_146_5016_24 {G : Gt} {X : Xt} {v : Int32} {u : Mem} (hX : CxOk G X cX12_is 4 RX12 (some (.int v), SH, RHO, u) 7) (hR : CxRet G X (some .boolean) (some (.int v), SH, RHO, u)) : ∀ (n : Nat) (l2 l3 : Int32), FX12_is_146_5016_L24 n l2 l3 u = some v → WM G X 24 [(0, .ref 146), (1, .ref 5016), (2, .int l2), (3, .int l3)] [] SH RHO u := by
  intro n
  induction n with
  | zero =>
    intro l2 l3 h
    exact nn_ h
  | succ n ih =>
    intro l2 l3 h
    exact bX12_is_146_5016_24 hX hR ih l2 l3 h
def FX12_is_146_5016_b21 (t0 : Int32) (u : Mem) : Option Int32 :=
  FX12_is_146_5016_L24 FU t0 0 u
theorem bX12_is_146_5016_21 {G : Gt} {X : Xt} {v : Int32} {u : Mem} (hX : CxOk G X cX12_is 4 RX12 (some (.int v), SH, RHO, u) 7) (hR : CxRet G X (some .boolean) (some (.int v), SH, RHO, u)) (t0 : Int32) (h : FX12_is_146_5016_b21 t0 u = some v) : WM G X 21 [(0, .ref 146), (1, .ref 5016)] [.int t0] SH RHO u := by
  unfold FX12_is_146_5016_b21 at h
  refine w_istore_n (lv' := [(2, .int t0), (0, .ref 146), (1, .ref 5016)]) 21 hX rfl dX12_is_21 (by decide) rfl ?_
  refine w_iconst 0 22 hX ic_0 dX12_is_22 ?_
  refine w_istore_n (lv' := [(3, .int 0), (2, .int t0), (0, .ref 146), (1, .ref 5016)]) 23 hX rfl dX12_is_23 (by decide) rfl ?_
  exact w_sub [2, 3, 1, 0] rfl (lX12_is_146_5016_24 hX hR FU t0 0 h)
def FX12_is_146_5016 (u : Mem) : Option Int32 :=
  (S_len 16).bind fun x1 => (if ((u 146 17) - (u 146 19)) = x1 then (FX12_is_146_5016_b21 1 u) else (FX12_is_146_5016_b21 0 u))
theorem CX12_is_146_5016 {G : Gt} (u : Mem) {v : Int32} (h : FX12_is_146_5016 u = some v) : CT G yX12_is cX12_is 4 (some .boolean) 7 [.ref 146, .ref 5016] SH RHO u (some (.int v), SH, RHO, u) :=
  ct_of (by decide) rfl (Nat.le_of_ble_eq_true rfl) (Nat.le_refl _) (Nat.le_refl _) (fun X hX hR => by
  unfold FX12_is_146_5016 at h
  refine w_aload_n 0 0 hX rfl rfl dX12_is_0 ?_
  refine w_getI (j := 17) 1 hX CI_12 s_146 rfl fl_X12_83 rfl dX12_is_1 ?_
  refine w_aload_n 0 4 hX rfl rfl dX12_is_4 ?_
  refine w_getI (j := 19) 5 hX CI_12 s_146 rfl fl_X12_86 rfl dX12_is_5 ?_
  refine w_isub 8 hX dX12_is_8 ?_
  refine w_aload_n 1 9 hX rfl rfl dX12_is_9 ?_
  obtain ⟨x1, gx1, h⟩ := o_bind h
  refine w_S_len (i := 16) (st := [.int ((u 146 17) - (u 146 19))]) 10 hX ml_X12_89 gx1 (by decide) (by decide) (Nat.le_of_ble_eq_true rfl) dX12_is_10 ?_
  refine w_icmp_ne (tgt := 20) 13 hX dX12_is_13 (by decide) (fun c2 => ?_) (fun c2 => ?_)
  · have h := ie h c2
    refine w_iconst 0 20 hX ic_0 dX12_is_20 ?_
    exact bX12_is_146_5016_21 hX hR 0 h
  · have h := it h c2
    refine w_iconst 1 16 hX ic_1 dX12_is_16 ?_
    refine w_goto (tgt := 21) 17 hX (by decide) dX12_is_17 ?_
    exact bX12_is_146_5016_21 hX hR 1 h)
def FX12_is_146_5017_b67 (l2 : Int32) (u : Mem) : Option Int32 :=
  (bchk l2).bind fun x1 => some x1
theorem bX12_is_146_5017_67 {G : Gt} {X : Xt} {v : Int32} {u : Mem} (hX : CxOk G X cX12_is 4 RX12 (some (.int v), SH, RHO, u) 7) (hR : CxRet G X (some .boolean) (some (.int v), SH, RHO, u)) (l2 : Int32) (h : FX12_is_146_5017_b67 l2 u = some v) : WM G X 67 [(2, .int l2)] [] SH RHO u := by
  unfold FX12_is_146_5017_b67 at h
  refine w_iload_n 0 67 hX rfl rfl dX12_is_67 ?_
  obtain ⟨x1, gx1, h⟩ := o_bind h
  obtain ⟨jx1, nx1, mx1⟩ := bchk_ok gx1
  rw [jx1]
  exact w_zret 68 hX hR nx1 dX12_is_68 (by cases h; rfl)
def FX12_is_146_5017_b60 (k24 : Int32 → Int32 → Mem → Option Int32) (l3 t0 : Int32) (u : Mem) : Option Int32 :=
  k24 t0 (l3 + 1) u
theorem bX12_is_146_5017_60 {G : Gt} {X : Xt} {v : Int32} {u : Mem} (hX : CxOk G X cX12_is 4 RX12 (some (.int v), SH, RHO, u) 7) (hR : CxRet G X (some .boolean) (some (.int v), SH, RHO, u)) {k24 : Int32 → Int32 → Mem → Option Int32} (hk24 : ∀ (l2 l3 : Int32), k24 l2 l3 u = some v → WM G X 24 [(0, .ref 146), (1, .ref 5017), (2, .int l2), (3, .int l3)] [] SH RHO u) (l3 t0 : Int32) (h : FX12_is_146_5017_b60 k24 l3 t0 u = some v) : WM G X 60 [(0, .ref 146), (1, .ref 5017), (3, .int l3)] [.int t0] SH RHO u := by
  unfold FX12_is_146_5017_b60 at h
  refine w_istore_n (lv' := [(2, .int t0), (0, .ref 146), (1, .ref 5017), (3, .int l3)]) 60 hX rfl dX12_is_60 (by decide) rfl ?_
  refine w_iinc (lv' := [(3, .int (l3 + 1)), (2, .int t0), (0, .ref 146), (1, .ref 5017)]) 61 3 hX dX12_is_61 rfl (inc_1 _) (by decide) rfl ?_
  refine w_goto (tgt := 24) 64 hX (by decide) dX12_is_64 ?_
  exact w_sub [2, 3, 1, 0] rfl (hk24 t0 (l3 + 1) h)
def FX12_is_146_5017_b24 (k24 : Int32 → Int32 → Mem → Option Int32) (l2 l3 : Int32) (u : Mem) : Option Int32 :=
  (S_len 17).bind fun x1 => (if x1 ≤ l3 then (FX12_is_146_5017_b67 l2 u) else ((if l2 = 0 then (FX12_is_146_5017_b67 l2 u) else ((rdA u 154 400 ((u 146 19) + l3)).bind fun x4 => (S_chr 17 l3).bind fun x5 => (if x4 = x5 then (FX12_is_146_5017_b60 k24 l3 1 u) else (FX12_is_146_5017_b60 k24 l3 0 u))))))
theorem bX12_is_146_5017_24 {G : Gt} {X : Xt} {v : Int32} {u : Mem} (hX : CxOk G X cX12_is 4 RX12 (some (.int v), SH, RHO, u) 7) (hR : CxRet G X (some .boolean) (some (.int v), SH, RHO, u)) {k24 : Int32 → Int32 → Mem → Option Int32} (hk24 : ∀ (l2 l3 : Int32), k24 l2 l3 u = some v → WM G X 24 [(0, .ref 146), (1, .ref 5017), (2, .int l2), (3, .int l3)] [] SH RHO u) (l2 l3 : Int32) (h : FX12_is_146_5017_b24 k24 l2 l3 u = some v) : WM G X 24 [(0, .ref 146), (1, .ref 5017), (2, .int l2), (3, .int l3)] [] SH RHO u := by
  unfold FX12_is_146_5017_b24 at h
  refine w_iload_n 3 24 hX rfl rfl dX12_is_24 ?_
  refine w_aload_n 1 25 hX rfl rfl dX12_is_25 ?_
  obtain ⟨x1, gx1, h⟩ := o_bind h
  refine w_S_len (i := 17) (st := [.int l3]) 26 hX ml_X12_89 gx1 (by decide) (by decide) (Nat.le_of_ble_eq_true rfl) dX12_is_26 ?_
  refine w_icmp_ge (tgt := 67) 29 hX dX12_is_29 (by decide) (fun c2 => ?_) (fun c2 => ?_)
  · have h := it h c2
    exact w_sub [2] rfl (bX12_is_146_5017_67 hX hR l2 h)
  · have h := ie h c2
    refine w_iload_n 2 32 hX rfl rfl dX12_is_32 ?_
    refine w_if_eq (tgt := 67) 33 hX dX12_is_33 (by decide) (fun c3 => ?_) (fun c3 => ?_)
    · have h := it h c3
      exact w_sub [2] rfl (bX12_is_146_5017_67 hX hR l2 h)
    · have h := ie h c3
      refine w_aload_n 0 36 hX rfl rfl dX12_is_36 ?_
      refine w_getR 37 hX CI_12 s_146 rfl r_146_9 fl_X12_31 rfl dX12_is_37 ?_
      refine w_aload_n 0 40 hX rfl rfl dX12_is_40 ?_
      refine w_getI (j := 19) 41 hX CI_12 s_146 rfl fl_X12_86 rfl dX12_is_41 ?_
      refine w_iload_n 3 44 hX rfl rfl dX12_is_44 ?_
      refine w_iadd 45 hX dX12_is_45 ?_
      obtain ⟨x4, gx4, h⟩ := o_bind h
      refine w_iald 46 hX s_154 gx4 dX12_is_46 ?_
      refine w_aload_n 1 47 hX rfl rfl dX12_is_47 ?_
      refine w_iload_n 3 48 hX rfl rfl dX12_is_48 ?_
      obtain ⟨x5, gx5, h⟩ := o_bind h
      refine w_S_chr (i := 17) (st := [.int x4]) 49 hX ml_X12_95 gx5 (by decide) (by decide) (Nat.le_of_ble_eq_true rfl) dX12_is_49 ?_
      refine w_icmp_ne (tgt := 59) 52 hX dX12_is_52 (by decide) (fun c6 => ?_) (fun c6 => ?_)
      · have h := ie h c6
        refine w_iconst 0 59 hX ic_0 dX12_is_59 ?_
        exact w_sub [0, 1, 3] rfl (bX12_is_146_5017_60 hX hR hk24 l3 0 h)
      · have h := it h c6
        refine w_iconst 1 55 hX ic_1 dX12_is_55 ?_
        refine w_goto (tgt := 60) 56 hX (by decide) dX12_is_56 ?_
        exact w_sub [0, 1, 3] rfl (bX12_is_146_5017_60 hX hR hk24 l3 1 h)
def FX12_is_146_5017_L24 : Nat → Int32 → Int32 → Mem → Option Int32
  | 0, _, _, _ => none
  | n + 1, l2, l3, u => FX12_is_146_5017_b24 (FX12_is_146_5017_L24 n) l2 l3 u
theorem lX12_is_146_5017_24 {G : Gt} {X : Xt} {v : Int32} {u : Mem} (hX : CxOk G X cX12_is 4 RX12 (some (.int v), SH, RHO, u) 7) (hR : CxRet G X (some .boolean) (some (.int v), SH, RHO, u)) : ∀ (n : Nat) (l2 l3 : Int32), FX12_is_146_5017_L24 n l2 l3 u = some v → WM G X 24 [(0, .ref 146), (1, .ref 5017), (2, .int l2), (3, .int l3)] [] SH RHO u := by
  intro n
  induction n with
  | zero =>
    intro l2 l3 h
    exact nn_ h
  | succ n ih =>
    intro l2 l3 h
    exact bX12_is_146_5017_24 hX hR ih l2 l3 h
def FX12_is_146_5017_b21 (t0 : Int32) (u : Mem) : Option Int32 :=
  FX12_is_146_5017_L24 FU t0 0 u
theorem bX12_is_146_5017_21 {G : Gt} {X : Xt} {v : Int32} {u : Mem} (hX : CxOk G X cX12_is 4 RX12 (some (.int v), SH, RHO, u) 7) (hR : CxRet G X (some .boolean) (some (.int v), SH, RHO, u)) (t0 : Int32) (h : FX12_is_146_5017_b21 t0 u = some v) : WM G X 21 [(0, .ref 146), (1, .ref 5017)] [.int t0] SH RHO u := by
  unfold FX12_is_146_5017_b21 at h
  refine w_istore_n (lv' := [(2, .int t0), (0, .ref 146), (1, .ref 5017)]) 21 hX rfl dX12_is_21 (by decide) rfl ?_
  refine w_iconst 0 22 hX ic_0 dX12_is_22 ?_
  refine w_istore_n (lv' := [(3, .int 0), (2, .int t0), (0, .ref 146), (1, .ref 5017)]) 23 hX rfl dX12_is_23 (by decide) rfl ?_
  exact w_sub [2, 3, 1, 0] rfl (lX12_is_146_5017_24 hX hR FU t0 0 h)
def FX12_is_146_5017 (u : Mem) : Option Int32 :=
  (S_len 17).bind fun x1 => (if ((u 146 17) - (u 146 19)) = x1 then (FX12_is_146_5017_b21 1 u) else (FX12_is_146_5017_b21 0 u))
theorem CX12_is_146_5017 {G : Gt} (u : Mem) {v : Int32} (h : FX12_is_146_5017 u = some v) : CT G yX12_is cX12_is 4 (some .boolean) 7 [.ref 146, .ref 5017] SH RHO u (some (.int v), SH, RHO, u) :=
  ct_of (by decide) rfl (Nat.le_of_ble_eq_true rfl) (Nat.le_refl _) (Nat.le_refl _) (fun X hX hR => by
  unfold FX12_is_146_5017 at h
  refine w_aload_n 0 0 hX rfl rfl dX12_is_0 ?_
  refine w_getI (j := 17) 1 hX CI_12 s_146 rfl fl_X12_83 rfl dX12_is_1 ?_
  refine w_aload_n 0 4 hX rfl rfl dX12_is_4 ?_
  refine w_getI (j := 19) 5 hX CI_12 s_146 rfl fl_X12_86 rfl dX12_is_5 ?_
  refine w_isub 8 hX dX12_is_8 ?_
  refine w_aload_n 1 9 hX rfl rfl dX12_is_9 ?_
  obtain ⟨x1, gx1, h⟩ := o_bind h
  refine w_S_len (i := 17) (st := [.int ((u 146 17) - (u 146 19))]) 10 hX ml_X12_89 gx1 (by decide) (by decide) (Nat.le_of_ble_eq_true rfl) dX12_is_10 ?_
  refine w_icmp_ne (tgt := 20) 13 hX dX12_is_13 (by decide) (fun c2 => ?_) (fun c2 => ?_)
  · have h := ie h c2
    refine w_iconst 0 20 hX ic_0 dX12_is_20 ?_
    exact bX12_is_146_5017_21 hX hR 0 h
  · have h := it h c2
    refine w_iconst 1 16 hX ic_1 dX12_is_16 ?_
    refine w_goto (tgt := 21) 17 hX (by decide) dX12_is_17 ?_
    exact bX12_is_146_5017_21 hX hR 1 h)
