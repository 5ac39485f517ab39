def FX3_halve_104_b41 (k2 : Int32 → Int32 → Mem → Option Mem) (l1 l2 : Int32) (u : Mem) : Option Mem :=
  k2 l1 (l2 + 1) u
theorem bX3_halve_104_41 {G : Gt} {X : Xt} {u' : Mem} (hX : CxOk G X cX3_halve 3 RX3 (none, SH, RHO, u') 3) (hR : CxRet G X none (none, SH, RHO, u')) {k2 : Int32 → Int32 → Mem → Option Mem} (hk2 : ∀ (l1 l2 : Int32) (u : Mem), k2 l1 l2 u = some u' → WM G X 2 [(0, .ref 104), (1, .int l1), (2, .int l2)] [] SH RHO u) (l1 l2 : Int32) (u : Mem) (h : FX3_halve_104_b41 k2 l1 l2 u = some u') : WM G X 41 [(0, .ref 104), (1, .int l1), (2, .int l2)] [] SH RHO u := by
  unfold FX3_halve_104_b41 at h
  refine w_iinc (lv' := [(2, .int (l2 + 1)), (0, .ref 104), (1, .int l1)]) 41 2 hX dX3_halve_41 rfl (inc_1 _) (by decide) rfl ?_
  refine w_goto (tgt := 2) 44 hX (by decide) dX3_halve_44 ?_
  exact w_sub [1, 2, 0] rfl (hk2 l1 (l2 + 1) u h)
def FX3_halve_104_b2 (k2 : Int32 → Int32 → Mem → Option Mem) (l1 l2 : Int32) (u : Mem) : Option Mem :=
  (if 12 ≤ l2 then (some u) else ((if (u 1 0) ≤ l2 then (some u) else ((FX3_isAt_104 l2 l1 u).bind fun x3 => (if x3 = 0 then (FX3_halve_104_b41 k2 l1 l2 u) else ((rdA u 98 12 l2).bind fun x5 => (dvI x5 2).bind fun x6 => (wrA u 98 12 l2 x6).bind fun u7 => FX3_halve_104_b41 k2 l1 l2 u7))))))
theorem bX3_halve_104_2 {G : Gt} {X : Xt} {u' : Mem} (hX : CxOk G X cX3_halve 3 RX3 (none, SH, RHO, u') 3) (hR : CxRet G X none (none, SH, RHO, u')) {k2 : Int32 → Int32 → Mem → Option Mem} (hk2 : ∀ (l1 l2 : Int32) (u : Mem), k2 l1 l2 u = some u' → WM G X 2 [(0, .ref 104), (1, .int l1), (2, .int l2)] [] SH RHO u) (l1 l2 : Int32) (u : Mem) (h : FX3_halve_104_b2 k2 l1 l2 u = some u') : WM G X 2 [(0, .ref 104), (1, .int l1), (2, .int l2)] [] SH RHO u := by
  unfold FX3_halve_104_b2 at h
  refine w_iload_n 2 2 hX rfl rfl dX3_halve_2 ?_
  refine w_bipush 12 3 hX ib_12 dX3_halve_3 ?_
  refine w_icmp_ge (tgt := 47) 5 hX dX3_halve_5 (by decide) (fun c1 => ?_) (fun c1 => ?_)
  · have h := it h c1
    exact w_vret 47 hX hR dX3_halve_47 (by cases h; rfl)
  · have h := ie h c1
    refine w_iload_n 2 8 hX rfl rfl dX3_halve_8 ?_
    refine w_aload_n 0 9 hX rfl rfl dX3_halve_9 ?_
    refine w_getR 10 hX CI_3 s_104 rfl r_104_0 fl_X3_17 rfl dX3_halve_10 ?_
    refine w_getI (j := 0) 13 hX CI_9 s_1 rfl fl_X3_123 rfl dX3_halve_13 ?_
    refine w_icmp_ge (tgt := 47) 16 hX dX3_halve_16 (by decide) (fun c2 => ?_) (fun c2 => ?_)
    · have h := it h c2
      exact w_vret 47 hX hR dX3_halve_47 (by cases h; rfl)
    · have h := ie h c2
      refine w_aload_n 0 19 hX rfl rfl dX3_halve_19 ?_
      refine w_iload_n 2 20 hX rfl rfl dX3_halve_20 ?_
      refine w_iload_n 1 21 hX rfl rfl dX3_halve_21 ?_
      obtain ⟨x3, gx3, h⟩ := o_bind h
      refine w_invVi (av := [.int l2, .int l1]) (st := []) 22 hX CI_3 s_104 rfl mv_yX3_isAt mi_yX3_isAt ml_X3_189 (CX3_isAt_104 l2 l1 u gx3) rfl (by decide) (Nat.le_of_ble_eq_true rfl) (Nat.le_refl _) (Nat.le_refl _) dX3_halve_22 ?_
      refine w_if_eq (tgt := 41) 25 hX dX3_halve_25 (by decide) (fun c4 => ?_) (fun c4 => ?_)
      · have h := it h c4
        exact bX3_halve_104_41 hX hR hk2 l1 l2 u h
      · have h := ie h c4
        refine w_aload_n 0 28 hX rfl rfl dX3_halve_28 ?_
        refine w_getR 29 hX CI_3 s_104 rfl r_104_1 fl_X3_21 rfl dX3_halve_29 ?_
        refine w_getR 32 hX CI_0 s_97 rfl r_97_0 fl_X3_82 rfl dX3_halve_32 ?_
        refine w_iload_n 2 35 hX rfl rfl dX3_halve_35 ?_
        refine w_dup2 36 hX rfl rfl dX3_halve_36 ?_
        obtain ⟨x5, gx5, h⟩ := o_bind h
        refine w_iald 37 hX s_98 gx5 dX3_halve_37 ?_
        refine w_iconst 2 38 hX ic_2 dX3_halve_38 ?_
        obtain ⟨x6, gx6, h⟩ := o_bind h
        obtain ⟨qx6, jx6⟩ := dvI_ok gx6
        refine w_idiv 39 hX qx6 dX3_halve_39 ?_
        rw [jx6]
        obtain ⟨u7, gu7, h⟩ := o_bind h
        refine w_iast 40 hX s_98 gu7 dX3_halve_40 ?_
        exact bX3_halve_104_41 hX hR hk2 l1 l2 u7 h
def FX3_halve_104_L2 : Nat → Int32 → Int32 → Mem → Option Mem
  | 0, _, _, _ => none
  | n + 1, l1, l2, u => FX3_halve_104_b2 (FX3_halve_104_L2 n) l1 l2 u
theorem lX3_halve_104_2 {G : Gt} {X : Xt} {u' : Mem} (hX : CxOk G X cX3_halve 3 RX3 (none, SH, RHO, u') 3) (hR : CxRet G X none (none, SH, RHO, u')) : ∀ (n : Nat) (l1 l2 : Int32) (u : Mem), FX3_halve_104_L2 n l1 l2 u = some u' → WM G X 2 [(0, .ref 104), (1, .int l1), (2, .int l2)] [] SH RHO u := by
  intro n
  induction n with
  | zero =>
    intro l1 l2 u h
    exact nn_ h
  | succ n ih =>
    intro l1 l2 u h
    exact bX3_halve_104_2 hX hR ih l1 l2 u h
def FX3_halve_104 (p1 : Int32) (u : Mem) : Option Mem :=
  FX3_halve_104_L2 FU p1 0 u
theorem CX3_halve_104 {G : Gt} (p1 : Int32) (u : Mem) {u' : Mem} (h : FX3_halve_104 p1 u = some u') : CT G yX3_halve cX3_halve 3 none 3 [.ref 104, .int p1] SH RHO u (none, SH, RHO, u') :=
  ct_of (by decide) rfl (Nat.le_of_ble_eq_true rfl) (Nat.le_refl _) (Nat.le_refl _) (fun X hX hR => by
  unfold FX3_halve_104 at h
  refine w_iconst 0 0 hX ic_0 dX3_halve_0 ?_
  refine w_istore_n (lv' := [(2, .int 0), (0, .ref 104), (1, .int p1)]) 1 hX rfl dX3_halve_1 (by decide) rfl ?_
  exact w_sub [1, 2, 0] rfl (lX3_halve_104_2 hX hR FU p1 0 u h))
def FX3_catchYoungest_104_b96 (l2 l3 : Int32) (u : Mem) : Option Mem :=
  (if l3 = (-1) then (some u) else ((wrA u 101 12 l3 2).bind fun u2 => (wrA u2 103 12 l3 (u2 97 7)).bind fun u3 => (some (mupd u3 104 6 ((u3 104 6) + 1))).bind fun u4 => (FX3_note_104 1 l3 l2 u4).bind fun u6 => some u6))
theorem bX3_catchYoungest_104_96 {G : Gt} {X : Xt} {u' : Mem} (hX : CxOk G X cX3_catchYoungest 6 RX3 (none, SH, RHO, u') 3) (hR : CxRet G X none (none, SH, RHO, u')) (l2 l3 : Int32) (u : Mem) (h : FX3_catchYoungest_104_b96 l2 l3 u = some u') : WM G X 96 [(0, .ref 104), (2, .int l2), (3, .int l3)] [] SH RHO u := by
  unfold FX3_catchYoungest_104_b96 at h
  refine w_iload_n 2 96 hX rfl rfl dX3_catchYoungest_96 ?_
  refine w_iconst (-1) 97 hX ic_m1 dX3_catchYoungest_97 ?_
  refine w_icmp_eq (tgt := 144) 98 hX dX3_catchYoungest_98 (by decide) (fun c1 => ?_) (fun c1 => ?_)
  · have h := it h c1
    exact w_vret 144 hX hR dX3_catchYoungest_144 (by cases h; rfl)
  · have h := ie h c1
    refine w_aload_n 0 101 hX rfl rfl dX3_catchYoungest_101 ?_
    refine w_getR 102 hX CI_3 s_104 rfl r_104_1 fl_X3_21 rfl dX3_catchYoungest_102 ?_
    refine w_getR 105 hX CI_0 s_97 rfl r_97_3 fl_X3_70 rfl dX3_catchYoungest_105 ?_
    refine w_iload_n 2 108 hX rfl rfl dX3_catchYoungest_108 ?_
    refine w_iconst 2 109 hX ic_2 dX3_catchYoungest_109 ?_
    obtain ⟨u2, gu2, h⟩ := o_bind h
    refine w_iast 110 hX s_101 gu2 dX3_catchYoungest_110 ?_
    refine w_aload_n 0 111 hX rfl rfl dX3_catchYoungest_111 ?_
    refine w_getR 112 hX CI_3 s_104 rfl r_104_1 fl_X3_21 rfl dX3_catchYoungest_112 ?_
    refine w_getR 115 hX CI_0 s_97 rfl r_97_5 fl_X3_192 rfl dX3_catchYoungest_115 ?_
    refine w_iload_n 2 118 hX rfl rfl dX3_catchYoungest_118 ?_
    refine w_aload_n 0 119 hX rfl rfl dX3_catchYoungest_119 ?_
    refine w_getR 120 hX CI_3 s_104 rfl r_104_1 fl_X3_21 rfl dX3_catchYoungest_120 ?_
    refine w_getI (j := 7) 123 hX CI_0 s_97 rfl fl_X3_52 rfl dX3_catchYoungest_123 ?_
    obtain ⟨u3, gu3, h⟩ := o_bind h
    refine w_iast 126 hX s_103 gu3 dX3_catchYoungest_126 ?_
    refine w_aload_n 0 127 hX rfl rfl dX3_catchYoungest_127 ?_
    refine w_dup 128 hX rfl dX3_catchYoungest_128 ?_
    refine w_getI (j := 6) 129 hX CI_3 s_104 rfl fl_X3_195 rfl dX3_catchYoungest_129 ?_
    refine w_iconst 1 132 hX ic_1 dX3_catchYoungest_132 ?_
    refine w_iadd 133 hX dX3_catchYoungest_133 ?_
    obtain ⟨u4, gu4, h⟩ := o_bind h
    refine w_putI (j := 6) 134 hX CI_3 s_104 rfl fl_X3_195 rfl rfl rfl rfl dX3_catchYoungest_134 ?_
    rw [Option.some.inj gu4]
    refine w_aload_n 0 137 hX rfl rfl dX3_catchYoungest_137 ?_
    refine w_iconst 1 138 hX ic_1 dX3_catchYoungest_138 ?_
    refine w_iload_n 2 139 hX rfl rfl dX3_catchYoungest_139 ?_
    refine w_iload_n 1 140 hX rfl rfl dX3_catchYoungest_140 ?_
    obtain ⟨u6, gu6, h⟩ := o_bind h
    refine w_invVv (av := [.int 1, .int l3, .int l2]) (st := []) 141 hX CI_3 s_104 rfl mv_yX3_note mi_yX3_note ml_X3_153 (CX3_note_104 1 l3 l2 u4 gu6) rfl (by decide) (Nat.le_of_ble_eq_true rfl) (Nat.le_refl _) (Nat.le_refl _) dX3_catchYoungest_141 ?_
    exact w_vret 144 hX hR dX3_catchYoungest_144 (by cases h; rfl)
def FX3_catchYoungest_104_b90 (k5 : Int32 → Int32 → Int32 → Int32 → Mem → Option Mem) (l1 l2 l3 l4 : Int32) (u : Mem) : Option Mem :=
  k5 l1 l2 l3 (l4 + 1) u
theorem bX3_catchYoungest_104_90 {G : Gt} {X : Xt} {u' : Mem} (hX : CxOk G X cX3_catchYoungest 6 RX3 (none, SH, RHO, u') 3) (hR : CxRet G X none (none, SH, RHO, u')) {k5 : Int32 → Int32 → Int32 → Int32 → Mem → Option Mem} (hk5 : ∀ (l1 l2 l3 l4 : Int32) (u : Mem), k5 l1 l2 l3 l4 u = some u' → WM G X 5 [(0, .ref 104), (1, .int l1), (2, .int l2), (3, .int l3), (4, .int l4)] [] SH RHO u) (l1 l2 l3 l4 : Int32) (u : Mem) (h : FX3_catchYoungest_104_b90 k5 l1 l2 l3 l4 u = some u') : WM G X 90 [(0, .ref 104), (1, .int l1), (2, .int l2), (3, .int l3), (4, .int l4)] [] SH RHO u := by
  unfold FX3_catchYoungest_104_b90 at h
  refine w_iinc (lv' := [(4, .int (l4 + 1)), (0, .ref 104), (1, .int l1), (2, .int l2), (3, .int l3)]) 90 4 hX dX3_catchYoungest_90 rfl (inc_1 _) (by decide) rfl ?_
  refine w_goto (tgt := 5) 93 hX (by decide) dX3_catchYoungest_93 ?_
  exact w_sub [1, 2, 3, 4, 0] rfl (hk5 l1 l2 l3 (l4 + 1) u h)
def FX3_catchYoungest_104_b87 (k5 : Int32 → Int32 → Int32 → Int32 → Mem → Option Mem) (l1 l2 l4 : Int32) (u : Mem) : Option Mem :=
  FX3_catchYoungest_104_b90 k5 l1 l2 l4 l4 u
theorem bX3_catchYoungest_104_87 {G : Gt} {X : Xt} {u' : Mem} (hX : CxOk G X cX3_catchYoungest 6 RX3 (none, SH, RHO, u') 3) (hR : CxRet G X none (none, SH, RHO, u')) {k5 : Int32 → Int32 → Int32 → Int32 → Mem → Option Mem} (hk5 : ∀ (l1 l2 l3 l4 : Int32) (u : Mem), k5 l1 l2 l3 l4 u = some u' → WM G X 5 [(0, .ref 104), (1, .int l1), (2, .int l2), (3, .int l3), (4, .int l4)] [] SH RHO u) (l1 l2 l4 : Int32) (u : Mem) (h : FX3_catchYoungest_104_b87 k5 l1 l2 l4 u = some u') : WM G X 87 [(0, .ref 104), (1, .int l1), (2, .int l2), (4, .int l4)] [] SH RHO u := by
  unfold FX3_catchYoungest_104_b87 at h
  refine w_iload 3 87 hX rfl dX3_catchYoungest_87 ?_
  refine w_istore_n (lv' := [(3, .int l4), (0, .ref 104), (1, .int l1), (2, .int l2), (4, .int l4)]) 89 hX rfl dX3_catchYoungest_89 (by decide) rfl ?_
  exact w_sub [1, 2, 3, 0, 4] rfl (bX3_catchYoungest_104_90 hX hR hk5 l1 l2 l4 l4 u h)
def FX3_catchYoungest_104_b53 (k5 : Int32 → Int32 → Int32 → Int32 → Mem → Option Mem) (l1 l2 l3 l4 t0 : Int32) (u : Mem) : Option Mem :=
  (if t0 = 0 then (FX3_catchYoungest_104_b90 k5 l1 l2 l3 l4 u) else ((if l3 = (-1) then (FX3_catchYoungest_104_b87 k5 l1 l2 l4 u) else ((rdA u 3 12 l4).bind fun x3 => (rdA u 3 12 l3).bind fun x4 => (if x4 ≤ x3 then (FX3_catchYoungest_104_b90 k5 l1 l2 l3 l4 u) else (FX3_catchYoungest_104_b87 k5 l1 l2 l4 u))))))
theorem bX3_catchYoungest_104_53 {G : Gt} {X : Xt} {u' : Mem} (hX : CxOk G X cX3_catchYoungest 6 RX3 (none, SH, RHO, u') 3) (hR : CxRet G X none (none, SH, RHO, u')) {k5 : Int32 → Int32 → Int32 → Int32 → Mem → Option Mem} (hk5 : ∀ (l1 l2 l3 l4 : Int32) (u : Mem), k5 l1 l2 l3 l4 u = some u' → WM G X 5 [(0, .ref 104), (1, .int l1), (2, .int l2), (3, .int l3), (4, .int l4)] [] SH RHO u) (l1 l2 l3 l4 t0 : Int32) (u : Mem) (h : FX3_catchYoungest_104_b53 k5 l1 l2 l3 l4 t0 u = some u') : WM G X 53 [(0, .ref 104), (1, .int l1), (2, .int l2), (3, .int l3), (4, .int l4)] [.int t0] SH RHO u := by
  unfold FX3_catchYoungest_104_b53 at h
  refine w_istore (lv' := [(5, .int t0), (0, .ref 104), (1, .int l1), (2, .int l2), (3, .int l3), (4, .int l4)]) 53 hX dX3_catchYoungest_53 (by decide) rfl ?_
  refine w_iload 0 55 hX rfl dX3_catchYoungest_55 ?_
  refine w_if_eq (tgt := 90) 57 hX dX3_catchYoungest_57 (by decide) (fun c1 => ?_) (fun c1 => ?_)
  · have h := it h c1
    exact w_sub [1, 2, 3, 4, 5] rfl (bX3_catchYoungest_104_90 hX hR hk5 l1 l2 l3 l4 u h)
  · have h := ie h c1
    refine w_iload_n 4 60 hX rfl rfl dX3_catchYoungest_60 ?_
    refine w_iconst (-1) 61 hX ic_m1 dX3_catchYoungest_61 ?_
    refine w_icmp_eq (tgt := 87) 62 hX dX3_catchYoungest_62 (by decide) (fun c2 => ?_) (fun c2 => ?_)
    · have h := it h c2
      exact w_sub [1, 2, 3, 5] rfl (bX3_catchYoungest_104_87 hX hR hk5 l1 l2 l4 u h)
    · have h := ie h c2
      refine w_aload_n 1 65 hX rfl rfl dX3_catchYoungest_65 ?_
      refine w_getR 66 hX CI_3 s_104 rfl r_104_0 fl_X3_17 rfl dX3_catchYoungest_66 ?_
      refine w_getR 69 hX CI_9 s_1 rfl r_1_2 fl_X3_76 rfl dX3_catchYoungest_69 ?_
      refine w_iload 5 72 hX rfl dX3_catchYoungest_72 ?_
      obtain ⟨x3, gx3, h⟩ := o_bind h
      refine w_iald 74 hX s_3 gx3 dX3_catchYoungest_74 ?_
      refine w_aload_n 1 75 hX rfl rfl dX3_catchYoungest_75 ?_
      refine w_getR 76 hX CI_3 s_104 rfl r_104_0 fl_X3_17 rfl dX3_catchYoungest_76 ?_
      refine w_getR 79 hX CI_9 s_1 rfl r_1_2 fl_X3_76 rfl dX3_catchYoungest_79 ?_
      refine w_iload_n 4 82 hX rfl rfl dX3_catchYoungest_82 ?_
      obtain ⟨x4, gx4, h⟩ := o_bind h
      refine w_iald 83 hX s_3 gx4 dX3_catchYoungest_83 ?_
      refine w_icmp_ge (tgt := 90) 84 hX dX3_catchYoungest_84 (by decide) (fun c5 => ?_) (fun c5 => ?_)
      · have h := it h c5
        exact w_sub [1, 2, 3, 4, 5] rfl (bX3_catchYoungest_104_90 hX hR hk5 l1 l2 l3 l4 u h)
      · have h := ie h c5
        exact w_sub [1, 2, 3, 5] rfl (bX3_catchYoungest_104_87 hX hR hk5 l1 l2 l4 u h)
def FX3_catchYoungest_104_b5 (k5 : Int32 → Int32 → Int32 → Int32 → Mem → Option Mem) (l1 l2 l3 l4 : Int32) (u : Mem) : Option Mem :=
  (if 12 ≤ l4 then (FX3_catchYoungest_104_b96 l2 l3 u) else ((if (u 1 0) ≤ l4 then (FX3_catchYoungest_104_b96 l2 l3 u) else ((rdA u 2 12 l4).bind fun x3 => (if x3 = l1 then ((FX3_isAt_104 l4 l2 u).bind fun x5 => (if x5 = 0 then (FX3_catchYoungest_104_b53 k5 l1 l2 l3 l4 0 u) else (FX3_catchYoungest_104_b53 k5 l1 l2 l3 l4 1 u))) else (FX3_catchYoungest_104_b53 k5 l1 l2 l3 l4 0 u))))))
theorem bX3_catchYoungest_104_5 {G : Gt} {X : Xt} {u' : Mem} (hX : CxOk G X cX3_catchYoungest 6 RX3 (none, SH, RHO, u') 3) (hR : CxRet G X none (none, SH, RHO, u')) {k5 : Int32 → Int32 → Int32 → Int32 → Mem → Option Mem} (hk5 : ∀ (l1 l2 l3 l4 : Int32) (u : Mem), k5 l1 l2 l3 l4 u = some u' → WM G X 5 [(0, .ref 104), (1, .int l1), (2, .int l2), (3, .int l3), (4, .int l4)] [] SH RHO u) (l1 l2 l3 l4 : Int32) (u : Mem) (h : FX3_catchYoungest_104_b5 k5 l1 l2 l3 l4 u = some u') : WM G X 5 [(0, .ref 104), (1, .int l1), (2, .int l2), (3, .int l3), (4, .int l4)] [] SH RHO u := by
  unfold FX3_catchYoungest_104_b5 at h
  refine w_iload 4 5 hX rfl dX3_catchYoungest_5 ?_
  refine w_bipush 12 7 hX ib_12 dX3_catchYoungest_7 ?_
  refine w_icmp_ge (tgt := 96) 9 hX dX3_catchYoungest_9 (by decide) (fun c1 => ?_) (fun c1 => ?_)
  · have h := it h c1
    exact w_sub [0, 2, 3] rfl (bX3_catchYoungest_104_96 hX hR l2 l3 u h)
  · have h := ie h c1
    refine w_iload 4 12 hX rfl dX3_catchYoungest_12 ?_
    refine w_aload_n 0 14 hX rfl rfl dX3_catchYoungest_14 ?_
    refine w_getR 15 hX CI_3 s_104 rfl r_104_0 fl_X3_17 rfl dX3_catchYoungest_15 ?_
    refine w_getI (j := 0) 18 hX CI_9 s_1 rfl fl_X3_123 rfl dX3_catchYoungest_18 ?_
    refine w_icmp_ge (tgt := 96) 21 hX dX3_catchYoungest_21 (by decide) (fun c2 => ?_) (fun c2 => ?_)
    · have h := it h c2
      exact w_sub [0, 2, 3] rfl (bX3_catchYoungest_104_96 hX hR l2 l3 u h)
    · have h := ie h c2
      refine w_aload_n 0 24 hX rfl rfl dX3_catchYoungest_24 ?_
      refine w_getR 25 hX CI_3 s_104 rfl r_104_0 fl_X3_17 rfl dX3_catchYoungest_25 ?_
      refine w_getR 28 hX CI_9 s_1 rfl r_1_1 fl_X3_73 rfl dX3_catchYoungest_28 ?_
      refine w_iload 4 31 hX rfl dX3_catchYoungest_31 ?_
      obtain ⟨x3, gx3, h⟩ := o_bind h
      refine w_iald 33 hX s_2 gx3 dX3_catchYoungest_33 ?_
      refine w_iload_n 1 34 hX rfl rfl dX3_catchYoungest_34 ?_
      refine w_icmp_ne (tgt := 52) 35 hX dX3_catchYoungest_35 (by decide) (fun c4 => ?_) (fun c4 => ?_)
      · have h := ie h c4
        refine w_iconst 0 52 hX ic_0 dX3_catchYoungest_52 ?_
        exact bX3_catchYoungest_104_53 hX hR hk5 l1 l2 l3 l4 0 u h
      · have h := it h c4
        refine w_aload_n 0 38 hX rfl rfl dX3_catchYoungest_38 ?_
        refine w_iload 4 39 hX rfl dX3_catchYoungest_39 ?_
        refine w_iload_n 2 41 hX rfl rfl dX3_catchYoungest_41 ?_
        obtain ⟨x5, gx5, h⟩ := o_bind h
        refine w_invVi (av := [.int l4, .int l2]) (st := []) 42 hX CI_3 s_104 rfl mv_yX3_isAt mi_yX3_isAt ml_X3_189 (CX3_isAt_104 l4 l2 u gx5) rfl (by decide) (Nat.le_of_ble_eq_true rfl) (Nat.le_refl _) (Nat.le_refl _) dX3_catchYoungest_42 ?_
        refine w_if_eq (tgt := 52) 45 hX dX3_catchYoungest_45 (by decide) (fun c6 => ?_) (fun c6 => ?_)
        · have h := it h c6
          refine w_iconst 0 52 hX ic_0 dX3_catchYoungest_52 ?_
          exact bX3_catchYoungest_104_53 hX hR hk5 l1 l2 l3 l4 0 u h
        · have h := ie h c6
          refine w_iconst 1 48 hX ic_1 dX3_catchYoungest_48 ?_
          refine w_goto (tgt := 53) 49 hX (by decide) dX3_catchYoungest_49 ?_
          exact bX3_catchYoungest_104_53 hX hR hk5 l1 l2 l3 l4 1 u h
def FX3_catchYoungest_104_L5 : Nat → Int32 → Int32 → Int32 → Int32 → Mem → Option Mem
  | 0, _, _, _, _, _ => none
  | n + 1, l1, l2, l3, l4, u => FX3_catchYoungest_104_b5 (FX3_catchYoungest_104_L5 n) l1 l2 l3 l4 u
theorem lX3_catchYoungest_104_5 {G : Gt} {X : Xt} {u' : Mem} (hX : CxOk G X cX3_catchYoungest 6 RX3 (none, SH, RHO, u') 3) (hR : CxRet G X none (none, SH, RHO, u')) : ∀ (n : Nat) (l1 l2 l3 l4 : Int32) (u : Mem), FX3_catchYoungest_104_L5 n l1 l2 l3 l4 u = some u' → WM G X 5 [(0, .ref 104), (1, .int l1), (2, .int l2), (3, .int l3), (4, .int l4)] [] SH RHO u := by
  intro n
  induction n with
  | zero =>
    intro l1 l2 l3 l4 u h
    exact nn_ h
  | succ n ih =>
    intro l1 l2 l3 l4 u h
    exact bX3_catchYoungest_104_5 hX hR ih l1 l2 l3 l4 u h
def FX3_catchYoungest_104 (p1 p2 : Int32) (u : Mem) : Option Mem :=
  FX3_catchYoungest_104_L5 FU p1 p2 (-1) 0 u
theorem CX3_catchYoungest_104 {G : Gt} (p1 p2 : Int32) (u : Mem) {u' : Mem} (h : FX3_catchYoungest_104 p1 p2 u = some u') : CT G yX3_catchYoungest cX3_catchYoungest 6 none 3 [.ref 104, .int p1, .int p2] SH RHO u (none, SH, RHO, u') :=
  ct_of (by decide) rfl (Nat.le_of_ble_eq_true rfl) (Nat.le_refl _) (Nat.le_refl _) (fun X hX hR => by
  unfold FX3_catchYoungest_104 at h
  refine w_iconst (-1) 0 hX ic_m1 dX3_catchYoungest_0 ?_
  refine w_istore_n (lv' := [(3, .int (-1)), (0, .ref 104), (1, .int p1), (2, .int p2)]) 1 hX rfl dX3_catchYoungest_1 (by decide) rfl ?_
  refine w_iconst 0 2 hX ic_0 dX3_catchYoungest_2 ?_
  refine w_istore (lv' := [(4, .int 0), (3, .int (-1)), (0, .ref 104), (1, .int p1), (2, .int p2)]) 3 hX dX3_catchYoungest_3 (by decide) rfl ?_
  exact w_sub [2, 3, 4, 1, 0] rfl (lX3_catchYoungest_104_5 hX hR FU p1 p2 (-1) 0 u h))
def FX3_beat_104_b102 (k2 : Int32 → Int32 → Int32 → Mem → Option Mem) (l1 l2 l3 : Int32) (u : Mem) : Option Mem :=
  k2 l1 l2 (l3 + 1) u
theorem bX3_beat_104_102 {G : Gt} {X : Xt} {u' : Mem} (hX : CxOk G X cX3_beat 4 RX3 (none, SH, RHO, u') 3) (hR : CxRet G X none (none, SH, RHO, u')) {k2 : Int32 → Int32 → Int32 → Mem → Option Mem} (hk2 : ∀ (l1 l2 l3 : Int32) (u : Mem), k2 l1 l2 l3 u = some u' → WM G X 2 [(0, .ref 104), (1, .int l1), (2, .int l2), (3, .int l3)] [] SH RHO u) (l1 l2 l3 : Int32) (u : Mem) (h : FX3_beat_104_b102 k2 l1 l2 l3 u = some u') : WM G X 102 [(0, .ref 104), (1, .int l1), (2, .int l2), (3, .int l3)] [] SH RHO u := by
  unfold FX3_beat_104_b102 at h
  refine w_iinc (lv' := [(3, .int (l3 + 1)), (0, .ref 104), (1, .int l1), (2, .int l2)]) 102 3 hX dX3_beat_102 rfl (inc_1 _) (by decide) rfl ?_
  refine w_goto (tgt := 2) 105 hX (by decide) dX3_beat_105 ?_
  exact w_sub [1, 2, 3, 0] rfl (hk2 l1 l2 (l3 + 1) u h)
def FX3_beat_104_b2 (k2 : Int32 → Int32 → Int32 → Mem → Option Mem) (l1 l2 l3 : Int32) (u : Mem) : Option Mem :=
  (if 12 ≤ l3 then (some u) else ((if (u 1 0) ≤ l3 then (some u) else ((FX3_isAt_104 l3 l2 u).bind fun x3 => (if x3 = 0 then (FX3_beat_104_b102 k2 l1 l2 l3 u) else ((rdA u 2 12 l3).bind fun x5 => (if x5 = l1 then ((wrA u 101 12 l3 0).bind fun u7 => (rdA u7 98 12 l3).bind fun x8 => (dvI x8 2).bind fun x9 => (wrA u7 98 12 l3 x9).bind fun u10 => (FX3_note_104 2 l3 l2 u10).bind fun u12 => FX3_beat_104_b102 k2 l1 l2 l3 u12) else ((rdA u 98 12 l3).bind fun x13 => (wrA u 98 12 l3 (if 0 < (x13 - 10) then (x13 - 10) else 0)).bind fun u14 => FX3_beat_104_b102 k2 l1 l2 l3 u14))))))))
theorem bX3_beat_104_2 {G : Gt} {X : Xt} {u' : Mem} (hX : CxOk G X cX3_beat 4 RX3 (none, SH, RHO, u') 3) (hR : CxRet G X none (none, SH, RHO, u')) {k2 : Int32 → Int32 → Int32 → Mem → Option Mem} (hk2 : ∀ (l1 l2 l3 : Int32) (u : Mem), k2 l1 l2 l3 u = some u' → WM G X 2 [(0, .ref 104), (1, .int l1), (2, .int l2), (3, .int l3)] [] SH RHO u) (l1 l2 l3 : Int32) (u : Mem) (h : FX3_beat_104_b2 k2 l1 l2 l3 u = some u') : WM G X 2 [(0, .ref 104), (1, .int l1), (2, .int l2), (3, .int l3)] [] SH RHO u := by
  unfold FX3_beat_104_b2 at h
  refine w_iload_n 3 2 hX rfl rfl dX3_beat_2 ?_
  refine w_bipush 12 3 hX ib_12 dX3_beat_3 ?_
  refine w_icmp_ge (tgt := 108) 5 hX dX3_beat_5 (by decide) (fun c1 => ?_) (fun c1 => ?_)
  · have h := it h c1
    exact w_vret 108 hX hR dX3_beat_108 (by cases h; rfl)
  · have h := ie h c1
    refine w_iload_n 3 8 hX rfl rfl dX3_beat_8 ?_
    refine w_aload_n 0 9 hX rfl rfl dX3_beat_9 ?_
    refine w_getR 10 hX CI_3 s_104 rfl r_104_0 fl_X3_17 rfl dX3_beat_10 ?_
    refine w_getI (j := 0) 13 hX CI_9 s_1 rfl fl_X3_123 rfl dX3_beat_13 ?_
    refine w_icmp_ge (tgt := 108) 16 hX dX3_beat_16 (by decide) (fun c2 => ?_) (fun c2 => ?_)
    · have h := it h c2
      exact w_vret 108 hX hR dX3_beat_108 (by cases h; rfl)
    · have h := ie h c2
      refine w_aload_n 0 19 hX rfl rfl dX3_beat_19 ?_
      refine w_iload_n 3 20 hX rfl rfl dX3_beat_20 ?_
      refine w_iload_n 2 21 hX rfl rfl dX3_beat_21 ?_
      obtain ⟨x3, gx3, h⟩ := o_bind h
      refine w_invVi (av := [.int l3, .int l2]) (st := []) 22 hX CI_3 s_104 rfl mv_yX3_isAt mi_yX3_isAt ml_X3_189 (CX3_isAt_104 l3 l2 u gx3) rfl (by decide) (Nat.le_of_ble_eq_true rfl) (Nat.le_refl _) (Nat.le_refl _) dX3_beat_22 ?_
      refine w_if_ne (tgt := 31) 25 hX dX3_beat_25 (by decide) (fun c4 => ?_) (fun c4 => ?_)
      · have h := ie h c4
        refine w_aload_n 0 31 hX rfl rfl dX3_beat_31 ?_
        refine w_getR 32 hX CI_3 s_104 rfl r_104_0 fl_X3_17 rfl dX3_beat_32 ?_
        refine w_getR 35 hX CI_9 s_1 rfl r_1_1 fl_X3_73 rfl dX3_beat_35 ?_
        refine w_iload_n 3 38 hX rfl rfl dX3_beat_38 ?_
        obtain ⟨x5, gx5, h⟩ := o_bind h
        refine w_iald 39 hX s_2 gx5 dX3_beat_39 ?_
        refine w_iload_n 1 40 hX rfl rfl dX3_beat_40 ?_
        refine w_icmp_eq (tgt := 72) 41 hX dX3_beat_41 (by decide) (fun c6 => ?_) (fun c6 => ?_)
        · have h := it h c6
          refine w_aload_n 0 72 hX rfl rfl dX3_beat_72 ?_
          refine w_getR 73 hX CI_3 s_104 rfl r_104_1 fl_X3_21 rfl dX3_beat_73 ?_
          refine w_getR 76 hX CI_0 s_97 rfl r_97_3 fl_X3_70 rfl dX3_beat_76 ?_
          refine w_iload_n 3 79 hX rfl rfl dX3_beat_79 ?_
          refine w_iconst 0 80 hX ic_0 dX3_beat_80 ?_
          obtain ⟨u7, gu7, h⟩ := o_bind h
          refine w_iast 81 hX s_101 gu7 dX3_beat_81 ?_
          refine w_aload_n 0 82 hX rfl rfl dX3_beat_82 ?_
          refine w_getR 83 hX CI_3 s_104 rfl r_104_1 fl_X3_21 rfl dX3_beat_83 ?_
          refine w_getR 86 hX CI_0 s_97 rfl r_97_0 fl_X3_82 rfl dX3_beat_86 ?_
          refine w_iload_n 3 89 hX rfl rfl dX3_beat_89 ?_
          refine w_dup2 90 hX rfl rfl dX3_beat_90 ?_
          obtain ⟨x8, gx8, h⟩ := o_bind h
          refine w_iald 91 hX s_98 gx8 dX3_beat_91 ?_
          refine w_iconst 2 92 hX ic_2 dX3_beat_92 ?_
          obtain ⟨x9, gx9, h⟩ := o_bind h
          obtain ⟨qx9, jx9⟩ := dvI_ok gx9
          refine w_idiv 93 hX qx9 dX3_beat_93 ?_
          rw [jx9]
          obtain ⟨u10, gu10, h⟩ := o_bind h
          refine w_iast 94 hX s_98 gu10 dX3_beat_94 ?_
          refine w_aload_n 0 95 hX rfl rfl dX3_beat_95 ?_
          refine w_iconst 2 96 hX ic_2 dX3_beat_96 ?_
          refine w_iload_n 3 97 hX rfl rfl dX3_beat_97 ?_
          refine w_iload_n 2 98 hX rfl rfl dX3_beat_98 ?_
          obtain ⟨u12, gu12, h⟩ := o_bind h
          refine w_invVv (av := [.int 2, .int l3, .int l2]) (st := []) 99 hX CI_3 s_104 rfl mv_yX3_note mi_yX3_note ml_X3_153 (CX3_note_104 2 l3 l2 u10 gu12) rfl (by decide) (Nat.le_of_ble_eq_true rfl) (Nat.le_refl _) (Nat.le_refl _) dX3_beat_99 ?_
          exact bX3_beat_104_102 hX hR hk2 l1 l2 l3 u12 h
        · have h := ie h c6
          refine w_aload_n 0 44 hX rfl rfl dX3_beat_44 ?_
          refine w_getR 45 hX CI_3 s_104 rfl r_104_1 fl_X3_21 rfl dX3_beat_45 ?_
          refine w_getR 48 hX CI_0 s_97 rfl r_97_0 fl_X3_82 rfl dX3_beat_48 ?_
          refine w_iload_n 3 51 hX rfl rfl dX3_beat_51 ?_
          refine w_iconst 0 52 hX ic_0 dX3_beat_52 ?_
          refine w_aload_n 0 53 hX rfl rfl dX3_beat_53 ?_
          refine w_getR 54 hX CI_3 s_104 rfl r_104_1 fl_X3_21 rfl dX3_beat_54 ?_
          refine w_getR 57 hX CI_0 s_97 rfl r_97_0 fl_X3_82 rfl dX3_beat_57 ?_
          refine w_iload_n 3 60 hX rfl rfl dX3_beat_60 ?_
          obtain ⟨x13, gx13, h⟩ := o_bind h
          refine w_iald 61 hX s_98 gx13 dX3_beat_61 ?_
          refine w_bipush 10 62 hX ib_10 dX3_beat_62 ?_
          refine w_isub 64 hX dX3_beat_64 ?_
          refine w_max 65 hX ml_X3_120 jm_max_s jm_i jm_max_c (by decide) (Nat.le_of_ble_eq_true rfl) (Nat.le_refl _) (Nat.le_refl _) dX3_beat_65 ?_
          obtain ⟨u14, gu14, h⟩ := o_bind h
          refine w_iast 68 hX s_98 gu14 dX3_beat_68 ?_
          refine w_goto (tgt := 102) 69 hX (by decide) dX3_beat_69 ?_
          exact bX3_beat_104_102 hX hR hk2 l1 l2 l3 u14 h
      · have h := it h c4
        refine w_goto (tgt := 102) 28 hX (by decide) dX3_beat_28 ?_
        exact bX3_beat_104_102 hX hR hk2 l1 l2 l3 u h
def FX3_beat_104_L2 : Nat → Int32 → Int32 → Int32 → Mem → Option Mem
  | 0, _, _, _, _ => none
  | n + 1, l1, l2, l3, u => FX3_beat_104_b2 (FX3_beat_104_L2 n) l1 l2 l3 u
theorem lX3_beat_104_2 {G : Gt} {X : Xt} {u' : Mem} (hX : CxOk G X cX3_beat 4 RX3 (none, SH, RHO, u') 3) (hR : CxRet G X none (none, SH, RHO, u')) : ∀ (n : Nat) (l1 l2 l3 : Int32) (u : Mem), FX3_beat_104_L2 n l1 l2 l3 u = some u' → WM G X 2 [(0, .ref 104), (1, .int l1), (2, .int l2), (3, .int l3)] [] SH RHO u := by
  intro n
  induction n with
  | zero =>
    intro l1 l2 l3 u h
    exact nn_ h
  | succ n ih =>
    intro l1 l2 l3 u h
    exact bX3_beat_104_2 hX hR ih l1 l2 l3 u h
def FX3_beat_104 (p1 p2 : Int32) (u : Mem) : Option Mem :=
  FX3_beat_104_L2 FU p1 p2 0 u
theorem CX3_beat_104 {G : Gt} (p1 p2 : Int32) (u : Mem) {u' : Mem} (h : FX3_beat_104 p1 p2 u = some u') : CT G yX3_beat cX3_beat 4 none 3 [.ref 104, .int p1, .int p2] SH RHO u (none, SH, RHO, u') :=
  ct_of (by decide) rfl (Nat.le_of_ble_eq_true rfl) (Nat.le_refl _) (Nat.le_refl _) (fun X hX hR => by
  unfold FX3_beat_104 at h
  refine w_iconst 0 0 hX ic_0 dX3_beat_0 ?_
  refine w_istore_n (lv' := [(3, .int 0), (0, .ref 104), (1, .int p1), (2, .int p2)]) 1 hX rfl dX3_beat_1 (by decide) rfl ?_
  exact w_sub [1, 2, 3, 0] rfl (lX3_beat_104_2 hX hR FU p1 p2 0 u h))
def FX3_fight_104_b85 (k14 : Int32 → Int32 → Mem → Option Mem) (l1 l2 : Int32) (u : Mem) : Option Mem :=
  k14 l1 (l2 + 1) u
theorem bX3_fight_104_85 {G : Gt} {X : Xt} {u' : Mem} (hX : CxOk G X cX3_fight 4 RX3 (none, SH, RHO, u') 4) (hR : CxRet G X none (none, SH, RHO, u')) {k14 : Int32 → Int32 → Mem → Option Mem} (hk14 : ∀ (l1 l2 : Int32) (u : Mem), k14 l1 l2 u = some u' → WM G X 14 [(0, .ref 104), (1, .int l1), (2, .int l2)] [] SH RHO u) (l1 l2 : Int32) (u : Mem) (h : FX3_fight_104_b85 k14 l1 l2 u = some u') : WM G X 85 [(0, .ref 104), (1, .int l1), (2, .int l2)] [] SH RHO u := by
  unfold FX3_fight_104_b85 at h
  refine w_iinc (lv' := [(2, .int (l2 + 1)), (0, .ref 104), (1, .int l1)]) 85 2 hX dX3_fight_85 rfl (inc_1 _) (by decide) rfl ?_
  refine w_goto (tgt := 14) 88 hX (by decide) dX3_fight_88 ?_
  exact w_sub [1, 2, 0] rfl (hk14 l1 (l2 + 1) u h)
def FX3_fight_104_b81 (k14 : Int32 → Int32 → Mem → Option Mem) (l1 l2 t1 : Int32) (u : Mem) : Option Mem :=
  (FX3_beat_104 t1 l2 u).bind fun u2 => FX3_fight_104_b85 k14 l1 l2 u2
theorem bX3_fight_104_81 {G : Gt} {X : Xt} {u' : Mem} (hX : CxOk G X cX3_fight 4 RX3 (none, SH, RHO, u') 4) (hR : CxRet G X none (none, SH, RHO, u')) {k14 : Int32 → Int32 → Mem → Option Mem} (hk14 : ∀ (l1 l2 : Int32) (u : Mem), k14 l1 l2 u = some u' → WM G X 14 [(0, .ref 104), (1, .int l1), (2, .int l2)] [] SH RHO u) (l1 l2 t1 : Int32) (u : Mem) (h : FX3_fight_104_b81 k14 l1 l2 t1 u = some u') : WM G X 81 [(0, .ref 104), (1, .int l1), (2, .int l2)] [.int t1, .ref 104] SH RHO u := by
  unfold FX3_fight_104_b81 at h
  refine w_iload_n 2 81 hX rfl rfl dX3_fight_81 ?_
  obtain ⟨u2, gu2, h⟩ := o_bind h
  refine w_invVv (av := [.int t1, .int l2]) (st := []) 82 hX CI_3 s_104 rfl mv_yX3_beat mi_yX3_beat ml_X3_186 (CX3_beat_104 t1 l2 u gu2) rfl (by decide) (Nat.le_of_ble_eq_true rfl) (Nat.le_refl _) (Nat.le_refl _) dX3_fight_82 ?_
  exact bX3_fight_104_85 hX hR hk14 l1 l2 u2 h
def FX3_fight_104_b67 (k14 : Int32 → Int32 → Mem → Option Mem) (l1 l2 l3 t1 : Int32) (u : Mem) : Option Mem :=
  (FX3_catchYoungest_104 t1 l2 u).bind fun u2 => (if 0 ≤ l3 then (FX3_fight_104_b81 k14 l1 l2 1 u2) else (FX3_fight_104_b81 k14 l1 l2 0 u2))
theorem bX3_fight_104_67 {G : Gt} {X : Xt} {u' : Mem} (hX : CxOk G X cX3_fight 4 RX3 (none, SH, RHO, u') 4) (hR : CxRet G X none (none, SH, RHO, u')) {k14 : Int32 → Int32 → Mem → Option Mem} (hk14 : ∀ (l1 l2 : Int32) (u : Mem), k14 l1 l2 u = some u' → WM G X 14 [(0, .ref 104), (1, .int l1), (2, .int l2)] [] SH RHO u) (l1 l2 l3 t1 : Int32) (u : Mem) (h : FX3_fight_104_b67 k14 l1 l2 l3 t1 u = some u') : WM G X 67 [(0, .ref 104), (1, .int l1), (2, .int l2), (3, .int l3)] [.int t1, .ref 104] SH RHO u := by
  unfold FX3_fight_104_b67 at h
  refine w_iload_n 2 67 hX rfl rfl dX3_fight_67 ?_
  obtain ⟨u2, gu2, h⟩ := o_bind h
  refine w_invVv (av := [.int t1, .int l2]) (st := []) 68 hX CI_3 s_104 rfl mv_yX3_catchYoungest mi_yX3_catchYoungest ml_X3_183 (CX3_catchYoungest_104 t1 l2 u gu2) rfl (by decide) (Nat.le_of_ble_eq_true rfl) (Nat.le_refl _) (Nat.le_refl _) dX3_fight_68 ?_
  refine w_aload_n 0 71 hX rfl rfl dX3_fight_71 ?_
  refine w_iload_n 3 72 hX rfl rfl dX3_fight_72 ?_
  refine w_if_ge (tgt := 80) 73 hX dX3_fight_73 (by decide) (fun c3 => ?_) (fun c3 => ?_)
  · have h := it h c3
    refine w_iconst 1 80 hX ic_1 dX3_fight_80 ?_
    exact w_sub [0, 1, 2] rfl (bX3_fight_104_81 hX hR hk14 l1 l2 1 u2 h)
  · have h := ie h c3
    refine w_iconst 0 76 hX ic_0 dX3_fight_76 ?_
    refine w_goto (tgt := 81) 77 hX (by decide) dX3_fight_77 ?_
    exact w_sub [0, 1, 2] rfl (bX3_fight_104_81 hX hR hk14 l1 l2 0 u2 h)
def FX3_fight_104_b14 (k14 : Int32 → Int32 → Mem → Option Mem) (l1 l2 : Int32) (u : Mem) : Option Mem :=
  (if 16 ≤ l2 then (some u) else ((FX11_holds l1 l2).bind fun x2 => (if x2 = 0 then (FX3_fight_104_b85 k14 l1 l2 u) else ((FX3_breathAt_104 0 l2 u).bind fun x4 => (FX3_breathAt_104 1 l2 u).bind fun x5 => (if (x4 - x5) = 0 then ((FX3_halve_104 l2 u).bind fun u9 => FX3_fight_104_b85 k14 l1 l2 u9) else ((if 0 ≤ (x4 - x5) then (FX3_fight_104_b67 k14 l1 l2 (x4 - x5) 1 u) else (FX3_fight_104_b67 k14 l1 l2 (x4 - x5) 0 u))))))))
theorem bX3_fight_104_14 {G : Gt} {X : Xt} {u' : Mem} (hX : CxOk G X cX3_fight 4 RX3 (none, SH, RHO, u') 4) (hR : CxRet G X none (none, SH, RHO, u')) {k14 : Int32 → Int32 → Mem → Option Mem} (hk14 : ∀ (l1 l2 : Int32) (u : Mem), k14 l1 l2 u = some u' → WM G X 14 [(0, .ref 104), (1, .int l1), (2, .int l2)] [] SH RHO u) (l1 l2 : Int32) (u : Mem) (h : FX3_fight_104_b14 k14 l1 l2 u = some u') : WM G X 14 [(0, .ref 104), (1, .int l1), (2, .int l2)] [] SH RHO u := by
  unfold FX3_fight_104_b14 at h
  refine w_iload_n 2 14 hX rfl rfl dX3_fight_14 ?_
  refine w_bipush 16 15 hX ib_16 dX3_fight_15 ?_
  refine w_icmp_ge (tgt := 91) 17 hX dX3_fight_17 (by decide) (fun c1 => ?_) (fun c1 => ?_)
  · have h := it h c1
    exact w_vret 91 hX hR dX3_fight_91 (by cases h; rfl)
  · have h := ie h c1
    refine w_iload_n 1 20 hX rfl rfl dX3_fight_20 ?_
    refine w_iload_n 2 21 hX rfl rfl dX3_fight_21 ?_
    obtain ⟨x2, gx2, h⟩ := o_bind h
    refine w_invSNi (av := [.int l1, .int l2]) (st := []) 22 hX ms_yX11_holds mi_yX11_holds ml_X3_174 (CX11_holds l1 l2 u gx2) rfl (by decide) (Nat.le_of_ble_eq_true rfl) (Nat.le_refl _) (Nat.le_refl _) dX3_fight_22 ?_
    refine w_if_ne (tgt := 31) 25 hX dX3_fight_25 (by decide) (fun c3 => ?_) (fun c3 => ?_)
    · have h := ie h c3
      refine w_aload_n 0 31 hX rfl rfl dX3_fight_31 ?_
      refine w_iconst 0 32 hX ic_0 dX3_fight_32 ?_
      refine w_iload_n 2 33 hX rfl rfl dX3_fight_33 ?_
      obtain ⟨x4, gx4, h⟩ := o_bind h
      refine w_invVi (av := [.int 0, .int l2]) (st := []) 34 hX CI_3 s_104 rfl mv_yX3_breathAt mi_yX3_breathAt ml_X3_177 (CX3_breathAt_104 0 l2 u gx4) rfl (by decide) (Nat.le_of_ble_eq_true rfl) (Nat.le_refl _) (Nat.le_refl _) dX3_fight_34 ?_
      refine w_aload_n 0 37 hX rfl rfl dX3_fight_37 ?_
      refine w_iconst 1 38 hX ic_1 dX3_fight_38 ?_
      refine w_iload_n 2 39 hX rfl rfl dX3_fight_39 ?_
      obtain ⟨x5, gx5, h⟩ := o_bind h
      refine w_invVi (av := [.int 1, .int l2]) (st := [.int x4]) 40 hX CI_3 s_104 rfl mv_yX3_breathAt mi_yX3_breathAt ml_X3_177 (CX3_breathAt_104 1 l2 u gx5) rfl (by decide) (Nat.le_of_ble_eq_true rfl) (Nat.le_refl _) (Nat.le_refl _) dX3_fight_40 ?_
      refine w_isub 43 hX dX3_fight_43 ?_
      refine w_istore_n (lv' := [(3, .int (x4 - x5)), (0, .ref 104), (1, .int l1), (2, .int l2)]) 44 hX rfl dX3_fight_44 (by decide) rfl ?_
      refine w_iload_n 0 45 hX rfl rfl dX3_fight_45 ?_
      refine w_if_ne (tgt := 57) 46 hX dX3_fight_46 (by decide) (fun c6 => ?_) (fun c6 => ?_)
      · have h := ie h c6
        refine w_aload_n 1 57 hX rfl rfl dX3_fight_57 ?_
        refine w_iload_n 0 58 hX rfl rfl dX3_fight_58 ?_
        refine w_if_ge (tgt := 66) 59 hX dX3_fight_59 (by decide) (fun c7 => ?_) (fun c7 => ?_)
        · have h := it h c7
          refine w_iconst 1 66 hX ic_1 dX3_fight_66 ?_
          exact w_sub [1, 2, 3, 0] rfl (bX3_fight_104_67 hX hR hk14 l1 l2 (x4 - x5) 1 u h)
        · have h := ie h c7
          refine w_iconst 0 62 hX ic_0 dX3_fight_62 ?_
          refine w_goto (tgt := 67) 63 hX (by decide) dX3_fight_63 ?_
          exact w_sub [1, 2, 3, 0] rfl (bX3_fight_104_67 hX hR hk14 l1 l2 (x4 - x5) 0 u h)
      · have h := it h c6
        refine w_aload_n 1 49 hX rfl rfl dX3_fight_49 ?_
        refine w_iload_n 3 50 hX rfl rfl dX3_fight_50 ?_
        obtain ⟨u9, gu9, h⟩ := o_bind h
        refine w_invVv (av := [.int l2]) (st := []) 51 hX CI_3 s_104 rfl mv_yX3_halve mi_yX3_halve ml_X3_180 (CX3_halve_104 l2 u gu9) rfl (by decide) (Nat.le_of_ble_eq_true rfl) (Nat.le_refl _) (Nat.le_refl _) dX3_fight_51 ?_
        refine w_goto (tgt := 85) 54 hX (by decide) dX3_fight_54 ?_
        exact w_sub [1, 2, 3] rfl (bX3_fight_104_85 hX hR hk14 l1 l2 u9 h)
    · have h := it h c3
      refine w_goto (tgt := 85) 28 hX (by decide) dX3_fight_28 ?_
      exact bX3_fight_104_85 hX hR hk14 l1 l2 u h
def FX3_fight_104_L14 : Nat → Int32 → Int32 → Mem → Option Mem
  | 0, _, _, _ => none
  | n + 1, l1, l2, u => FX3_fight_104_b14 (FX3_fight_104_L14 n) l1 l2 u
theorem lX3_fight_104_14 {G : Gt} {X : Xt} {u' : Mem} (hX : CxOk G X cX3_fight 4 RX3 (none, SH, RHO, u') 4) (hR : CxRet G X none (none, SH, RHO, u')) : ∀ (n : Nat) (l1 l2 : Int32) (u : Mem), FX3_fight_104_L14 n l1 l2 u = some u' → WM G X 14 [(0, .ref 104), (1, .int l1), (2, .int l2)] [] SH RHO u := by
  intro n
  induction n with
  | zero =>
    intro l1 l2 u h
    exact nn_ h
  | succ n ih =>
    intro l1 l2 u h
    exact bX3_fight_104_14 hX hR ih l1 l2 u h
def FX3_fight_104 (u : Mem) : Option Mem :=
  (FX3_cellsOf_104 0 u).bind fun x1 => (FX3_cellsOf_104 1 u).bind fun x2 => FX3_fight_104_L14 FU (x1 &&& x2) 0 u
theorem CX3_fight_104 {G : Gt} (u : Mem) {u' : Mem} (h : FX3_fight_104 u = some u') : CT G yX3_fight cX3_fight 4 none 4 [.ref 104] SH RHO u (none, SH, RHO, u') :=
  ct_of (by decide) rfl (Nat.le_of_ble_eq_true rfl) (Nat.le_refl _) (Nat.le_refl _) (fun X hX hR => by
  unfold FX3_fight_104 at h
  refine w_aload_n 0 0 hX rfl rfl dX3_fight_0 ?_
  refine w_iconst 0 1 hX ic_0 dX3_fight_1 ?_
  obtain ⟨x1, gx1, h⟩ := o_bind h
  refine w_invVi (av := [.int 0]) (st := []) 2 hX CI_3 s_104 rfl mv_yX3_cellsOf mi_yX3_cellsOf ml_X3_171 (CX3_cellsOf_104 0 u gx1) rfl (by decide) (Nat.le_of_ble_eq_true rfl) (Nat.le_refl _) (Nat.le_refl _) dX3_fight_2 ?_
  refine w_aload_n 0 5 hX rfl rfl dX3_fight_5 ?_
  refine w_iconst 1 6 hX ic_1 dX3_fight_6 ?_
  obtain ⟨x2, gx2, h⟩ := o_bind h
  refine w_invVi (av := [.int 1]) (st := [.int x1]) 7 hX CI_3 s_104 rfl mv_yX3_cellsOf mi_yX3_cellsOf ml_X3_171 (CX3_cellsOf_104 1 u gx2) rfl (by decide) (Nat.le_of_ble_eq_true rfl) (Nat.le_refl _) (Nat.le_refl _) dX3_fight_7 ?_
  refine w_iand 10 hX dX3_fight_10 ?_
  refine w_istore_n (lv' := [(1, .int (x1 &&& x2)), (0, .ref 104)]) 11 hX rfl dX3_fight_11 (by decide) rfl ?_
  refine w_iconst 0 12 hX ic_0 dX3_fight_12 ?_
  refine w_istore_n (lv' := [(2, .int 0), (1, .int (x1 &&& x2)), (0, .ref 104)]) 13 hX rfl dX3_fight_13 (by decide) rfl ?_
  exact w_sub [2, 1, 0] rfl (lX3_fight_104_14 hX hR FU (x1 &&& x2) 0 u h))
def FX3_arrive_104_b66 (u : Mem) : Option Mem :=
  (some (mupd u 97 6 0)).bind fun u1 => some u1
theorem bX3_arrive_104_66 {G : Gt} {X : Xt} {u' : Mem} (hX : CxOk G X cX3_arrive 4 RX3 (none, SH, RHO, u') 2) (hR : CxRet G X none (none, SH, RHO, u')) (u : Mem) (h : FX3_arrive_104_b66 u = some u') : WM G X 66 [(0, .ref 104)] [] SH RHO u := by
  unfold FX3_arrive_104_b66 at h
  refine w_aload_n 0 66 hX rfl rfl dX3_arrive_66 ?_
  refine w_getR 67 hX CI_3 s_104 rfl r_104_1 fl_X3_21 rfl dX3_arrive_67 ?_
  refine w_iconst 0 70 hX ic_0 dX3_arrive_70 ?_
  obtain ⟨u1, gu1, h⟩ := o_bind h
  refine w_putI (j := 6) 71 hX CI_0 s_97 rfl fl_X3_33 rfl rfl rfl rfl dX3_arrive_71 ?_
  rw [Option.some.inj gu1]
  exact w_vret 74 hX hR dX3_arrive_74 (by cases h; rfl)
def FX3_arrive_104_b39 (l1 l2 t0 : Int32) (u : Mem) : Option Mem :=
  (if t0 = 0 then ((FX11_endOf 0).bind fun x2 => (FX11_holds l2 x2).bind fun x3 => (if x3 = 0 then (some u) else ((FX11_endOf 0).bind fun x5 => (FX11_holds l1 x5).bind fun x6 => (if x6 = 0 then (FX3_arrive_104_b66 u) else (some u))))) else (FX3_arrive_104_b66 u))
theorem bX3_arrive_104_39 {G : Gt} {X : Xt} {u' : Mem} (hX : CxOk G X cX3_arrive 4 RX3 (none, SH, RHO, u') 2) (hR : CxRet G X none (none, SH, RHO, u')) (l1 l2 t0 : Int32) (u : Mem) (h : FX3_arrive_104_b39 l1 l2 t0 u = some u') : WM G X 39 [(0, .ref 104), (1, .int l1), (2, .int l2)] [.int t0] SH RHO u := by
  unfold FX3_arrive_104_b39 at h
  refine w_istore_n (lv' := [(3, .int t0), (0, .ref 104), (1, .int l1), (2, .int l2)]) 39 hX rfl dX3_arrive_39 (by decide) rfl ?_
  refine w_iload_n 0 40 hX rfl rfl dX3_arrive_40 ?_
  refine w_if_ne (tgt := 66) 41 hX dX3_arrive_41 (by decide) (fun c1 => ?_) (fun c1 => ?_)
  · have h := ie h c1
    exact w_sub [1] rfl (bX3_arrive_104_66 hX hR u h)
  · have h := it h c1
    refine w_iload_n 3 44 hX rfl rfl dX3_arrive_44 ?_
    refine w_iconst 0 45 hX ic_0 dX3_arrive_45 ?_
    obtain ⟨x2, gx2, h⟩ := o_bind h
    refine w_invSNi (av := [.int 0]) (st := [.int l2]) 46 hX ms_yX11_endOf mi_yX11_endOf ml_X3_150 (CX11_endOf 0 u gx2) rfl (by decide) (Nat.le_of_ble_eq_true rfl) (Nat.le_refl _) (Nat.le_refl _) dX3_arrive_46 ?_
    obtain ⟨x3, gx3, h⟩ := o_bind h
    refine w_invSNi (av := [.int l2, .int x2]) (st := []) 49 hX ms_yX11_holds mi_yX11_holds ml_X3_174 (CX11_holds l2 x2 u gx3) rfl (by decide) (Nat.le_of_ble_eq_true rfl) (Nat.le_refl _) (Nat.le_refl _) dX3_arrive_49 ?_
    refine w_if_eq (tgt := 74) 52 hX dX3_arrive_52 (by decide) (fun c4 => ?_) (fun c4 => ?_)
    · have h := it h c4
      exact w_vret 74 hX hR dX3_arrive_74 (by cases h; rfl)
    · have h := ie h c4
      refine w_iload_n 2 55 hX rfl rfl dX3_arrive_55 ?_
      refine w_iconst 0 56 hX ic_0 dX3_arrive_56 ?_
      obtain ⟨x5, gx5, h⟩ := o_bind h
      refine w_invSNi (av := [.int 0]) (st := [.int l1]) 57 hX ms_yX11_endOf mi_yX11_endOf ml_X3_150 (CX11_endOf 0 u gx5) rfl (by decide) (Nat.le_of_ble_eq_true rfl) (Nat.le_refl _) (Nat.le_refl _) dX3_arrive_57 ?_
      obtain ⟨x6, gx6, h⟩ := o_bind h
      refine w_invSNi (av := [.int l1, .int x5]) (st := []) 60 hX ms_yX11_holds mi_yX11_holds ml_X3_174 (CX11_holds l1 x5 u gx6) rfl (by decide) (Nat.le_of_ble_eq_true rfl) (Nat.le_refl _) (Nat.le_refl _) dX3_arrive_60 ?_
      refine w_if_ne (tgt := 74) 63 hX dX3_arrive_63 (by decide) (fun c7 => ?_) (fun c7 => ?_)
      · have h := ie h c7
        exact w_vret 74 hX hR dX3_arrive_74 (by cases h; rfl)
      · have h := it h c7
        exact w_sub [1] rfl (bX3_arrive_104_66 hX hR u h)
def FX3_arrive_104 (u : Mem) : Option Mem :=
  (FX3_cellsOf_104 0 u).bind fun x1 => (FX3_cellsOf_104 1 u).bind fun x2 => (FX11_endOf 1).bind fun x3 => (FX11_holds x1 x3).bind fun x4 => (if x4 = 0 then (FX3_arrive_104_b39 x1 x2 0 u) else ((FX11_endOf 1).bind fun x6 => (FX11_holds x2 x6).bind fun x7 => (if x7 = 0 then (FX3_arrive_104_b39 x1 x2 1 u) else (FX3_arrive_104_b39 x1 x2 0 u))))
theorem CX3_arrive_104 {G : Gt} (u : Mem) {u' : Mem} (h : FX3_arrive_104 u = some u') : CT G yX3_arrive cX3_arrive 4 none 2 [.ref 104] SH RHO u (none, SH, RHO, u') :=
  ct_of (by decide) rfl (Nat.le_of_ble_eq_true rfl) (Nat.le_refl _) (Nat.le_refl _) (fun X hX hR => by
  unfold FX3_arrive_104 at h
  refine w_aload_n 0 0 hX rfl rfl dX3_arrive_0 ?_
  refine w_iconst 0 1 hX ic_0 dX3_arrive_1 ?_
  obtain ⟨x1, gx1, h⟩ := o_bind h
  refine w_invVi (av := [.int 0]) (st := []) 2 hX CI_3 s_104 rfl mv_yX3_cellsOf mi_yX3_cellsOf ml_X3_171 (CX3_cellsOf_104 0 u gx1) rfl (by decide) (Nat.le_of_ble_eq_true rfl) (Nat.le_refl _) (Nat.le_refl _) dX3_arrive_2 ?_
  refine w_istore_n (lv' := [(1, .int x1), (0, .ref 104)]) 5 hX rfl dX3_arrive_5 (by decide) rfl ?_
  refine w_aload_n 1 6 hX rfl rfl dX3_arrive_6 ?_
  refine w_iconst 1 7 hX ic_1 dX3_arrive_7 ?_
  obtain ⟨x2, gx2, h⟩ := o_bind h
  refine w_invVi (av := [.int 1]) (st := []) 8 hX CI_3 s_104 rfl mv_yX3_cellsOf mi_yX3_cellsOf ml_X3_171 (CX3_cellsOf_104 1 u gx2) rfl (by decide) (Nat.le_of_ble_eq_true rfl) (Nat.le_refl _) (Nat.le_refl _) dX3_arrive_8 ?_
  refine w_istore_n (lv' := [(2, .int x2), (1, .int x1), (0, .ref 104)]) 11 hX rfl dX3_arrive_11 (by decide) rfl ?_
  refine w_iload_n 1 12 hX rfl rfl dX3_arrive_12 ?_
  refine w_iconst 1 13 hX ic_1 dX3_arrive_13 ?_
  obtain ⟨x3, gx3, h⟩ := o_bind h
  refine w_invSNi (av := [.int 1]) (st := [.int x1]) 14 hX ms_yX11_endOf mi_yX11_endOf ml_X3_150 (CX11_endOf 1 u gx3) rfl (by decide) (Nat.le_of_ble_eq_true rfl) (Nat.le_refl _) (Nat.le_refl _) dX3_arrive_14 ?_
  obtain ⟨x4, gx4, h⟩ := o_bind h
  refine w_invSNi (av := [.int x1, .int x3]) (st := []) 17 hX ms_yX11_holds mi_yX11_holds ml_X3_174 (CX11_holds x1 x3 u gx4) rfl (by decide) (Nat.le_of_ble_eq_true rfl) (Nat.le_refl _) (Nat.le_refl _) dX3_arrive_17 ?_
  refine w_if_eq (tgt := 38) 20 hX dX3_arrive_20 (by decide) (fun c5 => ?_) (fun c5 => ?_)
  · have h := it h c5
    refine w_iconst 0 38 hX ic_0 dX3_arrive_38 ?_
    exact w_sub [2, 1, 0] rfl (bX3_arrive_104_39 hX hR x1 x2 0 u h)
  · have h := ie h c5
    refine w_iload_n 0 23 hX rfl rfl dX3_arrive_23 ?_
    refine w_iconst 1 24 hX ic_1 dX3_arrive_24 ?_
    obtain ⟨x6, gx6, h⟩ := o_bind h
    refine w_invSNi (av := [.int 1]) (st := [.int x2]) 25 hX ms_yX11_endOf mi_yX11_endOf ml_X3_150 (CX11_endOf 1 u gx6) rfl (by decide) (Nat.le_of_ble_eq_true rfl) (Nat.le_refl _) (Nat.le_refl _) dX3_arrive_25 ?_
    obtain ⟨x7, gx7, h⟩ := o_bind h
    refine w_invSNi (av := [.int x2, .int x6]) (st := []) 28 hX ms_yX11_holds mi_yX11_holds ml_X3_174 (CX11_holds x2 x6 u gx7) rfl (by decide) (Nat.le_of_ble_eq_true rfl) (Nat.le_refl _) (Nat.le_refl _) dX3_arrive_28 ?_
    refine w_if_ne (tgt := 38) 31 hX dX3_arrive_31 (by decide) (fun c8 => ?_) (fun c8 => ?_)
    · have h := ie h c8
      refine w_iconst 0 38 hX ic_0 dX3_arrive_38 ?_
      exact w_sub [2, 1, 0] rfl (bX3_arrive_104_39 hX hR x1 x2 0 u h)
    · have h := it h c8
      refine w_iconst 1 34 hX ic_1 dX3_arrive_34 ?_
      refine w_goto (tgt := 39) 35 hX (by decide) dX3_arrive_35 ?_
      exact w_sub [2, 1, 0] rfl (bX3_arrive_104_39 hX hR x1 x2 1 u h))
def FX3_tellOn_104_b115 (k2 : Int32 → Mem → Option Mem) (l1 : Int32) (u : Mem) : Option Mem :=
  k2 (l1 + 1) u
theorem bX3_tellOn_104_115 {G : Gt} {X : Xt} {u' : Mem} (hX : CxOk G X cX3_tellOn 4 RX3 (none, SH, RHO, u') 2) (hR : CxRet G X none (none, SH, RHO, u')) {k2 : Int32 → Mem → Option Mem} (hk2 : ∀ (l1 : Int32) (u : Mem), k2 l1 u = some u' → WM G X 2 [(0, .ref 104), (1, .int l1)] [] SH RHO u) (l1 : Int32) (u : Mem) (h : FX3_tellOn_104_b115 k2 l1 u = some u') : WM G X 115 [(0, .ref 104), (1, .int l1)] [] SH RHO u := by
  unfold FX3_tellOn_104_b115 at h
  refine w_iinc (lv' := [(1, .int (l1 + 1)), (0, .ref 104)]) 115 1 hX dX3_tellOn_115 rfl (inc_1 _) (by decide) rfl ?_
  refine w_goto (tgt := 2) 118 hX (by decide) dX3_tellOn_118 ?_
  exact w_sub [1, 0] rfl (hk2 (l1 + 1) u h)
def FX3_tellOn_104_b109 (k21 : Int32 → Int32 → Mem → Option Mem) (l1 l2 : Int32) (u : Mem) : Option Mem :=
  k21 l1 (l2 + 1) u
theorem bX3_tellOn_104_109 {G : Gt} {X : Xt} {u' : Mem} (hX : CxOk G X cX3_tellOn 4 RX3 (none, SH, RHO, u') 2) (hR : CxRet G X none (none, SH, RHO, u')) {k21 : Int32 → Int32 → Mem → Option Mem} (hk21 : ∀ (l1 l2 : Int32) (u : Mem), k21 l1 l2 u = some u' → WM G X 21 [(0, .ref 104), (1, .int l1), (2, .int l2)] [] SH RHO u) (l1 l2 : Int32) (u : Mem) (h : FX3_tellOn_104_b109 k21 l1 l2 u = some u') : WM G X 109 [(0, .ref 104), (1, .int l1), (2, .int l2)] [] SH RHO u := by
  unfold FX3_tellOn_104_b109 at h
  refine w_iinc (lv' := [(2, .int (l2 + 1)), (0, .ref 104), (1, .int l1)]) 109 2 hX dX3_tellOn_109 rfl (inc_1 _) (by decide) rfl ?_
  refine w_goto (tgt := 21) 112 hX (by decide) dX3_tellOn_112 ?_
  exact w_sub [1, 2, 0] rfl (hk21 l1 (l2 + 1) u h)
def FX3_tellOn_104_b67 (k21 : Int32 → Int32 → Mem → Option Mem) (l1 l2 t0 : Int32) (u : Mem) : Option Mem :=
  (if t0 = 0 then (FX3_tellOn_104_b109 k21 l1 l2 u) else ((rdA u 5 12 l1).bind fun x2 => (FX11_holds x2 l2).bind fun x3 => (if x3 = 0 then (FX3_tellOn_104_b109 k21 l1 l2 u) else ((rdA u 99 12 l2).bind fun x5 => (rdA u 99 12 l1).bind fun x6 => (wrA u 99 12 l2 (x5 ||| x6)).bind fun u7 => FX3_tellOn_104_b109 k21 l1 l2 u7))))
theorem bX3_tellOn_104_67 {G : Gt} {X : Xt} {u' : Mem} (hX : CxOk G X cX3_tellOn 4 RX3 (none, SH, RHO, u') 2) (hR : CxRet G X none (none, SH, RHO, u')) {k21 : Int32 → Int32 → Mem → Option Mem} (hk21 : ∀ (l1 l2 : Int32) (u : Mem), k21 l1 l2 u = some u' → WM G X 21 [(0, .ref 104), (1, .int l1), (2, .int l2)] [] SH RHO u) (l1 l2 t0 : Int32) (u : Mem) (h : FX3_tellOn_104_b67 k21 l1 l2 t0 u = some u') : WM G X 67 [(0, .ref 104), (1, .int l1), (2, .int l2)] [.int t0] SH RHO u := by
  unfold FX3_tellOn_104_b67 at h
  refine w_istore_n (lv' := [(3, .int t0), (0, .ref 104), (1, .int l1), (2, .int l2)]) 67 hX rfl dX3_tellOn_67 (by decide) rfl ?_
  refine w_iload_n 0 68 hX rfl rfl dX3_tellOn_68 ?_
  refine w_if_eq (tgt := 109) 69 hX dX3_tellOn_69 (by decide) (fun c1 => ?_) (fun c1 => ?_)
  · have h := it h c1
    exact w_sub [1, 2, 3] rfl (bX3_tellOn_104_109 hX hR hk21 l1 l2 u h)
  · have h := ie h c1
    refine w_aload_n 1 72 hX rfl rfl dX3_tellOn_72 ?_
    refine w_getR 73 hX CI_3 s_104 rfl r_104_0 fl_X3_17 rfl dX3_tellOn_73 ?_
    refine w_getR 76 hX CI_9 s_1 rfl r_1_4 fl_X3_198 rfl dX3_tellOn_76 ?_
    refine w_iload_n 2 79 hX rfl rfl dX3_tellOn_79 ?_
    obtain ⟨x2, gx2, h⟩ := o_bind h
    refine w_iald 80 hX s_5 gx2 dX3_tellOn_80 ?_
    refine w_iload_n 3 81 hX rfl rfl dX3_tellOn_81 ?_
    obtain ⟨x3, gx3, h⟩ := o_bind h
    refine w_invSNi (av := [.int x2, .int l2]) (st := []) 82 hX ms_yX11_holds mi_yX11_holds ml_X3_174 (CX11_holds x2 l2 u gx3) rfl (by decide) (Nat.le_of_ble_eq_true rfl) (Nat.le_refl _) (Nat.le_refl _) dX3_tellOn_82 ?_
    refine w_if_eq (tgt := 109) 85 hX dX3_tellOn_85 (by decide) (fun c4 => ?_) (fun c4 => ?_)
    · have h := it h c4
      exact w_sub [1, 2, 3] rfl (bX3_tellOn_104_109 hX hR hk21 l1 l2 u h)
    · have h := ie h c4
      refine w_aload_n 1 88 hX rfl rfl dX3_tellOn_88 ?_
      refine w_getR 89 hX CI_3 s_104 rfl r_104_1 fl_X3_21 rfl dX3_tellOn_89 ?_
      refine w_getR 92 hX CI_0 s_97 rfl r_97_1 fl_X3_85 rfl dX3_tellOn_92 ?_
      refine w_iload_n 3 95 hX rfl rfl dX3_tellOn_95 ?_
      refine w_dup2 96 hX rfl rfl dX3_tellOn_96 ?_
      obtain ⟨x5, gx5, h⟩ := o_bind h
      refine w_iald 97 hX s_99 gx5 dX3_tellOn_97 ?_
      refine w_aload_n 1 98 hX rfl rfl dX3_tellOn_98 ?_
      refine w_getR 99 hX CI_3 s_104 rfl r_104_1 fl_X3_21 rfl dX3_tellOn_99 ?_
      refine w_getR 102 hX CI_0 s_97 rfl r_97_1 fl_X3_85 rfl dX3_tellOn_102 ?_
      refine w_iload_n 2 105 hX rfl rfl dX3_tellOn_105 ?_
      obtain ⟨x6, gx6, h⟩ := o_bind h
      refine w_iald 106 hX s_99 gx6 dX3_tellOn_106 ?_
      refine w_ior 107 hX dX3_tellOn_107 ?_
      obtain ⟨u7, gu7, h⟩ := o_bind h
      refine w_iast 108 hX s_99 gu7 dX3_tellOn_108 ?_
      exact w_sub [1, 2, 3] rfl (bX3_tellOn_104_109 hX hR hk21 l1 l2 u7 h)
def FX3_tellOn_104_b21 (k2 : Int32 → Mem → Option Mem) (k21 : Int32 → Int32 → Mem → Option Mem) (l1 l2 : Int32) (u : Mem) : Option Mem :=
  (if 12 ≤ l2 then (FX3_tellOn_104_b115 k2 l1 u) else ((if (u 1 0) ≤ l2 then (FX3_tellOn_104_b115 k2 l1 u) else ((rdA u 101 12 l1).bind fun x3 => (if x3 = 0 then ((rdA u 101 12 l2).bind fun x5 => (if x5 = 0 then (FX3_tellOn_104_b67 k21 l1 l2 1 u) else (FX3_tellOn_104_b67 k21 l1 l2 0 u))) else (FX3_tellOn_104_b67 k21 l1 l2 0 u))))))
theorem bX3_tellOn_104_21 {G : Gt} {X : Xt} {u' : Mem} (hX : CxOk G X cX3_tellOn 4 RX3 (none, SH, RHO, u') 2) (hR : CxRet G X none (none, SH, RHO, u')) {k2 : Int32 → Mem → Option Mem} (hk2 : ∀ (l1 : Int32) (u : Mem), k2 l1 u = some u' → WM G X 2 [(0, .ref 104), (1, .int l1)] [] SH RHO u) {k21 : Int32 → Int32 → Mem → Option Mem} (hk21 : ∀ (l1 l2 : Int32) (u : Mem), k21 l1 l2 u = some u' → WM G X 21 [(0, .ref 104), (1, .int l1), (2, .int l2)] [] SH RHO u) (l1 l2 : Int32) (u : Mem) (h : FX3_tellOn_104_b21 k2 k21 l1 l2 u = some u') : WM G X 21 [(0, .ref 104), (1, .int l1), (2, .int l2)] [] SH RHO u := by
  unfold FX3_tellOn_104_b21 at h
  refine w_iload_n 2 21 hX rfl rfl dX3_tellOn_21 ?_
  refine w_bipush 12 22 hX ib_12 dX3_tellOn_22 ?_
  refine w_icmp_ge (tgt := 115) 24 hX dX3_tellOn_24 (by decide) (fun c1 => ?_) (fun c1 => ?_)
  · have h := it h c1
    exact w_sub [0, 1] rfl (bX3_tellOn_104_115 hX hR hk2 l1 u h)
  · have h := ie h c1
    refine w_iload_n 2 27 hX rfl rfl dX3_tellOn_27 ?_
    refine w_aload_n 0 28 hX rfl rfl dX3_tellOn_28 ?_
    refine w_getR 29 hX CI_3 s_104 rfl r_104_0 fl_X3_17 rfl dX3_tellOn_29 ?_
    refine w_getI (j := 0) 32 hX CI_9 s_1 rfl fl_X3_123 rfl dX3_tellOn_32 ?_
    refine w_icmp_ge (tgt := 115) 35 hX dX3_tellOn_35 (by decide) (fun c2 => ?_) (fun c2 => ?_)
    · have h := it h c2
      exact w_sub [0, 1] rfl (bX3_tellOn_104_115 hX hR hk2 l1 u h)
    · have h := ie h c2
      refine w_aload_n 0 38 hX rfl rfl dX3_tellOn_38 ?_
      refine w_getR 39 hX CI_3 s_104 rfl r_104_1 fl_X3_21 rfl dX3_tellOn_39 ?_
      refine w_getR 42 hX CI_0 s_97 rfl r_97_3 fl_X3_70 rfl dX3_tellOn_42 ?_
      refine w_iload_n 1 45 hX rfl rfl dX3_tellOn_45 ?_
      obtain ⟨x3, gx3, h⟩ := o_bind h
      refine w_iald 46 hX s_101 gx3 dX3_tellOn_46 ?_
      refine w_if_ne (tgt := 66) 47 hX dX3_tellOn_47 (by decide) (fun c4 => ?_) (fun c4 => ?_)
      · have h := ie h c4
        refine w_iconst 0 66 hX ic_0 dX3_tellOn_66 ?_
        exact bX3_tellOn_104_67 hX hR hk21 l1 l2 0 u h
      · have h := it h c4
        refine w_aload_n 0 50 hX rfl rfl dX3_tellOn_50 ?_
        refine w_getR 51 hX CI_3 s_104 rfl r_104_1 fl_X3_21 rfl dX3_tellOn_51 ?_
        refine w_getR 54 hX CI_0 s_97 rfl r_97_3 fl_X3_70 rfl dX3_tellOn_54 ?_
        refine w_iload_n 2 57 hX rfl rfl dX3_tellOn_57 ?_
        obtain ⟨x5, gx5, h⟩ := o_bind h
        refine w_iald 58 hX s_101 gx5 dX3_tellOn_58 ?_
        refine w_if_ne (tgt := 66) 59 hX dX3_tellOn_59 (by decide) (fun c6 => ?_) (fun c6 => ?_)
        · have h := ie h c6
          refine w_iconst 0 66 hX ic_0 dX3_tellOn_66 ?_
          exact bX3_tellOn_104_67 hX hR hk21 l1 l2 0 u h
        · have h := it h c6
          refine w_iconst 1 62 hX ic_1 dX3_tellOn_62 ?_
          refine w_goto (tgt := 67) 63 hX (by decide) dX3_tellOn_63 ?_
          exact bX3_tellOn_104_67 hX hR hk21 l1 l2 1 u h
def FX3_tellOn_104_L21 (k2 : Int32 → Mem → Option Mem) : Nat → Int32 → Int32 → Mem → Option Mem
  | 0, _, _, _ => none
  | n + 1, l1, l2, u => FX3_tellOn_104_b21 k2 (FX3_tellOn_104_L21 k2 n) l1 l2 u
theorem lX3_tellOn_104_21 {G : Gt} {X : Xt} {u' : Mem} (hX : CxOk G X cX3_tellOn 4 RX3 (none, SH, RHO, u') 2) (hR : CxRet G X none (none, SH, RHO, u')) {k2 : Int32 → Mem → Option Mem} (hk2 : ∀ (l1 : Int32) (u : Mem), k2 l1 u = some u' → WM G X 2 [(0, .ref 104), (1, .int l1)] [] SH RHO u) : ∀ (n : Nat) (l1 l2 : Int32) (u : Mem), FX3_tellOn_104_L21 k2 n l1 l2 u = some u' → WM G X 21 [(0, .ref 104), (1, .int l1), (2, .int l2)] [] SH RHO u := by
  intro n
  induction n with
  | zero =>
    intro l1 l2 u h
    exact nn_ h
  | succ n ih =>
    intro l1 l2 u h
    exact bX3_tellOn_104_21 hX hR hk2 ih l1 l2 u h
def FX3_tellOn_104_b2 (k2 : Int32 → Mem → Option Mem) (l1 : Int32) (u : Mem) : Option Mem :=
  (if 12 ≤ l1 then (some u) else ((if (u 1 0) ≤ l1 then (some u) else (FX3_tellOn_104_L21 k2 FU l1 0 u))))
theorem bX3_tellOn_104_2 {G : Gt} {X : Xt} {u' : Mem} (hX : CxOk G X cX3_tellOn 4 RX3 (none, SH, RHO, u') 2) (hR : CxRet G X none (none, SH, RHO, u')) {k2 : Int32 → Mem → Option Mem} (hk2 : ∀ (l1 : Int32) (u : Mem), k2 l1 u = some u' → WM G X 2 [(0, .ref 104), (1, .int l1)] [] SH RHO u) (l1 : Int32) (u : Mem) (h : FX3_tellOn_104_b2 k2 l1 u = some u') : WM G X 2 [(0, .ref 104), (1, .int l1)] [] SH RHO u := by
  unfold FX3_tellOn_104_b2 at h
  refine w_iload_n 1 2 hX rfl rfl dX3_tellOn_2 ?_
  refine w_bipush 12 3 hX ib_12 dX3_tellOn_3 ?_
  refine w_icmp_ge (tgt := 121) 5 hX dX3_tellOn_5 (by decide) (fun c1 => ?_) (fun c1 => ?_)
  · have h := it h c1
    exact w_vret 121 hX hR dX3_tellOn_121 (by cases h; rfl)
  · have h := ie h c1
    refine w_iload_n 1 8 hX rfl rfl dX3_tellOn_8 ?_
    refine w_aload_n 0 9 hX rfl rfl dX3_tellOn_9 ?_
    refine w_getR 10 hX CI_3 s_104 rfl r_104_0 fl_X3_17 rfl dX3_tellOn_10 ?_
    refine w_getI (j := 0) 13 hX CI_9 s_1 rfl fl_X3_123 rfl dX3_tellOn_13 ?_
    refine w_icmp_ge (tgt := 121) 16 hX dX3_tellOn_16 (by decide) (fun c2 => ?_) (fun c2 => ?_)
    · have h := it h c2
      exact w_vret 121 hX hR dX3_tellOn_121 (by cases h; rfl)
    · have h := ie h c2
      refine w_iconst 0 19 hX ic_0 dX3_tellOn_19 ?_
      refine w_istore_n (lv' := [(2, .int 0), (0, .ref 104), (1, .int l1)]) 20 hX rfl dX3_tellOn_20 (by decide) rfl ?_
      exact w_sub [1, 2, 0] rfl (lX3_tellOn_104_21 hX hR hk2 FU l1 0 u h)
def FX3_tellOn_104_L2 : Nat → Int32 → Mem → Option Mem
  | 0, _, _ => none
  | n + 1, l1, u => FX3_tellOn_104_b2 (FX3_tellOn_104_L2 n) l1 u
theorem lX3_tellOn_104_2 {G : Gt} {X : Xt} {u' : Mem} (hX : CxOk G X cX3_tellOn 4 RX3 (none, SH, RHO, u') 2) (hR : CxRet G X none (none, SH, RHO, u')) : ∀ (n : Nat) (l1 : Int32) (u : Mem), FX3_tellOn_104_L2 n l1 u = some u' → WM G X 2 [(0, .ref 104), (1, .int l1)] [] SH RHO u := by
  intro n
  induction n with
  | zero =>
    intro l1 u h
    exact nn_ h
  | succ n ih =>
    intro l1 u h
    exact bX3_tellOn_104_2 hX hR ih l1 u h
def FX3_tellOn_104 (u : Mem) : Option Mem :=
  FX3_tellOn_104_L2 FU 0 u
theorem CX3_tellOn_104 {G : Gt} (u : Mem) {u' : Mem} (h : FX3_tellOn_104 u = some u') : CT G yX3_tellOn cX3_tellOn 4 none 2 [.ref 104] SH RHO u (none, SH, RHO, u') :=
  ct_of (by decide) rfl (Nat.le_of_ble_eq_true rfl) (Nat.le_refl _) (Nat.le_refl _) (fun X hX hR => by
  unfold FX3_tellOn_104 at h
  refine w_iconst 0 0 hX ic_0 dX3_tellOn_0 ?_
  refine w_istore_n (lv' := [(1, .int 0), (0, .ref 104)]) 1 hX rfl dX3_tellOn_1 (by decide) rfl ?_
  exact w_sub [1, 0] rfl (lX3_tellOn_104_2 hX hR FU 0 u h))
def FX0_draw_97 (p1 : Int32) (u : Mem) : Option (Int32 × Mem) :=
  (some (mupd u 97 8 (((u 97 8) * 1664525) + 1013904223))).bind fun u1 => (if p1 ≤ 0 then (some (0, u1)) else ((rmI (((u1 97 8 : Int32).toUInt32 >>> ((8 : Int32).toUInt32 &&& Int32.toUInt32 31)).toInt32) p1).bind fun x3 => some (x3, u1)))
theorem CX0_draw_97 {G : Gt} (p1 : Int32) (u : Mem) {v : Int32} {u' : Mem} (h : FX0_draw_97 p1 u = some (v, u')) : CT G yX0_draw cX0_draw 2 (some .int) 1 [.ref 97, .int p1] SH RHO u (some (.int v), SH, RHO, u') :=
  ct_of (by decide) rfl (Nat.le_of_ble_eq_true rfl) (Nat.le_refl _) (Nat.le_refl _) (fun X hX hR => by
  unfold FX0_draw_97 at h
  refine w_aload_n 0 0 hX rfl rfl dX0_draw_0 ?_
  refine w_aload_n 0 1 hX rfl rfl dX0_draw_1 ?_
  refine w_getI (j := 8) 2 hX CI_0 s_97 rfl fl_X0_41 rfl dX0_draw_2 ?_
  refine w_ldc 1664525 5 hX cs_X0_51 dX0_draw_5 ?_
  refine w_imul 7 hX dX0_draw_7 ?_
  refine w_ldc 1013904223 8 hX cs_X0_52 dX0_draw_8 ?_
  refine w_iadd 10 hX dX0_draw_10 ?_
  obtain ⟨u1, gu1, h⟩ := o_bind h
  refine w_putI (j := 8) 11 hX CI_0 s_97 rfl fl_X0_41 rfl rfl rfl rfl dX0_draw_11 ?_
  rw [Option.some.inj gu1]
  refine w_iload_n 1 14 hX rfl rfl dX0_draw_14 ?_
  refine w_if_le (tgt := 30) 15 hX dX0_draw_15 (by decide) (fun c2 => ?_) (fun c2 => ?_)
  · have h := it h c2
    refine w_iconst 0 30 hX ic_0 dX0_draw_30 ?_
    exact w_iret 31 hX hR dX0_draw_31 (by cases h; rfl)
  · have h := ie h c2
    refine w_aload_n 0 18 hX rfl rfl dX0_draw_18 ?_
    refine w_getI (j := 8) 19 hX CI_0 s_97 rfl fl_X0_41 rfl dX0_draw_19 ?_
    refine w_bipush 8 22 hX ib_8 dX0_draw_22 ?_
    refine w_iushr 24 hX dX0_draw_24 ?_
    refine w_iload_n 1 25 hX rfl rfl dX0_draw_25 ?_
    obtain ⟨x3, gx3, h⟩ := o_bind h
    obtain ⟨qx3, jx3⟩ := rmI_ok gx3
    refine w_irem 26 hX qx3 dX0_draw_26 ?_
    rw [jx3]
    refine w_goto (tgt := 31) 27 hX (by decide) dX0_draw_27 ?_
    exact w_iret 31 hX hR dX0_draw_31 (by cases h; rfl))
def FX3_fade_104_b87 (k2 : Int32 → Mem → Option Mem) (l1 : Int32) (u : Mem) : Option Mem :=
  k2 (l1 + 1) u
theorem bX3_fade_104_87 {G : Gt} {X : Xt} {u' : Mem} (hX : CxOk G X cX3_fade 3 RX3 (none, SH, RHO, u') 4) (hR : CxRet G X none (none, SH, RHO, u')) {k2 : Int32 → Mem → Option Mem} (hk2 : ∀ (l1 : Int32) (u : Mem), k2 l1 u = some u' → WM G X 2 [(0, .ref 104), (1, .int l1)] [] SH RHO u) (l1 : Int32) (u : Mem) (h : FX3_fade_104_b87 k2 l1 u = some u') : WM G X 87 [(0, .ref 104), (1, .int l1)] [] SH RHO u := by
  unfold FX3_fade_104_b87 at h
  refine w_iinc (lv' := [(1, .int (l1 + 1)), (0, .ref 104)]) 87 1 hX dX3_fade_87 rfl (inc_1 _) (by decide) rfl ?_
  refine w_goto (tgt := 2) 90 hX (by decide) dX3_fade_90 ?_
  exact w_sub [1, 0] rfl (hk2 (l1 + 1) u h)
def FX3_fade_104_b2 (k2 : Int32 → Mem → Option Mem) (l1 : Int32) (u : Mem) : Option Mem :=
  (if 12 ≤ l1 then (some u) else ((if (u 1 0) ≤ l1 then (some u) else ((rdA u 99 12 l1).bind fun x3 => (if x3 = 0 then (FX3_fade_104_b87 k2 l1 u) else (bnd2 (FX0_draw_97 1000 u) fun x5 u6 => bnd2 (FX3_asked_104 l1 3 u6) fun x7 u8 => (if x7 ≤ x5 then (FX3_fade_104_b87 k2 l1 u8) else ((rdA u8 99 12 l1).bind fun x10 => (FX3_leastOf x10).bind fun x11 => (rdA u8 99 12 l1).bind fun x12 => (wrA u8 99 12 l1 (x12 &&& (((1 : Int32) <<< (x11 &&& 31)) ^^^ (-1)))).bind fun u13 => (FX3_note_104 3 l1 x11 u13).bind fun u15 => FX3_fade_104_b87 k2 l1 u15))))))))
theorem bX3_fade_104_2 {G : Gt} {X : Xt} {u' : Mem} (hX : CxOk G X cX3_fade 3 RX3 (none, SH, RHO, u') 4) (hR : CxRet G X none (none, SH, RHO, u')) {k2 : Int32 → Mem → Option Mem} (hk2 : ∀ (l1 : Int32) (u : Mem), k2 l1 u = some u' → WM G X 2 [(0, .ref 104), (1, .int l1)] [] SH RHO u) (l1 : Int32) (u : Mem) (h : FX3_fade_104_b2 k2 l1 u = some u') : WM G X 2 [(0, .ref 104), (1, .int l1)] [] SH RHO u := by
  unfold FX3_fade_104_b2 at h
  refine w_iload_n 1 2 hX rfl rfl dX3_fade_2 ?_
  refine w_bipush 12 3 hX ib_12 dX3_fade_3 ?_
  refine w_icmp_ge (tgt := 93) 5 hX dX3_fade_5 (by decide) (fun c1 => ?_) (fun c1 => ?_)
  · have h := it h c1
    exact w_vret 93 hX hR dX3_fade_93 (by cases h; rfl)
  · have h := ie h c1
    refine w_iload_n 1 8 hX rfl rfl dX3_fade_8 ?_
    refine w_aload_n 0 9 hX rfl rfl dX3_fade_9 ?_
    refine w_getR 10 hX CI_3 s_104 rfl r_104_0 fl_X3_17 rfl dX3_fade_10 ?_
    refine w_getI (j := 0) 13 hX CI_9 s_1 rfl fl_X3_123 rfl dX3_fade_13 ?_
    refine w_icmp_ge (tgt := 93) 16 hX dX3_fade_16 (by decide) (fun c2 => ?_) (fun c2 => ?_)
    · have h := it h c2
      exact w_vret 93 hX hR dX3_fade_93 (by cases h; rfl)
    · have h := ie h c2
      refine w_aload_n 0 19 hX rfl rfl dX3_fade_19 ?_
      refine w_getR 20 hX CI_3 s_104 rfl r_104_1 fl_X3_21 rfl dX3_fade_20 ?_
      refine w_getR 23 hX CI_0 s_97 rfl r_97_1 fl_X3_85 rfl dX3_fade_23 ?_
      refine w_iload_n 1 26 hX rfl rfl dX3_fade_26 ?_
      obtain ⟨x3, gx3, h⟩ := o_bind h
      refine w_iald 27 hX s_99 gx3 dX3_fade_27 ?_
      refine w_if_eq (tgt := 87) 28 hX dX3_fade_28 (by decide) (fun c4 => ?_) (fun c4 => ?_)
      · have h := it h c4
        exact bX3_fade_104_87 hX hR hk2 l1 u h
      · have h := ie h c4
        refine w_aload_n 0 31 hX rfl rfl dX3_fade_31 ?_
        refine w_getR 32 hX CI_3 s_104 rfl r_104_1 fl_X3_21 rfl dX3_fade_32 ?_
        refine w_sipush 1000 35 hX isp_1000 dX3_fade_35 ?_
        obtain ⟨x5, u6, gx5, h⟩ := o_bnd2 h
        refine w_invVi (av := [.int 1000]) (st := []) 38 hX CI_0 s_97 rfl mv_yX0_draw mi_yX0_draw ml_X3_201 (CX0_draw_97 1000 u gx5) rfl (by decide) (Nat.le_of_ble_eq_true rfl) (Nat.le_refl _) (Nat.le_refl _) dX3_fade_38 ?_
        refine w_aload_n 0 41 hX rfl rfl dX3_fade_41 ?_
        refine w_iload_n 1 42 hX rfl rfl dX3_fade_42 ?_
        refine w_iconst 3 43 hX ic_3 dX3_fade_43 ?_
        obtain ⟨x7, u8, gx7, h⟩ := o_bnd2 h
        refine w_invVi (av := [.int l1, .int 3]) (st := [.int x5]) 44 hX CI_3 s_104 rfl mv_yX3_asked mi_yX3_asked ml_X3_147 (CX3_asked_104 l1 3 u6 gx7) rfl (by decide) (Nat.le_of_ble_eq_true rfl) (Nat.le_refl _) (Nat.le_refl _) dX3_fade_44 ?_
        refine w_icmp_ge (tgt := 87) 47 hX dX3_fade_47 (by decide) (fun c9 => ?_) (fun c9 => ?_)
        · have h := it h c9
          exact bX3_fade_104_87 hX hR hk2 l1 u8 h
        · have h := ie h c9
          refine w_aload_n 0 50 hX rfl rfl dX3_fade_50 ?_
          refine w_getR 51 hX CI_3 s_104 rfl r_104_1 fl_X3_21 rfl dX3_fade_51 ?_
          refine w_getR 54 hX CI_0 s_97 rfl r_97_1 fl_X3_85 rfl dX3_fade_54 ?_
          refine w_iload_n 1 57 hX rfl rfl dX3_fade_57 ?_
          obtain ⟨x10, gx10, h⟩ := o_bind h
          refine w_iald 58 hX s_99 gx10 dX3_fade_58 ?_
          obtain ⟨x11, gx11, h⟩ := o_bind h
          refine w_invSi (av := [.int x10]) (st := []) 59 hX ms_yX3_leastOf mi_yX3_leastOf ml_X3_204 (CX3_leastOf x10 u8 gx11) rfl (by decide) (Nat.le_of_ble_eq_true rfl) (Nat.le_refl _) (Nat.le_refl _) dX3_fade_59 ?_
          refine w_istore_n (lv' := [(2, .int x11), (0, .ref 104), (1, .int l1)]) 62 hX rfl dX3_fade_62 (by decide) rfl ?_
          refine w_aload_n 1 63 hX rfl rfl dX3_fade_63 ?_
          refine w_getR 64 hX CI_3 s_104 rfl r_104_1 fl_X3_21 rfl dX3_fade_64 ?_
          refine w_getR 67 hX CI_0 s_97 rfl r_97_1 fl_X3_85 rfl dX3_fade_67 ?_
          refine w_iload_n 2 70 hX rfl rfl dX3_fade_70 ?_
          refine w_dup2 71 hX rfl rfl dX3_fade_71 ?_
          obtain ⟨x12, gx12, h⟩ := o_bind h
          refine w_iald 72 hX s_99 gx12 dX3_fade_72 ?_
          refine w_iconst 1 73 hX ic_1 dX3_fade_73 ?_
          refine w_iload_n 0 74 hX rfl rfl dX3_fade_74 ?_
          refine w_ishl 75 hX dX3_fade_75 ?_
          refine w_iconst (-1) 76 hX ic_m1 dX3_fade_76 ?_
          refine w_ixor 77 hX dX3_fade_77 ?_
          refine w_iand 78 hX dX3_fade_78 ?_
          obtain ⟨u13, gu13, h⟩ := o_bind h
          refine w_iast 79 hX s_99 gu13 dX3_fade_79 ?_
          refine w_aload_n 1 80 hX rfl rfl dX3_fade_80 ?_
          refine w_iconst 3 81 hX ic_3 dX3_fade_81 ?_
          refine w_iload_n 2 82 hX rfl rfl dX3_fade_82 ?_
          refine w_iload_n 0 83 hX rfl rfl dX3_fade_83 ?_
          obtain ⟨u15, gu15, h⟩ := o_bind h
          refine w_invVv (av := [.int 3, .int l1, .int x11]) (st := []) 84 hX CI_3 s_104 rfl mv_yX3_note mi_yX3_note ml_X3_153 (CX3_note_104 3 l1 x11 u13 gu15) rfl (by decide) (Nat.le_of_ble_eq_true rfl) (Nat.le_refl _) (Nat.le_refl _) dX3_fade_84 ?_
          exact w_sub [1, 2] rfl (bX3_fade_104_87 hX hR hk2 l1 u15 h)
def FX3_fade_104_L2 : Nat → Int32 → Mem → Option Mem
  | 0, _, _ => none
  | n + 1, l1, u => FX3_fade_104_b2 (FX3_fade_104_L2 n) l1 u
theorem lX3_fade_104_2 {G : Gt} {X : Xt} {u' : Mem} (hX : CxOk G X cX3_fade 3 RX3 (none, SH, RHO, u') 4) (hR : CxRet G X none (none, SH, RHO, u')) : ∀ (n : Nat) (l1 : Int32) (u : Mem), FX3_fade_104_L2 n l1 u = some u' → WM G X 2 [(0, .ref 104), (1, .int l1)] [] SH RHO u := by
  intro n
  induction n with
  | zero =>
    intro l1 u h
    exact nn_ h
  | succ n ih =>
    intro l1 u h
    exact bX3_fade_104_2 hX hR ih l1 u h
def FX3_fade_104 (u : Mem) : Option Mem :=
  FX3_fade_104_L2 FU 0 u
theorem CX3_fade_104 {G : Gt} (u : Mem) {u' : Mem} (h : FX3_fade_104 u = some u') : CT G yX3_fade cX3_fade 3 none 4 [.ref 104] SH RHO u (none, SH, RHO, u') :=
  ct_of (by decide) rfl (Nat.le_of_ble_eq_true rfl) (Nat.le_refl _) (Nat.le_refl _) (fun X hX hR => by
  unfold FX3_fade_104 at h
  refine w_iconst 0 0 hX ic_0 dX3_fade_0 ?_
  refine w_istore_n (lv' := [(1, .int 0), (0, .ref 104)]) 1 hX rfl dX3_fade_1 (by decide) rfl ?_
  exact w_sub [1, 0] rfl (lX3_fade_104_2 hX hR FU 0 u h))
def FX3_known_104_b56 (l2 : Int32) (u : Mem) : Option Int32 :=
  some l2
theorem bX3_known_104_56 {G : Gt} {X : Xt} {v : Int32} {u : Mem} (hX : CxOk G X cX3_known 4 RX3 (some (.int v), SH, RHO, u) 1) (hR : CxRet G X (some .int) (some (.int v), SH, RHO, u)) (l2 : Int32) (h : FX3_known_104_b56 l2 u = some v) : WM G X 56 [(2, .int l2)] [] SH RHO u := by
  unfold FX3_known_104_b56 at h
  refine w_iload_n 0 56 hX rfl rfl dX3_known_56 ?_
  exact w_iret 57 hX hR dX3_known_57 (by cases h; rfl)
def FX3_known_104_b48 (k4 : Int32 → Int32 → Int32 → Mem → Option Int32) (l1 l3 t0 t1 : Int32) (u : Mem) : Option Int32 :=
  k4 l1 (t0 ||| t1) (l3 + 1) u
theorem bX3_known_104_48 {G : Gt} {X : Xt} {v : Int32} {u : Mem} (hX : CxOk G X cX3_known 4 RX3 (some (.int v), SH, RHO, u) 1) (hR : CxRet G X (some .int) (some (.int v), SH, RHO, u)) {k4 : Int32 → Int32 → Int32 → Mem → Option Int32} (hk4 : ∀ (l1 l2 l3 : Int32), k4 l1 l2 l3 u = some v → WM G X 4 [(0, .ref 104), (1, .int l1), (2, .int l2), (3, .int l3)] [] SH RHO u) (l1 l3 t0 t1 : Int32) (h : FX3_known_104_b48 k4 l1 l3 t0 t1 u = some v) : WM G X 48 [(0, .ref 104), (1, .int l1), (3, .int l3)] [.int t1, .int t0] SH RHO u := by
  unfold FX3_known_104_b48 at h
  refine w_ior 48 hX dX3_known_48 ?_
  refine w_istore_n (lv' := [(2, .int (t0 ||| t1)), (0, .ref 104), (1, .int l1), (3, .int l3)]) 49 hX rfl dX3_known_49 (by decide) rfl ?_
  refine w_iinc (lv' := [(3, .int (l3 + 1)), (2, .int (t0 ||| t1)), (0, .ref 104), (1, .int l1)]) 50 3 hX dX3_known_50 rfl (inc_1 _) (by decide) rfl ?_
  refine w_goto (tgt := 4) 53 hX (by decide) dX3_known_53 ?_
  exact w_sub [2, 3, 1, 0] rfl (hk4 l1 (t0 ||| t1) (l3 + 1) h)
def FX3_known_104_b4 (k4 : Int32 → Int32 → Int32 → Mem → Option Int32) (l1 l2 l3 : Int32) (u : Mem) : Option Int32 :=
  (if 12 ≤ l3 then (FX3_known_104_b56 l2 u) else ((if (u 1 0) ≤ l3 then (FX3_known_104_b56 l2 u) else ((rdA u 2 12 l3).bind fun x3 => (if x3 = l1 then ((rdA u 99 12 l3).bind fun x5 => FX3_known_104_b48 k4 l1 l3 l2 x5 u) else (FX3_known_104_b48 k4 l1 l3 l2 0 u))))))
theorem bX3_known_104_4 {G : Gt} {X : Xt} {v : Int32} {u : Mem} (hX : CxOk G X cX3_known 4 RX3 (some (.int v), SH, RHO, u) 1) (hR : CxRet G X (some .int) (some (.int v), SH, RHO, u)) {k4 : Int32 → Int32 → Int32 → Mem → Option Int32} (hk4 : ∀ (l1 l2 l3 : Int32), k4 l1 l2 l3 u = some v → WM G X 4 [(0, .ref 104), (1, .int l1), (2, .int l2), (3, .int l3)] [] SH RHO u) (l1 l2 l3 : Int32) (h : FX3_known_104_b4 k4 l1 l2 l3 u = some v) : WM G X 4 [(0, .ref 104), (1, .int l1), (2, .int l2), (3, .int l3)] [] SH RHO u := by
  unfold FX3_known_104_b4 at h
  refine w_iload_n 3 4 hX rfl rfl dX3_known_4 ?_
  refine w_bipush 12 5 hX ib_12 dX3_known_5 ?_
  refine w_icmp_ge (tgt := 56) 7 hX dX3_known_7 (by decide) (fun c1 => ?_) (fun c1 => ?_)
  · have h := it h c1
    exact w_sub [2] rfl (bX3_known_104_56 hX hR l2 h)
  · have h := ie h c1
    refine w_iload_n 3 10 hX rfl rfl dX3_known_10 ?_
    refine w_aload_n 0 11 hX rfl rfl dX3_known_11 ?_
    refine w_getR 12 hX CI_3 s_104 rfl r_104_0 fl_X3_17 rfl dX3_known_12 ?_
    refine w_getI (j := 0) 15 hX CI_9 s_1 rfl fl_X3_123 rfl dX3_known_15 ?_
    refine w_icmp_ge (tgt := 56) 18 hX dX3_known_18 (by decide) (fun c2 => ?_) (fun c2 => ?_)
    · have h := it h c2
      exact w_sub [2] rfl (bX3_known_104_56 hX hR l2 h)
    · have h := ie h c2
      refine w_iload_n 2 21 hX rfl rfl dX3_known_21 ?_
      refine w_aload_n 0 22 hX rfl rfl dX3_known_22 ?_
      refine w_getR 23 hX CI_3 s_104 rfl r_104_0 fl_X3_17 rfl dX3_known_23 ?_
      refine w_getR 26 hX CI_9 s_1 rfl r_1_1 fl_X3_73 rfl dX3_known_26 ?_
      refine w_iload_n 3 29 hX rfl rfl dX3_known_29 ?_
      obtain ⟨x3, gx3, h⟩ := o_bind h
      refine w_iald 30 hX s_2 gx3 dX3_known_30 ?_
      refine w_iload_n 1 31 hX rfl rfl dX3_known_31 ?_
      refine w_icmp_ne (tgt := 47) 32 hX dX3_known_32 (by decide) (fun c4 => ?_) (fun c4 => ?_)
      · have h := ie h c4
        refine w_iconst 0 47 hX ic_0 dX3_known_47 ?_
        exact w_sub [0, 1, 3] rfl (bX3_known_104_48 hX hR hk4 l1 l3 l2 0 h)
      · have h := it h c4
        refine w_aload_n 0 35 hX rfl rfl dX3_known_35 ?_
        refine w_getR 36 hX CI_3 s_104 rfl r_104_1 fl_X3_21 rfl dX3_known_36 ?_
        refine w_getR 39 hX CI_0 s_97 rfl r_97_1 fl_X3_85 rfl dX3_known_39 ?_
        refine w_iload_n 3 42 hX rfl rfl dX3_known_42 ?_
        obtain ⟨x5, gx5, h⟩ := o_bind h
        refine w_iald 43 hX s_99 gx5 dX3_known_43 ?_
        refine w_goto (tgt := 48) 44 hX (by decide) dX3_known_44 ?_
        exact w_sub [0, 1, 3] rfl (bX3_known_104_48 hX hR hk4 l1 l3 l2 x5 h)
def FX3_known_104_L4 : Nat → Int32 → Int32 → Int32 → Mem → Option Int32
  | 0, _, _, _, _ => none
  | n + 1, l1, l2, l3, u => FX3_known_104_b4 (FX3_known_104_L4 n) l1 l2 l3 u
theorem lX3_known_104_4 {G : Gt} {X : Xt} {v : Int32} {u : Mem} (hX : CxOk G X cX3_known 4 RX3 (some (.int v), SH, RHO, u) 1) (hR : CxRet G X (some .int) (some (.int v), SH, RHO, u)) : ∀ (n : Nat) (l1 l2 l3 : Int32), FX3_known_104_L4 n l1 l2 l3 u = some v → WM G X 4 [(0, .ref 104), (1, .int l1), (2, .int l2), (3, .int l3)] [] SH RHO u := by
  intro n
  induction n with
  | zero =>
    intro l1 l2 l3 h
    exact nn_ h
  | succ n ih =>
    intro l1 l2 l3 h
    exact bX3_known_104_4 hX hR ih l1 l2 l3 h
def FX3_known_104 (p1 : Int32) (u : Mem) : Option Int32 :=
  FX3_known_104_L4 FU p1 0 0 u
theorem CX3_known_104 {G : Gt} (p1 : Int32) (u : Mem) {v : Int32} (h : FX3_known_104 p1 u = some v) : CT G yX3_known cX3_known 4 (some .int) 1 [.ref 104, .int p1] SH RHO u (some (.int v), SH, RHO, u) :=
  ct_of (by decide) rfl (Nat.le_of_ble_eq_true rfl) (Nat.le_refl _) (Nat.le_refl _) (fun X hX hR => by
  unfold FX3_known_104 at h
  refine w_iconst 0 0 hX ic_0 dX3_known_0 ?_
  refine w_istore_n (lv' := [(2, .int 0), (0, .ref 104), (1, .int p1)]) 1 hX rfl dX3_known_1 (by decide) rfl ?_
  refine w_iconst 0 2 hX ic_0 dX3_known_2 ?_
  refine w_istore_n (lv' := [(3, .int 0), (2, .int 0), (0, .ref 104), (1, .int p1)]) 3 hX rfl dX3_known_3 (by decide) rfl ?_
  exact w_sub [2, 3, 1, 0] rfl (lX3_known_104_4 hX hR FU p1 0 0 h))
def FJ7_fill_53178_101_b5 (k5 : Int32 → Int32 → Int32 → Mem → Option Mem) (l1 l2 l3 : Int32) (u : Mem) : Option Mem :=
  (if l3 ≤ l2 then (some u) else ((wrA u 101 12 l2 l1).bind fun u2 => k5 l1 (l2 + 1) l3 u2))
theorem bJ7_fill_53178_101_5 {G : Gt} {X : Xt} {u' : Mem} (hX : CxOk G X cJ7_fill_53178 4 RJ7 (none, SH, RHO, u') 1) (hR : CxRet G X none (none, SH, RHO, u')) {k5 : Int32 → Int32 → Int32 → Mem → Option Mem} (hk5 : ∀ (l1 l2 l3 : Int32) (u : Mem), k5 l1 l2 l3 u = some u' → WM G X 5 [(0, .ref 101), (1, .int l1), (2, .int l2), (3, .int l3)] [] SH RHO u) (l1 l2 l3 : Int32) (u : Mem) (h : FJ7_fill_53178_101_b5 k5 l1 l2 l3 u = some u') : WM G X 5 [(0, .ref 101), (1, .int l1), (2, .int l2), (3, .int l3)] [] SH RHO u := by
  unfold FJ7_fill_53178_101_b5 at h
  refine w_iload_n 2 5 hX rfl rfl dJ7_fill_53178_5 ?_
  refine w_iload_n 3 6 hX rfl rfl dJ7_fill_53178_6 ?_
  refine w_icmp_ge (tgt := 20) 7 hX dJ7_fill_53178_7 (by decide) (fun c1 => ?_) (fun c1 => ?_)
  · have h := it h c1
    exact w_vret 20 hX hR dJ7_fill_53178_20 (by cases h; rfl)
  · have h := ie h c1
    refine w_aload_n 0 10 hX rfl rfl dJ7_fill_53178_10 ?_
    refine w_iload_n 2 11 hX rfl rfl dJ7_fill_53178_11 ?_
    refine w_iload_n 1 12 hX rfl rfl dJ7_fill_53178_12 ?_
    obtain ⟨u2, gu2, h⟩ := o_bind h
    refine w_iast 13 hX s_101 gu2 dJ7_fill_53178_13 ?_
    refine w_iinc (lv' := [(2, .int (l2 + 1)), (0, .ref 101), (1, .int l1), (3, .int l3)]) 14 2 hX dJ7_fill_53178_14 rfl (inc_1 _) (by decide) rfl ?_
    refine w_goto (tgt := 5) 17 hX (by decide) dJ7_fill_53178_17 ?_
    exact w_sub [1, 2, 0, 3] rfl (hk5 l1 (l2 + 1) l3 u2 h)
def FJ7_fill_53178_101_L5 : Nat → Int32 → Int32 → Int32 → Mem → Option Mem
  | 0, _, _, _, _ => none
  | n + 1, l1, l2, l3, u => FJ7_fill_53178_101_b5 (FJ7_fill_53178_101_L5 n) l1 l2 l3 u
theorem lJ7_fill_53178_101_5 {G : Gt} {X : Xt} {u' : Mem} (hX : CxOk G X cJ7_fill_53178 4 RJ7 (none, SH, RHO, u') 1) (hR : CxRet G X none (none, SH, RHO, u')) : ∀ (n : Nat) (l1 l2 l3 : Int32) (u : Mem), FJ7_fill_53178_101_L5 n l1 l2 l3 u = some u' → WM G X 5 [(0, .ref 101), (1, .int l1), (2, .int l2), (3, .int l3)] [] SH RHO u := by
  intro n
  induction n with
  | zero =>
    intro l1 l2 l3 u h
    exact nn_ h
  | succ n ih =>
    intro l1 l2 l3 u h
    exact bJ7_fill_53178_101_5 hX hR ih l1 l2 l3 u h
def FJ7_fill_53178_101 (p1 : Int32) (u : Mem) : Option Mem :=
  FJ7_fill_53178_101_L5 FU p1 0 12 u
theorem CJ7_fill_53178_101 {G : Gt} (p1 : Int32) (u : Mem) {u' : Mem} (h : FJ7_fill_53178_101 p1 u = some u') : CT G yJ7_fill_53178 cJ7_fill_53178 4 none 1 [.ref 101, .int p1] SH RHO u (none, SH, RHO, u') :=
  ct_of (by decide) rfl (Nat.le_of_ble_eq_true rfl) (Nat.le_refl _) (Nat.le_refl _) (fun X hX hR => by
  unfold FJ7_fill_53178_101 at h
  refine w_iconst 0 0 hX ic_0 dJ7_fill_53178_0 ?_
  refine w_istore_n (lv' := [(2, .int 0), (0, .ref 101), (1, .int p1)]) 1 hX rfl dJ7_fill_53178_1 (by decide) rfl ?_
  refine w_aload_n 1 2 hX rfl rfl dJ7_fill_53178_2 ?_
  refine w_alen 12 3 hX s_101 (by decide) dJ7_fill_53178_3 ?_
  refine w_istore_n (lv' := [(3, .int 12), (2, .int 0), (0, .ref 101), (1, .int p1)]) 4 hX rfl dJ7_fill_53178_4 (by decide) rfl ?_
  exact w_sub [2, 3, 1, 0] rfl (lJ7_fill_53178_101_5 hX hR FU p1 0 12 u h))
def FX3_endDay_104_b134 (u : Mem) : Option Mem :=
  (if (u 97 6) = 0 then ((FJ7_fill_53178_101 0 u).bind fun u3 => (FX3_note_104 4 (-1) 0 u3).bind fun u5 => some u5) else (some u))
theorem bX3_endDay_104_134 {G : Gt} {X : Xt} {u' : Mem} (hX : CxOk G X cX3_endDay 2 RX3 (none, SH, RHO, u') 3) (hR : CxRet G X none (none, SH, RHO, u')) (u : Mem) (h : FX3_endDay_104_b134 u = some u') : WM G X 134 [(0, .ref 104)] [] SH RHO u := by
  unfold FX3_endDay_104_b134 at h
  refine w_aload_n 0 134 hX rfl rfl dX3_endDay_134 ?_
  refine w_getR 135 hX CI_3 s_104 rfl r_104_1 fl_X3_21 rfl dX3_endDay_135 ?_
  refine w_getI (j := 6) 138 hX CI_0 s_97 rfl fl_X3_33 rfl dX3_endDay_138 ?_
  refine w_if_ne (tgt := 162) 141 hX dX3_endDay_141 (by decide) (fun c1 => ?_) (fun c1 => ?_)
  · have h := ie h c1
    exact w_vret 162 hX hR dX3_endDay_162 (by cases h; rfl)
  · have h := it h c1
    refine w_aload_n 0 144 hX rfl rfl dX3_endDay_144 ?_
    refine w_getR 145 hX CI_3 s_104 rfl r_104_1 fl_X3_21 rfl dX3_endDay_145 ?_
    refine w_getR 148 hX CI_0 s_97 rfl r_97_3 fl_X3_70 rfl dX3_endDay_148 ?_
    refine w_iconst 0 151 hX ic_0 dX3_endDay_151 ?_
    obtain ⟨u3, gu3, h⟩ := o_bind h
    refine w_invSv (av := [.ref 101, .int 0]) (st := []) 152 hX ms_yJ7_fill_53178 mi_yJ7_fill_53178 ml_X3_219 (CJ7_fill_53178_101 0 u gu3) rfl (by decide) (Nat.le_of_ble_eq_true rfl) (Nat.le_refl _) (Nat.le_refl _) dX3_endDay_152 ?_
    refine w_aload_n 0 155 hX rfl rfl dX3_endDay_155 ?_
    refine w_iconst 4 156 hX ic_4 dX3_endDay_156 ?_
    refine w_iconst (-1) 157 hX ic_m1 dX3_endDay_157 ?_
    refine w_iconst 0 158 hX ic_0 dX3_endDay_158 ?_
    obtain ⟨u5, gu5, h⟩ := o_bind h
    refine w_invVv (av := [.int 4, .int (-1), .int 0]) (st := []) 159 hX CI_3 s_104 rfl mv_yX3_note mi_yX3_note ml_X3_153 (CX3_note_104 4 (-1) 0 u3 gu5) rfl (by decide) (Nat.le_of_ble_eq_true rfl) (Nat.le_refl _) (Nat.le_refl _) dX3_endDay_159 ?_
    exact w_vret 162 hX hR dX3_endDay_162 (by cases h; rfl)
def FX3_endDay_104_b128 (k54 : Int32 → Mem → Option Mem) (l1 : Int32) (u : Mem) : Option Mem :=
  k54 (l1 + 1) u
theorem bX3_endDay_104_128 {G : Gt} {X : Xt} {u' : Mem} (hX : CxOk G X cX3_endDay 2 RX3 (none, SH, RHO, u') 3) (hR : CxRet G X none (none, SH, RHO, u')) {k54 : Int32 → Mem → Option Mem} (hk54 : ∀ (l1 : Int32) (u : Mem), k54 l1 u = some u' → WM G X 54 [(0, .ref 104), (1, .int l1)] [] SH RHO u) (l1 : Int32) (u : Mem) (h : FX3_endDay_104_b128 k54 l1 u = some u') : WM G X 128 [(0, .ref 104), (1, .int l1)] [] SH RHO u := by
  unfold FX3_endDay_104_b128 at h
  refine w_iinc (lv' := [(1, .int (l1 + 1)), (0, .ref 104)]) 128 1 hX dX3_endDay_128 rfl (inc_1 _) (by decide) rfl ?_
  refine w_goto (tgt := 54) 131 hX (by decide) dX3_endDay_131 ?_
  exact w_sub [1, 0] rfl (hk54 (l1 + 1) u h)
def FX3_endDay_104_b54 (k54 : Int32 → Mem → Option Mem) (l1 : Int32) (u : Mem) : Option Mem :=
  (if 12 ≤ l1 then (FX3_endDay_104_b134 u) else ((if (u 1 0) ≤ l1 then (FX3_endDay_104_b134 u) else ((rdA u 101 12 l1).bind fun x3 => (if x3 = 2 then ((rdA u 103 12 l1).bind fun x5 => (if ((u 97 7) - x5) < (u 1 9) then (FX3_endDay_104_b128 k54 l1 u) else ((wrA u 101 12 l1 0).bind fun u7 => (FX3_note_104 5 l1 0 u7).bind fun u9 => FX3_endDay_104_b128 k54 l1 u9))) else (FX3_endDay_104_b128 k54 l1 u))))))
theorem bX3_endDay_104_54 {G : Gt} {X : Xt} {u' : Mem} (hX : CxOk G X cX3_endDay 2 RX3 (none, SH, RHO, u') 3) (hR : CxRet G X none (none, SH, RHO, u')) {k54 : Int32 → Mem → Option Mem} (hk54 : ∀ (l1 : Int32) (u : Mem), k54 l1 u = some u' → WM G X 54 [(0, .ref 104), (1, .int l1)] [] SH RHO u) (l1 : Int32) (u : Mem) (h : FX3_endDay_104_b54 k54 l1 u = some u') : WM G X 54 [(0, .ref 104), (1, .int l1)] [] SH RHO u := by
  unfold FX3_endDay_104_b54 at h
  refine w_iload_n 1 54 hX rfl rfl dX3_endDay_54 ?_
  refine w_bipush 12 55 hX ib_12 dX3_endDay_55 ?_
  refine w_icmp_ge (tgt := 134) 57 hX dX3_endDay_57 (by decide) (fun c1 => ?_) (fun c1 => ?_)
  · have h := it h c1
    exact w_sub [0] rfl (bX3_endDay_104_134 hX hR u h)
  · have h := ie h c1
    refine w_iload_n 1 60 hX rfl rfl dX3_endDay_60 ?_
    refine w_aload_n 0 61 hX rfl rfl dX3_endDay_61 ?_
    refine w_getR 62 hX CI_3 s_104 rfl r_104_0 fl_X3_17 rfl dX3_endDay_62 ?_
    refine w_getI (j := 0) 65 hX CI_9 s_1 rfl fl_X3_123 rfl dX3_endDay_65 ?_
    refine w_icmp_ge (tgt := 134) 68 hX dX3_endDay_68 (by decide) (fun c2 => ?_) (fun c2 => ?_)
    · have h := it h c2
      exact w_sub [0] rfl (bX3_endDay_104_134 hX hR u h)
    · have h := ie h c2
      refine w_aload_n 0 71 hX rfl rfl dX3_endDay_71 ?_
      refine w_getR 72 hX CI_3 s_104 rfl r_104_1 fl_X3_21 rfl dX3_endDay_72 ?_
      refine w_getR 75 hX CI_0 s_97 rfl r_97_3 fl_X3_70 rfl dX3_endDay_75 ?_
      refine w_iload_n 1 78 hX rfl rfl dX3_endDay_78 ?_
      obtain ⟨x3, gx3, h⟩ := o_bind h
      refine w_iald 79 hX s_101 gx3 dX3_endDay_79 ?_
      refine w_iconst 2 80 hX ic_2 dX3_endDay_80 ?_
      refine w_icmp_ne (tgt := 128) 81 hX dX3_endDay_81 (by decide) (fun c4 => ?_) (fun c4 => ?_)
      · have h := ie h c4
        exact bX3_endDay_104_128 hX hR hk54 l1 u h
      · have h := it h c4
        refine w_aload_n 0 84 hX rfl rfl dX3_endDay_84 ?_
        refine w_getR 85 hX CI_3 s_104 rfl r_104_1 fl_X3_21 rfl dX3_endDay_85 ?_
        refine w_getI (j := 7) 88 hX CI_0 s_97 rfl fl_X3_52 rfl dX3_endDay_88 ?_
        refine w_aload_n 0 91 hX rfl rfl dX3_endDay_91 ?_
        refine w_getR 92 hX CI_3 s_104 rfl r_104_1 fl_X3_21 rfl dX3_endDay_92 ?_
        refine w_getR 95 hX CI_0 s_97 rfl r_97_5 fl_X3_192 rfl dX3_endDay_95 ?_
        refine w_iload_n 1 98 hX rfl rfl dX3_endDay_98 ?_
        obtain ⟨x5, gx5, h⟩ := o_bind h
        refine w_iald 99 hX s_103 gx5 dX3_endDay_99 ?_
        refine w_isub 100 hX dX3_endDay_100 ?_
        refine w_aload_n 0 101 hX rfl rfl dX3_endDay_101 ?_
        refine w_getR 102 hX CI_3 s_104 rfl r_104_0 fl_X3_17 rfl dX3_endDay_102 ?_
        refine w_getI (j := 9) 105 hX CI_9 s_1 rfl fl_X3_216 rfl dX3_endDay_105 ?_
        refine w_icmp_lt (tgt := 128) 108 hX dX3_endDay_108 (by decide) (fun c6 => ?_) (fun c6 => ?_)
        · have h := it h c6
          exact bX3_endDay_104_128 hX hR hk54 l1 u h
        · have h := ie h c6
          refine w_aload_n 0 111 hX rfl rfl dX3_endDay_111 ?_
          refine w_getR 112 hX CI_3 s_104 rfl r_104_1 fl_X3_21 rfl dX3_endDay_112 ?_
          refine w_getR 115 hX CI_0 s_97 rfl r_97_3 fl_X3_70 rfl dX3_endDay_115 ?_
          refine w_iload_n 1 118 hX rfl rfl dX3_endDay_118 ?_
          refine w_iconst 0 119 hX ic_0 dX3_endDay_119 ?_
          obtain ⟨u7, gu7, h⟩ := o_bind h
          refine w_iast 120 hX s_101 gu7 dX3_endDay_120 ?_
          refine w_aload_n 0 121 hX rfl rfl dX3_endDay_121 ?_
          refine w_iconst 5 122 hX ic_5 dX3_endDay_122 ?_
          refine w_iload_n 1 123 hX rfl rfl dX3_endDay_123 ?_
          refine w_iconst 0 124 hX ic_0 dX3_endDay_124 ?_
          obtain ⟨u9, gu9, h⟩ := o_bind h
          refine w_invVv (av := [.int 5, .int l1, .int 0]) (st := []) 125 hX CI_3 s_104 rfl mv_yX3_note mi_yX3_note ml_X3_153 (CX3_note_104 5 l1 0 u7 gu9) rfl (by decide) (Nat.le_of_ble_eq_true rfl) (Nat.le_refl _) (Nat.le_refl _) dX3_endDay_125 ?_
          exact bX3_endDay_104_128 hX hR hk54 l1 u9 h
def FX3_endDay_104_L54 : Nat → Int32 → Mem → Option Mem
  | 0, _, _ => none
  | n + 1, l1, u => FX3_endDay_104_b54 (FX3_endDay_104_L54 n) l1 u
theorem lX3_endDay_104_54 {G : Gt} {X : Xt} {u' : Mem} (hX : CxOk G X cX3_endDay 2 RX3 (none, SH, RHO, u') 3) (hR : CxRet G X none (none, SH, RHO, u')) : ∀ (n : Nat) (l1 : Int32) (u : Mem), FX3_endDay_104_L54 n l1 u = some u' → WM G X 54 [(0, .ref 104), (1, .int l1)] [] SH RHO u := by
  intro n
  induction n with
  | zero =>
    intro l1 u h
    exact nn_ h
  | succ n ih =>
    intro l1 u h
    exact bX3_endDay_104_54 hX hR ih l1 u h
def FX3_endDay_104_b52 (u : Mem) : Option Mem :=
  FX3_endDay_104_L54 FU 0 u
theorem bX3_endDay_104_52 {G : Gt} {X : Xt} {u' : Mem} (hX : CxOk G X cX3_endDay 2 RX3 (none, SH, RHO, u') 3) (hR : CxRet G X none (none, SH, RHO, u')) (u : Mem) (h : FX3_endDay_104_b52 u = some u') : WM G X 52 [(0, .ref 104)] [] SH RHO u := by
  unfold FX3_endDay_104_b52 at h
  refine w_iconst 0 52 hX ic_0 dX3_endDay_52 ?_
  refine w_istore_n (lv' := [(1, .int 0), (0, .ref 104)]) 53 hX rfl dX3_endDay_53 (by decide) rfl ?_
  exact w_sub [1, 0] rfl (lX3_endDay_104_54 hX hR FU 0 u h)
def FX3_endDay_104_b44 (u : Mem) : Option Mem :=
  (some (mupd u 97 6 0)).bind fun u1 => FX3_endDay_104_b52 u1
theorem bX3_endDay_104_44 {G : Gt} {X : Xt} {u' : Mem} (hX : CxOk G X cX3_endDay 2 RX3 (none, SH, RHO, u') 3) (hR : CxRet G X none (none, SH, RHO, u')) (u : Mem) (h : FX3_endDay_104_b44 u = some u') : WM G X 44 [(0, .ref 104)] [] SH RHO u := by
  unfold FX3_endDay_104_b44 at h
  refine w_aload_n 0 44 hX rfl rfl dX3_endDay_44 ?_
  refine w_getR 45 hX CI_3 s_104 rfl r_104_1 fl_X3_21 rfl dX3_endDay_45 ?_
  refine w_iconst 0 48 hX ic_0 dX3_endDay_48 ?_
  obtain ⟨u1, gu1, h⟩ := o_bind h
  refine w_putI (j := 6) 49 hX CI_0 s_97 rfl fl_X3_33 rfl rfl rfl rfl dX3_endDay_49 ?_
  rw [Option.some.inj gu1]
  exact bX3_endDay_104_52 hX hR u1 h
def FX3_endDay_104 (u : Mem) : Option Mem :=
  (FX3_known_104 0 u).bind fun x1 => (FX9_weightOf_1 x1 u).bind fun x2 => (if x2 < (u 1 7) then (FX3_endDay_104_b44 u) else ((FX3_known_104 1 u).bind fun x4 => (FX9_weightOf_1 x4 u).bind fun x5 => (if (u 1 7) ≤ x5 then (FX3_endDay_104_b52 u) else (FX3_endDay_104_b44 u))))
theorem CX3_endDay_104 {G : Gt} (u : Mem) {u' : Mem} (h : FX3_endDay_104 u = some u') : CT G yX3_endDay cX3_endDay 2 none 3 [.ref 104] SH RHO u (none, SH, RHO, u') :=
  ct_of (by decide) rfl (Nat.le_of_ble_eq_true rfl) (Nat.le_refl _) (Nat.le_refl _) (fun X hX hR => by
  unfold FX3_endDay_104 at h
  refine w_aload_n 0 0 hX rfl rfl dX3_endDay_0 ?_
  refine w_getR 1 hX CI_3 s_104 rfl r_104_0 fl_X3_17 rfl dX3_endDay_1 ?_
  refine w_aload_n 0 4 hX rfl rfl dX3_endDay_4 ?_
  refine w_iconst 0 5 hX ic_0 dX3_endDay_5 ?_
  obtain ⟨x1, gx1, h⟩ := o_bind h
  refine w_invVi (av := [.int 0]) (st := [.ref 1]) 6 hX CI_3 s_104 rfl mv_yX3_known mi_yX3_known ml_X3_207 (CX3_known_104 0 u gx1) rfl (by decide) (Nat.le_of_ble_eq_true rfl) (Nat.le_refl _) (Nat.le_refl _) dX3_endDay_6 ?_
  obtain ⟨x2, gx2, h⟩ := o_bind h
  refine w_invVi (av := [.int x1]) (st := []) 9 hX CI_9 s_1 rfl mv_yX9_weightOf mi_yX9_weightOf ml_X3_210 (CX9_weightOf_1 x1 u gx2) rfl (by decide) (Nat.le_of_ble_eq_true rfl) (Nat.le_refl _) (Nat.le_refl _) dX3_endDay_9 ?_
  refine w_aload_n 0 12 hX rfl rfl dX3_endDay_12 ?_
  refine w_getR 13 hX CI_3 s_104 rfl r_104_0 fl_X3_17 rfl dX3_endDay_13 ?_
  refine w_getI (j := 7) 16 hX CI_9 s_1 rfl fl_X3_213 rfl dX3_endDay_16 ?_
  refine w_icmp_lt (tgt := 44) 19 hX dX3_endDay_19 (by decide) (fun c3 => ?_) (fun c3 => ?_)
  · have h := it h c3
    exact bX3_endDay_104_44 hX hR u h
  · have h := ie h c3
    refine w_aload_n 0 22 hX rfl rfl dX3_endDay_22 ?_
    refine w_getR 23 hX CI_3 s_104 rfl r_104_0 fl_X3_17 rfl dX3_endDay_23 ?_
    refine w_aload_n 0 26 hX rfl rfl dX3_endDay_26 ?_
    refine w_iconst 1 27 hX ic_1 dX3_endDay_27 ?_
    obtain ⟨x4, gx4, h⟩ := o_bind h
    refine w_invVi (av := [.int 1]) (st := [.ref 1]) 28 hX CI_3 s_104 rfl mv_yX3_known mi_yX3_known ml_X3_207 (CX3_known_104 1 u gx4) rfl (by decide) (Nat.le_of_ble_eq_true rfl) (Nat.le_refl _) (Nat.le_refl _) dX3_endDay_28 ?_
    obtain ⟨x5, gx5, h⟩ := o_bind h
    refine w_invVi (av := [.int x4]) (st := []) 31 hX CI_9 s_1 rfl mv_yX9_weightOf mi_yX9_weightOf ml_X3_210 (CX9_weightOf_1 x4 u gx5) rfl (by decide) (Nat.le_of_ble_eq_true rfl) (Nat.le_refl _) (Nat.le_refl _) dX3_endDay_31 ?_
    refine w_aload_n 0 34 hX rfl rfl dX3_endDay_34 ?_
    refine w_getR 35 hX CI_3 s_104 rfl r_104_0 fl_X3_17 rfl dX3_endDay_35 ?_
    refine w_getI (j := 7) 38 hX CI_9 s_1 rfl fl_X3_213 rfl dX3_endDay_38 ?_
    refine w_icmp_ge (tgt := 52) 41 hX dX3_endDay_41 (by decide) (fun c6 => ?_) (fun c6 => ?_)
    · have h := it h c6
      exact bX3_endDay_104_52 hX hR u h
    · have h := ie h c6
      exact bX3_endDay_104_44 hX hR u h)
def FX3_pass_104_b79 (u : Mem) : Option Mem :=
  (some (mupd u 97 7 ((u 97 7) + 1))).bind fun u1 => some u1
theorem bX3_pass_104_79 {G : Gt} {X : Xt} {u' : Mem} (hX : CxOk G X cX3_pass 2 RX3 (none, SH, RHO, u') 5) (hR : CxRet G X none (none, SH, RHO, u')) (u : Mem) (h : FX3_pass_104_b79 u = some u') : WM G X 79 [(0, .ref 104)] [] SH RHO u := by
  unfold FX3_pass_104_b79 at h
  refine w_aload_n 0 79 hX rfl rfl dX3_pass_79 ?_
  refine w_getR 80 hX CI_3 s_104 rfl r_104_1 fl_X3_21 rfl dX3_pass_80 ?_
  refine w_dup 83 hX rfl dX3_pass_83 ?_
  refine w_getI (j := 7) 84 hX CI_0 s_97 rfl fl_X3_52 rfl dX3_pass_84 ?_
  refine w_iconst 1 87 hX ic_1 dX3_pass_87 ?_
  refine w_iadd 88 hX dX3_pass_88 ?_
  obtain ⟨u1, gu1, h⟩ := o_bind h
  refine w_putI (j := 7) 89 hX CI_0 s_97 rfl fl_X3_52 rfl rfl rfl rfl dX3_pass_89 ?_
  rw [Option.some.inj gu1]
  exact w_vret 92 hX hR dX3_pass_92 (by cases h; rfl)
def FX3_pass_104_b71 (l1 : Int32) (u : Mem) : Option Mem :=
  (if l1 = 0 then (FX3_pass_104_b79 u) else ((FX3_endDay_104 u).bind fun u3 => FX3_pass_104_b79 u3))
theorem bX3_pass_104_71 {G : Gt} {X : Xt} {u' : Mem} (hX : CxOk G X cX3_pass 2 RX3 (none, SH, RHO, u') 5) (hR : CxRet G X none (none, SH, RHO, u')) (l1 : Int32) (u : Mem) (h : FX3_pass_104_b71 l1 u = some u') : WM G X 71 [(0, .ref 104), (1, .int l1)] [] SH RHO u := by
  unfold FX3_pass_104_b71 at h
  refine w_iload_n 1 71 hX rfl rfl dX3_pass_71 ?_
  refine w_if_eq (tgt := 79) 72 hX dX3_pass_72 (by decide) (fun c1 => ?_) (fun c1 => ?_)
  · have h := it h c1
    exact w_sub [0] rfl (bX3_pass_104_79 hX hR u h)
  · have h := ie h c1
    refine w_aload_n 0 75 hX rfl rfl dX3_pass_75 ?_
    obtain ⟨u3, gu3, h⟩ := o_bind h
    refine w_invVv (av := []) (st := []) 76 hX CI_3 s_104 rfl mv_yX3_endDay mi_yX3_endDay ml_X3_61 (CX3_endDay_104 u gu3) rfl (by decide) (Nat.le_of_ble_eq_true rfl) (Nat.le_refl _) (Nat.le_refl _) dX3_pass_76 ?_
    exact w_sub [0] rfl (bX3_pass_104_79 hX hR u3 h)
def FX3_pass_104_b60 (l1 : Int32) (u : Mem) : Option Mem :=
  (if (u 104 3) = 0 then (FX3_pass_104_b71 l1 u) else ((FX3_fade_104 u).bind fun u3 => FX3_pass_104_b71 l1 u3))
theorem bX3_pass_104_60 {G : Gt} {X : Xt} {u' : Mem} (hX : CxOk G X cX3_pass 2 RX3 (none, SH, RHO, u') 5) (hR : CxRet G X none (none, SH, RHO, u')) (l1 : Int32) (u : Mem) (h : FX3_pass_104_b60 l1 u = some u') : WM G X 60 [(0, .ref 104), (1, .int l1)] [] SH RHO u := by
  unfold FX3_pass_104_b60 at h
  refine w_aload_n 0 60 hX rfl rfl dX3_pass_60 ?_
  refine w_getI (j := 3) 61 hX CI_3 s_104 rfl fl_X3_29 rfl dX3_pass_61 ?_
  refine w_if_eq (tgt := 71) 64 hX dX3_pass_64 (by decide) (fun c1 => ?_) (fun c1 => ?_)
  · have h := it h c1
    exact bX3_pass_104_71 hX hR l1 u h
  · have h := ie h c1
    refine w_aload_n 0 67 hX rfl rfl dX3_pass_67 ?_
    obtain ⟨u3, gu3, h⟩ := o_bind h
    refine w_invVv (av := []) (st := []) 68 hX CI_3 s_104 rfl mv_yX3_fade mi_yX3_fade ml_X3_58 (CX3_fade_104 u gu3) rfl (by decide) (Nat.le_of_ble_eq_true rfl) (Nat.le_refl _) (Nat.le_refl _) dX3_pass_68 ?_
    exact bX3_pass_104_71 hX hR l1 u3 h
def FX3_pass_104_b43 (l1 : Int32) (u : Mem) : Option Mem :=
  (rmI (u 97 7) 7).bind fun x1 => (if x1 = 0 then ((FX3_tellOn_104 u).bind fun u4 => FX3_pass_104_b60 l1 u4) else (FX3_pass_104_b60 l1 u))
theorem bX3_pass_104_43 {G : Gt} {X : Xt} {u' : Mem} (hX : CxOk G X cX3_pass 2 RX3 (none, SH, RHO, u') 5) (hR : CxRet G X none (none, SH, RHO, u')) (l1 : Int32) (u : Mem) (h : FX3_pass_104_b43 l1 u = some u') : WM G X 43 [(0, .ref 104), (1, .int l1)] [] SH RHO u := by
  unfold FX3_pass_104_b43 at h
  refine w_aload_n 0 43 hX rfl rfl dX3_pass_43 ?_
  refine w_getR 44 hX CI_3 s_104 rfl r_104_1 fl_X3_21 rfl dX3_pass_44 ?_
  refine w_getI (j := 7) 47 hX CI_0 s_97 rfl fl_X3_52 rfl dX3_pass_47 ?_
  refine w_bipush 7 50 hX ib_7 dX3_pass_50 ?_
  obtain ⟨x1, gx1, h⟩ := o_bind h
  obtain ⟨qx1, jx1⟩ := rmI_ok gx1
  refine w_irem 52 hX qx1 dX3_pass_52 ?_
  rw [jx1]
  refine w_if_ne (tgt := 60) 53 hX dX3_pass_53 (by decide) (fun c2 => ?_) (fun c2 => ?_)
  · have h := ie h c2
    exact bX3_pass_104_60 hX hR l1 u h
  · have h := it h c2
    refine w_aload_n 0 56 hX rfl rfl dX3_pass_56 ?_
    obtain ⟨u4, gu4, h⟩ := o_bind h
    refine w_invVv (av := []) (st := []) 57 hX CI_3 s_104 rfl mv_yX3_tellOn mi_yX3_tellOn ml_X3_55 (CX3_tellOn_104 u gu4) rfl (by decide) (Nat.le_of_ble_eq_true rfl) (Nat.le_refl _) (Nat.le_refl _) dX3_pass_57 ?_
    exact bX3_pass_104_60 hX hR l1 u4 h
def FX3_pass_104_b16 (t0 : Int32) (u : Mem) : Option Mem :=
  (if t0 = 0 then (FX3_pass_104_b43 t0 u) else ((FX3_callUp_104 0 u).bind fun u3 => (FX3_callUp_104 1 u3).bind fun u5 => (FX3_goOn_104 u5).bind fun u7 => (FX3_fight_104 u7).bind fun u9 => (FX3_arrive_104 u9).bind fun u11 => FX3_pass_104_b43 t0 u11))
theorem bX3_pass_104_16 {G : Gt} {X : Xt} {u' : Mem} (hX : CxOk G X cX3_pass 2 RX3 (none, SH, RHO, u') 5) (hR : CxRet G X none (none, SH, RHO, u')) (t0 : Int32) (u : Mem) (h : FX3_pass_104_b16 t0 u = some u') : WM G X 16 [(0, .ref 104)] [.int t0] SH RHO u := by
  unfold FX3_pass_104_b16 at h
  refine w_istore_n (lv' := [(1, .int t0), (0, .ref 104)]) 16 hX rfl dX3_pass_16 (by decide) rfl ?_
  refine w_iload_n 0 17 hX rfl rfl dX3_pass_17 ?_
  refine w_if_eq (tgt := 43) 18 hX dX3_pass_18 (by decide) (fun c1 => ?_) (fun c1 => ?_)
  · have h := it h c1
    exact w_sub [1, 0] rfl (bX3_pass_104_43 hX hR t0 u h)
  · have h := ie h c1
    refine w_aload_n 1 21 hX rfl rfl dX3_pass_21 ?_
    refine w_iconst 0 22 hX ic_0 dX3_pass_22 ?_
    obtain ⟨u3, gu3, h⟩ := o_bind h
    refine w_invVv (av := [.int 0]) (st := []) 23 hX CI_3 s_104 rfl mv_yX3_callUp mi_yX3_callUp ml_X3_39 (CX3_callUp_104 0 u gu3) rfl (by decide) (Nat.le_of_ble_eq_true rfl) (Nat.le_refl _) (Nat.le_refl _) dX3_pass_23 ?_
    refine w_aload_n 1 26 hX rfl rfl dX3_pass_26 ?_
    refine w_iconst 1 27 hX ic_1 dX3_pass_27 ?_
    obtain ⟨u5, gu5, h⟩ := o_bind h
    refine w_invVv (av := [.int 1]) (st := []) 28 hX CI_3 s_104 rfl mv_yX3_callUp mi_yX3_callUp ml_X3_39 (CX3_callUp_104 1 u3 gu5) rfl (by decide) (Nat.le_of_ble_eq_true rfl) (Nat.le_refl _) (Nat.le_refl _) dX3_pass_28 ?_
    refine w_aload_n 1 31 hX rfl rfl dX3_pass_31 ?_
    obtain ⟨u7, gu7, h⟩ := o_bind h
    refine w_invVv (av := []) (st := []) 32 hX CI_3 s_104 rfl mv_yX3_goOn mi_yX3_goOn ml_X3_43 (CX3_goOn_104 u5 gu7) rfl (by decide) (Nat.le_of_ble_eq_true rfl) (Nat.le_refl _) (Nat.le_refl _) dX3_pass_32 ?_
    refine w_aload_n 1 35 hX rfl rfl dX3_pass_35 ?_
    obtain ⟨u9, gu9, h⟩ := o_bind h
    refine w_invVv (av := []) (st := []) 36 hX CI_3 s_104 rfl mv_yX3_fight mi_yX3_fight ml_X3_46 (CX3_fight_104 u7 gu9) rfl (by decide) (Nat.le_of_ble_eq_true rfl) (Nat.le_refl _) (Nat.le_refl _) dX3_pass_36 ?_
    refine w_aload_n 1 39 hX rfl rfl dX3_pass_39 ?_
    obtain ⟨u11, gu11, h⟩ := o_bind h
    refine w_invVv (av := []) (st := []) 40 hX CI_3 s_104 rfl mv_yX3_arrive mi_yX3_arrive ml_X3_49 (CX3_arrive_104 u9 gu11) rfl (by decide) (Nat.le_of_ble_eq_true rfl) (Nat.le_refl _) (Nat.le_refl _) dX3_pass_40 ?_
    exact w_sub [1, 0] rfl (bX3_pass_104_43 hX hR t0 u11 h)
def FX3_pass_104 (u : Mem) : Option Mem :=
  (if (u 97 6) = 1 then (FX3_pass_104_b16 1 u) else (FX3_pass_104_b16 0 u))
theorem CX3_pass_104 {G : Gt} (u : Mem) {u' : Mem} (h : FX3_pass_104 u = some u') : CT G yX3_pass cX3_pass 2 none 5 [.ref 104] SH RHO u (none, SH, RHO, u') :=
  ct_of (by decide) rfl (Nat.le_of_ble_eq_true rfl) (Nat.le_refl _) (Nat.le_refl _) (fun X hX hR => by
  unfold FX3_pass_104 at h
  refine w_aload_n 0 0 hX rfl rfl dX3_pass_0 ?_
  refine w_getR 1 hX CI_3 s_104 rfl r_104_1 fl_X3_21 rfl dX3_pass_1 ?_
  refine w_getI (j := 6) 4 hX CI_0 s_97 rfl fl_X3_33 rfl dX3_pass_4 ?_
  refine w_iconst 1 7 hX ic_1 dX3_pass_7 ?_
  refine w_icmp_ne (tgt := 15) 8 hX dX3_pass_8 (by decide) (fun c1 => ?_) (fun c1 => ?_)
  · have h := ie h c1
    refine w_iconst 0 15 hX ic_0 dX3_pass_15 ?_
    exact bX3_pass_104_16 hX hR 0 u h
  · have h := it h c1
    refine w_iconst 1 11 hX ic_1 dX3_pass_11 ?_
    refine w_goto (tgt := 16) 12 hX (by decide) dX3_pass_12 ?_
    exact bX3_pass_104_16 hX hR 1 u h)
def FX2_until_96_b31 (l2 : Int32) (u : Mem) : Option (Int32 × Mem) :=
  (if (u 97 6) = 0 then (some (l2, u)) else (some ((-1), u)))
theorem bX2_until_96_31 {G : Gt} {X : Xt} {v : Int32} {u' : Mem} (hX : CxOk G X cX2_until 3 RX2 (some (.int v), SH, RHO, u') 6) (hR : CxRet G X (some .int) (some (.int v), SH, RHO, u')) (l2 : Int32) (u : Mem) (h : FX2_until_96_b31 l2 u = some (v, u')) : WM G X 31 [(0, .ref 96), (2, .int l2)] [] SH RHO u := by
  unfold FX2_until_96_b31 at h
  refine w_aload_n 0 31 hX rfl rfl dX2_until_31 ?_
  refine w_getR 32 hX CI_2 s_96 rfl r_96_2 fl_X2_12 rfl dX2_until_32 ?_
  refine w_getI (j := 6) 35 hX CI_0 s_97 rfl fl_X2_84 rfl dX2_until_35 ?_
  refine w_if_ne (tgt := 45) 38 hX dX2_until_38 (by decide) (fun c1 => ?_) (fun c1 => ?_)
  · have h := ie h c1
    refine w_iconst (-1) 45 hX ic_m1 dX2_until_45 ?_
    exact w_iret 46 hX hR dX2_until_46 (by cases h; rfl)
  · have h := it h c1
    refine w_iload_n 1 41 hX rfl rfl dX2_until_41 ?_
    refine w_goto (tgt := 46) 42 hX (by decide) dX2_until_42 ?_
    exact w_iret 46 hX hR dX2_until_46 (by cases h; rfl)
def FX2_until_96_b2 (k2 : Int32 → Int32 → Mem → Option (Int32 × Mem)) (l1 l2 : Int32) (u : Mem) : Option (Int32 × Mem) :=
  (if l1 ≤ l2 then (FX2_until_96_b31 l2 u) else ((if (u 97 6) = 1 then ((FX3_pass_104 u).bind fun u4 => k2 l1 (l2 + 1) u4) else (FX2_until_96_b31 l2 u))))
theorem bX2_until_96_2 {G : Gt} {X : Xt} {v : Int32} {u' : Mem} (hX : CxOk G X cX2_until 3 RX2 (some (.int v), SH, RHO, u') 6) (hR : CxRet G X (some .int) (some (.int v), SH, RHO, u')) {k2 : Int32 → Int32 → Mem → Option (Int32 × Mem)} (hk2 : ∀ (l1 l2 : Int32) (u : Mem), k2 l1 l2 u = some (v, u') → WM G X 2 [(0, .ref 96), (1, .int l1), (2, .int l2)] [] SH RHO u) (l1 l2 : Int32) (u : Mem) (h : FX2_until_96_b2 k2 l1 l2 u = some (v, u')) : WM G X 2 [(0, .ref 96), (1, .int l1), (2, .int l2)] [] SH RHO u := by
  unfold FX2_until_96_b2 at h
  refine w_iload_n 2 2 hX rfl rfl dX2_until_2 ?_
  refine w_iload_n 1 3 hX rfl rfl dX2_until_3 ?_
  refine w_icmp_ge (tgt := 31) 4 hX dX2_until_4 (by decide) (fun c1 => ?_) (fun c1 => ?_)
  · have h := it h c1
    exact w_sub [0, 2] rfl (bX2_until_96_31 hX hR l2 u h)
  · have h := ie h c1
    refine w_aload_n 0 7 hX rfl rfl dX2_until_7 ?_
    refine w_getR 8 hX CI_2 s_96 rfl r_96_2 fl_X2_12 rfl dX2_until_8 ?_
    refine w_getI (j := 6) 11 hX CI_0 s_97 rfl fl_X2_84 rfl dX2_until_11 ?_
    refine w_iconst 1 14 hX ic_1 dX2_until_14 ?_
    refine w_icmp_ne (tgt := 31) 15 hX dX2_until_15 (by decide) (fun c2 => ?_) (fun c2 => ?_)
    · have h := ie h c2
      exact w_sub [0, 2] rfl (bX2_until_96_31 hX hR l2 u h)
    · have h := it h c2
      refine w_aload_n 0 18 hX rfl rfl dX2_until_18 ?_
      refine w_getR 19 hX CI_2 s_96 rfl r_96_3 fl_X2_30 rfl dX2_until_19 ?_
      obtain ⟨u4, gu4, h⟩ := o_bind h
      refine w_invVv (av := []) (st := []) 22 hX CI_3 s_104 rfl mv_yX3_pass mi_yX3_pass ml_X2_87 (CX3_pass_104 u gu4) rfl (by decide) (Nat.le_of_ble_eq_true rfl) (Nat.le_refl _) (Nat.le_refl _) dX2_until_22 ?_
      refine w_iinc (lv' := [(2, .int (l2 + 1)), (0, .ref 96), (1, .int l1)]) 25 2 hX dX2_until_25 rfl (inc_1 _) (by decide) rfl ?_
      refine w_goto (tgt := 2) 28 hX (by decide) dX2_until_28 ?_
      exact w_sub [1, 2, 0] rfl (hk2 l1 (l2 + 1) u4 h)
def FX2_until_96_L2 : Nat → Int32 → Int32 → Mem → Option (Int32 × Mem)
  | 0, _, _, _ => none
  | n + 1, l1, l2, u => FX2_until_96_b2 (FX2_until_96_L2 n) l1 l2 u
theorem lX2_until_96_2 {G : Gt} {X : Xt} {v : Int32} {u' : Mem} (hX : CxOk G X cX2_until 3 RX2 (some (.int v), SH, RHO, u') 6) (hR : CxRet G X (some .int) (some (.int v), SH, RHO, u')) : ∀ (n : Nat) (l1 l2 : Int32) (u : Mem), FX2_until_96_L2 n l1 l2 u = some (v, u') → WM G X 2 [(0, .ref 96), (1, .int l1), (2, .int l2)] [] SH RHO u := by
  intro n
  induction n with
  | zero =>
    intro l1 l2 u h
    exact nn_ h
  | succ n ih =>
    intro l1 l2 u h
    exact bX2_until_96_2 hX hR ih l1 l2 u h
def FX2_until_96 (p1 : Int32) (u : Mem) : Option (Int32 × Mem) :=
  FX2_until_96_L2 FU p1 0 u
theorem CX2_until_96 {G : Gt} (p1 : Int32) (u : Mem) {v : Int32} {u' : Mem} (h : FX2_until_96 p1 u = some (v, u')) : CT G yX2_until cX2_until 3 (some .int) 6 [.ref 96, .int p1] SH RHO u (some (.int v), SH, RHO, u') :=
  ct_of (by decide) rfl (Nat.le_of_ble_eq_true rfl) (Nat.le_refl _) (Nat.le_refl _) (fun X hX hR => by
  unfold FX2_until_96 at h
  refine w_iconst 0 0 hX ic_0 dX2_until_0 ?_
  refine w_istore_n (lv' := [(2, .int 0), (0, .ref 96), (1, .int p1)]) 1 hX rfl dX2_until_1 (by decide) rfl ?_
  exact w_sub [1, 2, 0] rfl (lX2_until_96_2 hX hR FU p1 0 u h))
def FX3_breathOf_104_b56 (l2 : Int32) (u : Mem) : Option Int32 :=
  some l2
theorem bX3_breathOf_104_56 {G : Gt} {X : Xt} {v : Int32} {u : Mem} (hX : CxOk G X cX3_breathOf 4 RX3 (some (.int v), SH, RHO, u) 1) (hR : CxRet G X (some .int) (some (.int v), SH, RHO, u)) (l2 : Int32) (h : FX3_breathOf_104_b56 l2 u = some v) : WM G X 56 [(2, .int l2)] [] SH RHO u := by
  unfold FX3_breathOf_104_b56 at h
  refine w_iload_n 0 56 hX rfl rfl dX3_breathOf_56 ?_
  exact w_iret 57 hX hR dX3_breathOf_57 (by cases h; rfl)
def FX3_breathOf_104_b48 (k4 : Int32 → Int32 → Int32 → Mem → Option Int32) (l1 l3 t0 t1 : Int32) (u : Mem) : Option Int32 :=
  k4 l1 (t0 + t1) (l3 + 1) u
theorem bX3_breathOf_104_48 {G : Gt} {X : Xt} {v : Int32} {u : Mem} (hX : CxOk G X cX3_breathOf 4 RX3 (some (.int v), SH, RHO, u) 1) (hR : CxRet G X (some .int) (some (.int v), SH, RHO, u)) {k4 : Int32 → Int32 → Int32 → Mem → Option Int32} (hk4 : ∀ (l1 l2 l3 : Int32), k4 l1 l2 l3 u = some v → WM G X 4 [(0, .ref 104), (1, .int l1), (2, .int l2), (3, .int l3)] [] SH RHO u) (l1 l3 t0 t1 : Int32) (h : FX3_breathOf_104_b48 k4 l1 l3 t0 t1 u = some v) : WM G X 48 [(0, .ref 104), (1, .int l1), (3, .int l3)] [.int t1, .int t0] SH RHO u := by
  unfold FX3_breathOf_104_b48 at h
  refine w_iadd 48 hX dX3_breathOf_48 ?_
  refine w_istore_n (lv' := [(2, .int (t0 + t1)), (0, .ref 104), (1, .int l1), (3, .int l3)]) 49 hX rfl dX3_breathOf_49 (by decide) rfl ?_
  refine w_iinc (lv' := [(3, .int (l3 + 1)), (2, .int (t0 + t1)), (0, .ref 104), (1, .int l1)]) 50 3 hX dX3_breathOf_50 rfl (inc_1 _) (by decide) rfl ?_
  refine w_goto (tgt := 4) 53 hX (by decide) dX3_breathOf_53 ?_
  exact w_sub [2, 3, 1, 0] rfl (hk4 l1 (t0 + t1) (l3 + 1) h)
def FX3_breathOf_104_b4 (k4 : Int32 → Int32 → Int32 → Mem → Option Int32) (l1 l2 l3 : Int32) (u : Mem) : Option Int32 :=
  (if 12 ≤ l3 then (FX3_breathOf_104_b56 l2 u) else ((if (u 1 0) ≤ l3 then (FX3_breathOf_104_b56 l2 u) else ((rdA u 2 12 l3).bind fun x3 => (if x3 = l1 then ((rdA u 98 12 l3).bind fun x5 => FX3_breathOf_104_b48 k4 l1 l3 l2 x5 u) else (FX3_breathOf_104_b48 k4 l1 l3 l2 0 u))))))
theorem bX3_breathOf_104_4 {G : Gt} {X : Xt} {v : Int32} {u : Mem} (hX : CxOk G X cX3_breathOf 4 RX3 (some (.int v), SH, RHO, u) 1) (hR : CxRet G X (some .int) (some (.int v), SH, RHO, u)) {k4 : Int32 → Int32 → Int32 → Mem → Option Int32} (hk4 : ∀ (l1 l2 l3 : Int32), k4 l1 l2 l3 u = some v → WM G X 4 [(0, .ref 104), (1, .int l1), (2, .int l2), (3, .int l3)] [] SH RHO u) (l1 l2 l3 : Int32) (h : FX3_breathOf_104_b4 k4 l1 l2 l3 u = some v) : WM G X 4 [(0, .ref 104), (1, .int l1), (2, .int l2), (3, .int l3)] [] SH RHO u := by
  unfold FX3_breathOf_104_b4 at h
  refine w_iload_n 3 4 hX rfl rfl dX3_breathOf_4 ?_
  refine w_bipush 12 5 hX ib_12 dX3_breathOf_5 ?_
  refine w_icmp_ge (tgt := 56) 7 hX dX3_breathOf_7 (by decide) (fun c1 => ?_) (fun c1 => ?_)
  · have h := it h c1
    exact w_sub [2] rfl (bX3_breathOf_104_56 hX hR l2 h)
  · have h := ie h c1
    refine w_iload_n 3 10 hX rfl rfl dX3_breathOf_10 ?_
    refine w_aload_n 0 11 hX rfl rfl dX3_breathOf_11 ?_
    refine w_getR 12 hX CI_3 s_104 rfl r_104_0 fl_X3_17 rfl dX3_breathOf_12 ?_
    refine w_getI (j := 0) 15 hX CI_9 s_1 rfl fl_X3_123 rfl dX3_breathOf_15 ?_
    refine w_icmp_ge (tgt := 56) 18 hX dX3_breathOf_18 (by decide) (fun c2 => ?_) (fun c2 => ?_)
    · have h := it h c2
      exact w_sub [2] rfl (bX3_breathOf_104_56 hX hR l2 h)
    · have h := ie h c2
      refine w_iload_n 2 21 hX rfl rfl dX3_breathOf_21 ?_
      refine w_aload_n 0 22 hX rfl rfl dX3_breathOf_22 ?_
      refine w_getR 23 hX CI_3 s_104 rfl r_104_0 fl_X3_17 rfl dX3_breathOf_23 ?_
      refine w_getR 26 hX CI_9 s_1 rfl r_1_1 fl_X3_73 rfl dX3_breathOf_26 ?_
      refine w_iload_n 3 29 hX rfl rfl dX3_breathOf_29 ?_
      obtain ⟨x3, gx3, h⟩ := o_bind h
      refine w_iald 30 hX s_2 gx3 dX3_breathOf_30 ?_
      refine w_iload_n 1 31 hX rfl rfl dX3_breathOf_31 ?_
      refine w_icmp_ne (tgt := 47) 32 hX dX3_breathOf_32 (by decide) (fun c4 => ?_) (fun c4 => ?_)
      · have h := ie h c4
        refine w_iconst 0 47 hX ic_0 dX3_breathOf_47 ?_
        exact w_sub [0, 1, 3] rfl (bX3_breathOf_104_48 hX hR hk4 l1 l3 l2 0 h)
      · have h := it h c4
        refine w_aload_n 0 35 hX rfl rfl dX3_breathOf_35 ?_
        refine w_getR 36 hX CI_3 s_104 rfl r_104_1 fl_X3_21 rfl dX3_breathOf_36 ?_
        refine w_getR 39 hX CI_0 s_97 rfl r_97_0 fl_X3_82 rfl dX3_breathOf_39 ?_
        refine w_iload_n 3 42 hX rfl rfl dX3_breathOf_42 ?_
        obtain ⟨x5, gx5, h⟩ := o_bind h
        refine w_iald 43 hX s_98 gx5 dX3_breathOf_43 ?_
        refine w_goto (tgt := 48) 44 hX (by decide) dX3_breathOf_44 ?_
        exact w_sub [0, 1, 3] rfl (bX3_breathOf_104_48 hX hR hk4 l1 l3 l2 x5 h)
def FX3_breathOf_104_L4 : Nat → Int32 → Int32 → Int32 → Mem → Option Int32
  | 0, _, _, _, _ => none
  | n + 1, l1, l2, l3, u => FX3_breathOf_104_b4 (FX3_breathOf_104_L4 n) l1 l2 l3 u
theorem lX3_breathOf_104_4 {G : Gt} {X : Xt} {v : Int32} {u : Mem} (hX : CxOk G X cX3_breathOf 4 RX3 (some (.int v), SH, RHO, u) 1) (hR : CxRet G X (some .int) (some (.int v), SH, RHO, u)) : ∀ (n : Nat) (l1 l2 l3 : Int32), FX3_breathOf_104_L4 n l1 l2 l3 u = some v → WM G X 4 [(0, .ref 104), (1, .int l1), (2, .int l2), (3, .int l3)] [] SH RHO u := by
  intro n
  induction n with
  | zero =>
    intro l1 l2 l3 h
    exact nn_ h
  | succ n ih =>
    intro l1 l2 l3 h
    exact bX3_breathOf_104_4 hX hR ih l1 l2 l3 h
def FX3_breathOf_104 (p1 : Int32) (u : Mem) : Option Int32 :=
  FX3_breathOf_104_L4 FU p1 0 0 u
theorem CX3_breathOf_104 {G : Gt} (p1 : Int32) (u : Mem) {v : Int32} (h : FX3_breathOf_104 p1 u = some v) : CT G yX3_breathOf cX3_breathOf 4 (some .int) 1 [.ref 104, .int p1] SH RHO u (some (.int v), SH, RHO, u) :=
  ct_of (by decide) rfl (Nat.le_of_ble_eq_true rfl) (Nat.le_refl _) (Nat.le_refl _) (fun X hX hR => by
  unfold FX3_breathOf_104 at h
  refine w_iconst 0 0 hX ic_0 dX3_breathOf_0 ?_
  refine w_istore_n (lv' := [(2, .int 0), (0, .ref 104), (1, .int p1)]) 1 hX rfl dX3_breathOf_1 (by decide) rfl ?_
  refine w_iconst 0 2 hX ic_0 dX3_breathOf_2 ?_
  refine w_istore_n (lv' := [(3, .int 0), (2, .int 0), (0, .ref 104), (1, .int p1)]) 3 hX rfl dX3_breathOf_3 (by decide) rfl ?_
  exact w_sub [2, 3, 1, 0] rfl (lX3_breathOf_104_4 hX hR FU p1 0 0 h))
def FX2_lasting_96 (p1 : Int32) (u : Mem) : Option (Int32 × Mem) :=
  (FX2_imagine_96 0 u).bind fun u2 => bnd2 (FX2_until_96 99 u2) fun x3 u4 => (if p1 = 0 then (some (x3, u4)) else ((if p1 = 1 then (some (u4 104 6, u4)) else ((FX3_breathOf_104 (p1 - 2) u4).bind fun x7 => some (x7, u4)))))
theorem CX2_lasting_96 {G : Gt} (p1 : Int32) (u : Mem) {v : Int32} {u' : Mem} (h : FX2_lasting_96 p1 u = some (v, u')) : CT G yX2_lasting cX2_lasting 3 (some .int) 7 [.ref 96, .int p1] SH RHO u (some (.int v), SH, RHO, u') :=
  ct_of (by decide) rfl (Nat.le_of_ble_eq_true rfl) (Nat.le_refl _) (Nat.le_refl _) (fun X hX hR => by
  unfold FX2_lasting_96 at h
  refine w_aload_n 0 0 hX rfl rfl dX2_lasting_0 ?_
  refine w_iconst 0 1 hX ic_0 dX2_lasting_1 ?_
  obtain ⟨u2, gu2, h⟩ := o_bind h
  refine w_invVv (av := [.int 0]) (st := []) 2 hX CI_2 s_96 rfl mv_yX2_imagine mi_yX2_imagine ml_X2_34 (CX2_imagine_96 0 u gu2) rfl (by decide) (Nat.le_of_ble_eq_true rfl) (Nat.le_refl _) (Nat.le_refl _) dX2_lasting_2 ?_
  refine w_aload_n 0 5 hX rfl rfl dX2_lasting_5 ?_
  refine w_bipush 99 6 hX ib_99 dX2_lasting_6 ?_
  obtain ⟨x3, u4, gx3, h⟩ := o_bnd2 h
  refine w_invVi (av := [.int 99]) (st := []) 8 hX CI_2 s_96 rfl mv_yX2_until mi_yX2_until ml_X2_38 (CX2_until_96 99 u2 gx3) rfl (by decide) (Nat.le_of_ble_eq_true rfl) (Nat.le_refl _) (Nat.le_refl _) dX2_lasting_8 ?_
  refine w_istore_n (lv' := [(2, .int x3), (0, .ref 96), (1, .int p1)]) 11 hX rfl dX2_lasting_11 (by decide) rfl ?_
  refine w_iload_n 2 12 hX rfl rfl dX2_lasting_12 ?_
  by_cases c5 : p1 = 0
  · have h := it h c5
    refine w_lookup (tgt := 40) (off := 27) 13 hX dX2_lasting_13 (by decide) (by rw [c5]; decide) (by decide) ?_
    refine w_iload_n 0 40 hX rfl rfl dX2_lasting_40 ?_
    exact w_iret 41 hX hR dX2_lasting_41 (by cases h; rfl)
  · have h := ie h c5
    by_cases c6 : p1 = 1
    · have h := it h c6
      refine w_lookup (tgt := 42) (off := 29) 13 hX dX2_lasting_13 (by decide) (by rw [c6]; decide) (by decide) ?_
      refine w_aload_n 1 42 hX rfl rfl dX2_lasting_42 ?_
      refine w_getR 43 hX CI_2 s_96 rfl r_96_3 fl_X2_30 rfl dX2_lasting_43 ?_
      refine w_getI (j := 6) 46 hX CI_3 s_104 rfl fl_X2_42 rfl dX2_lasting_46 ?_
      exact w_iret 49 hX hR dX2_lasting_49 (by cases h; rfl)
    · have h := ie h c6
      have zc5 := lv_neT c5 (a := 0) (by decide)
      have zc6 := lv_neT c6 (a := 1) (by decide)
      refine w_lookup (tgt := 50) (off := 37) 13 hX dX2_lasting_13 (by decide) (by show Op.lookupswitch.offset [(0, 27), (1, 29)] 37 _ = _; rw [lv_osw c5 (by decide), lv_osw c6 (by decide)]; rfl) (by decide) ?_
      refine w_aload_n 1 50 hX rfl rfl dX2_lasting_50 ?_
      refine w_getR 51 hX CI_2 s_96 rfl r_96_3 fl_X2_30 rfl dX2_lasting_51 ?_
      refine w_iload_n 2 54 hX rfl rfl dX2_lasting_54 ?_
      refine w_iconst 2 55 hX ic_2 dX2_lasting_55 ?_
      refine w_isub 56 hX dX2_lasting_56 ?_
      obtain ⟨x7, gx7, h⟩ := o_bind h
      refine w_invVi (av := [.int (p1 - 2)]) (st := []) 57 hX CI_3 s_104 rfl mv_yX3_breathOf mi_yX3_breathOf ml_X2_46 (CX3_breathOf_104 (p1 - 2) u4 gx7) rfl (by decide) (Nat.le_of_ble_eq_true rfl) (Nat.le_refl _) (Nat.le_refl _) dX2_lasting_57 ?_
      exact w_iret 60 hX hR dX2_lasting_60 (by cases h; rfl))
def FX11_lasts_0 (p1 : Int32) (u : Mem) : Option (Int32 × Mem) :=
  (if p1 < 0 then (some ((-1), u)) else ((if p1 ≤ 3 then (bnd2 (FX2_lasting_96 p1 u) fun x3 u4 => some (x3, u4)) else (some ((-1), u)))))
theorem CX11_lasts_0 {G : Gt} (p1 : Int32) (u : Mem) {v : Int32} {u' : Mem} (h : FX11_lasts_0 p1 u = some (v, u')) : CT G yX11_lasts cX11_lasts 2 (some .int) 8 [.ref 0, .int p1] SH RHO u (some (.int v), SH, RHO, u') :=
  ct_of (by decide) rfl (Nat.le_of_ble_eq_true rfl) (Nat.le_refl _) (Nat.le_refl _) (fun X hX hR => by
  unfold FX11_lasts_0 at h
  refine w_iload_n 1 0 hX rfl rfl dX11_lasts_0 ?_
  refine w_if_lt (tgt := 9) 1 hX dX11_lasts_1 (by decide) (fun c1 => ?_) (fun c1 => ?_)
  · have h := it h c1
    refine w_iconst (-1) 9 hX ic_m1 dX11_lasts_9 ?_
    refine w_goto (tgt := 21) 10 hX (by decide) dX11_lasts_10 ?_
    exact w_iret 21 hX hR dX11_lasts_21 (by cases h; rfl)
  · have h := ie h c1
    refine w_iload_n 1 4 hX rfl rfl dX11_lasts_4 ?_
    refine w_iconst 3 5 hX ic_3 dX11_lasts_5 ?_
    refine w_icmp_le (tgt := 13) 6 hX dX11_lasts_6 (by decide) (fun c2 => ?_) (fun c2 => ?_)
    · have h := it h c2
      refine w_aload_n 0 13 hX rfl rfl dX11_lasts_13 ?_
      refine w_getR 14 hX CI_11 s_0 rfl r_0_6 fl_X11_58 rfl dX11_lasts_14 ?_
      refine w_iload_n 1 17 hX rfl rfl dX11_lasts_17 ?_
      obtain ⟨x3, u4, gx3, h⟩ := o_bnd2 h
      refine w_invVi (av := [.int p1]) (st := []) 18 hX CI_2 s_96 rfl mv_yX2_lasting mi_yX2_lasting ml_X11_216 (CX2_lasting_96 p1 u gx3) rfl (by decide) (Nat.le_of_ble_eq_true rfl) (Nat.le_refl _) (Nat.le_refl _) dX11_lasts_18 ?_
      exact w_iret 21 hX hR dX11_lasts_21 (by cases h; rfl)
    · have h := ie h c2
      refine w_iconst (-1) 9 hX ic_m1 dX11_lasts_9 ?_
      refine w_goto (tgt := 21) 10 hX (by decide) dX11_lasts_10 ?_
      exact w_iret 21 hX hR dX11_lasts_21 (by cases h; rfl))
def FX12_lastsWith_146_b172 (k172 : Int32 → Int32 → Int32 → Mem → Option (Int32 × Mem)) (l3 l4 l5 : Int32) (u : Mem) : Option (Int32 × Mem) :=
  (if 78 ≤ l5 then ((some (mupd u 146 27 0)).bind fun u2 => (if l4 = 0 then (some (1000000, u2)) else (some (l3, u2)))) else ((rdA u 150 78 l5).bind fun x4 => (wrA u 147 1786 l5 x4).bind fun u5 => k172 l3 l4 (l5 + 1) u5))
theorem bX12_lastsWith_146_172 {G : Gt} {X : Xt} {v : Int32} {u' : Mem} (hX : CxOk G X cX12_lastsWith 6 RX12 (some (.int v), SH, RHO, u') 10) (hR : CxRet G X (some .int) (some (.int v), SH, RHO, u')) {k172 : Int32 → Int32 → Int32 → Mem → Option (Int32 × Mem)} (hk172 : ∀ (l3 l4 l5 : Int32) (u : Mem), k172 l3 l4 l5 u = some (v, u') → WM G X 172 [(0, .ref 146), (3, .int l3), (4, .int l4), (5, .int l5)] [] SH RHO u) (l3 l4 l5 : Int32) (u : Mem) (h : FX12_lastsWith_146_b172 k172 l3 l4 l5 u = some (v, u')) : WM G X 172 [(0, .ref 146), (3, .int l3), (4, .int l4), (5, .int l5)] [] SH RHO u := by
  unfold FX12_lastsWith_146_b172 at h
  refine w_iload 3 172 hX rfl dX12_lastsWith_172 ?_
  refine w_bipush 78 174 hX ib_78 dX12_lastsWith_174 ?_
  refine w_icmp_ge (tgt := 199) 176 hX dX12_lastsWith_176 (by decide) (fun c1 => ?_) (fun c1 => ?_)
  · have h := it h c1
    refine w_aload_n 0 199 hX rfl rfl dX12_lastsWith_199 ?_
    refine w_iconst 0 200 hX ic_0 dX12_lastsWith_200 ?_
    obtain ⟨u2, gu2, h⟩ := o_bind h
    refine w_putI (j := 27) 201 hX CI_12 s_146 rfl fl_X12_303 rfl rfl rfl rfl dX12_lastsWith_201 ?_
    rw [Option.some.inj gu2]
    refine w_iload 2 204 hX rfl dX12_lastsWith_204 ?_
    refine w_if_eq (tgt := 213) 206 hX dX12_lastsWith_206 (by decide) (fun c3 => ?_) (fun c3 => ?_)
    · have h := it h c3
      refine w_ldcw 1000000 213 hX cs_X12_420 dX12_lastsWith_213 ?_
      exact w_iret 216 hX hR dX12_lastsWith_216 (by cases h; rfl)
    · have h := ie h c3
      refine w_iload_n 1 209 hX rfl rfl dX12_lastsWith_209 ?_
      refine w_goto (tgt := 216) 210 hX (by decide) dX12_lastsWith_210 ?_
      exact w_iret 216 hX hR dX12_lastsWith_216 (by cases h; rfl)
  · have h := ie h c1
    refine w_aload_n 0 179 hX rfl rfl dX12_lastsWith_179 ?_
    refine w_getR 180 hX CI_12 s_146 rfl r_146_0 fl_X12_7 rfl dX12_lastsWith_180 ?_
    refine w_iload 3 183 hX rfl dX12_lastsWith_183 ?_
    refine w_aload_n 0 185 hX rfl rfl dX12_lastsWith_185 ?_
    refine w_getR 186 hX CI_12 s_146 rfl r_146_3 fl_X12_19 rfl dX12_lastsWith_186 ?_
    refine w_iload 3 189 hX rfl dX12_lastsWith_189 ?_
    obtain ⟨x4, gx4, h⟩ := o_bind h
    refine w_iald 191 hX s_150 gx4 dX12_lastsWith_191 ?_
    obtain ⟨u5, gu5, h⟩ := o_bind h
    refine w_iast 192 hX s_147 gu5 dX12_lastsWith_192 ?_
    refine w_iinc (lv' := [(5, .int (l5 + 1)), (0, .ref 146), (3, .int l3), (4, .int l4)]) 193 3 hX dX12_lastsWith_193 rfl (inc_1 _) (by decide) rfl ?_
    refine w_goto (tgt := 172) 196 hX (by decide) dX12_lastsWith_196 ?_
    exact w_sub [1, 2, 3, 0] rfl (hk172 l3 l4 (l5 + 1) u5 h)
def FX12_lastsWith_146_L172 : Nat → Int32 → Int32 → Int32 → Mem → Option (Int32 × Mem)
  | 0, _, _, _, _ => none
  | n + 1, l3, l4, l5, u => FX12_lastsWith_146_b172 (FX12_lastsWith_146_L172 n) l3 l4 l5 u
theorem lX12_lastsWith_146_172 {G : Gt} {X : Xt} {v : Int32} {u' : Mem} (hX : CxOk G X cX12_lastsWith 6 RX12 (some (.int v), SH, RHO, u') 10) (hR : CxRet G X (some .int) (some (.int v), SH, RHO, u')) : ∀ (n : Nat) (l3 l4 l5 : Int32) (u : Mem), FX12_lastsWith_146_L172 n l3 l4 l5 u = some (v, u') → WM G X 172 [(0, .ref 146), (3, .int l3), (4, .int l4), (5, .int l5)] [] SH RHO u := by
  intro n
  induction n with
  | zero =>
    intro l3 l4 l5 u h
    exact nn_ h
  | succ n ih =>
    intro l3 l4 l5 u h
    exact bX12_lastsWith_146_172 hX hR ih l3 l4 l5 u h
def FX12_lastsWith_146_b122 (k122 : Int32 → Int32 → Int32 → Mem → Option (Int32 × Mem)) (l3 l4 l5 : Int32) (u : Mem) : Option (Int32 × Mem) :=
  (if (u 147 78) ≤ l5 then (FX12_lastsWith_146_L172 FU l3 l4 0 u) else ((rdA u 147 1786 (90 + l5)).bind fun x2 => (rdA u 157 4 (2 + x2)).bind fun x3 => (rdA u 147 1786 (4 + l5)).bind fun x4 => (wrA u 157 4 (2 + x2) (x3 + x4)).bind fun u5 => k122 l3 l4 (l5 + 1) u5))
theorem bX12_lastsWith_146_122 {G : Gt} {X : Xt} {v : Int32} {u' : Mem} (hX : CxOk G X cX12_lastsWith 6 RX12 (some (.int v), SH, RHO, u') 10) (hR : CxRet G X (some .int) (some (.int v), SH, RHO, u')) {k122 : Int32 → Int32 → Int32 → Mem → Option (Int32 × Mem)} (hk122 : ∀ (l3 l4 l5 : Int32) (u : Mem), k122 l3 l4 l5 u = some (v, u') → WM G X 122 [(0, .ref 146), (3, .int l3), (4, .int l4), (5, .int l5)] [] SH RHO u) (l3 l4 l5 : Int32) (u : Mem) (h : FX12_lastsWith_146_b122 k122 l3 l4 l5 u = some (v, u')) : WM G X 122 [(0, .ref 146), (3, .int l3), (4, .int l4), (5, .int l5)] [] SH RHO u := by
  unfold FX12_lastsWith_146_b122 at h
  refine w_iload 3 122 hX rfl dX12_lastsWith_122 ?_
  refine w_aload_n 0 124 hX rfl rfl dX12_lastsWith_124 ?_
  refine w_getR 125 hX CI_12 s_146 rfl r_146_0 fl_X12_7 rfl dX12_lastsWith_125 ?_
  refine w_bipush 78 128 hX ib_78 dX12_lastsWith_128 ?_
  refine w_iald 130 hX s_147 (rdK 78 78 n_78 (by decide) (by decide)) dX12_lastsWith_130 ?_
  refine w_icmp_ge (tgt := 169) 131 hX dX12_lastsWith_131 (by decide) (fun c1 => ?_) (fun c1 => ?_)
  · have h := it h c1
    refine w_iconst 0 169 hX ic_0 dX12_lastsWith_169 ?_
    refine w_istore (lv' := [(5, .int 0), (0, .ref 146), (3, .int l3), (4, .int l4)]) 170 hX dX12_lastsWith_170 (by decide) rfl ?_
    exact w_sub [1, 2, 3, 0] rfl (lX12_lastsWith_146_172 hX hR FU l3 l4 0 u h)
  · have h := ie h c1
    refine w_aload_n 0 134 hX rfl rfl dX12_lastsWith_134 ?_
    refine w_getR 135 hX CI_12 s_146 rfl r_146_30 fl_X12_44 rfl dX12_lastsWith_135 ?_
    refine w_iconst 2 138 hX ic_2 dX12_lastsWith_138 ?_
    refine w_aload_n 0 139 hX rfl rfl dX12_lastsWith_139 ?_
    refine w_getR 140 hX CI_12 s_146 rfl r_146_0 fl_X12_7 rfl dX12_lastsWith_140 ?_
    refine w_bipush 90 143 hX ib_90 dX12_lastsWith_143 ?_
    refine w_iload 3 145 hX rfl dX12_lastsWith_145 ?_
    refine w_iadd 147 hX dX12_lastsWith_147 ?_
    obtain ⟨x2, gx2, h⟩ := o_bind h
    refine w_iald 148 hX s_147 gx2 dX12_lastsWith_148 ?_
    refine w_iadd 149 hX dX12_lastsWith_149 ?_
    refine w_dup2 150 hX rfl rfl dX12_lastsWith_150 ?_
    obtain ⟨x3, gx3, h⟩ := o_bind h
    refine w_iald 151 hX s_157 gx3 dX12_lastsWith_151 ?_
    refine w_aload_n 0 152 hX rfl rfl dX12_lastsWith_152 ?_
    refine w_getR 153 hX CI_12 s_146 rfl r_146_0 fl_X12_7 rfl dX12_lastsWith_153 ?_
    refine w_iconst 4 156 hX ic_4 dX12_lastsWith_156 ?_
    refine w_iload 3 157 hX rfl dX12_lastsWith_157 ?_
    refine w_iadd 159 hX dX12_lastsWith_159 ?_
    obtain ⟨x4, gx4, h⟩ := o_bind h
    refine w_iald 160 hX s_147 gx4 dX12_lastsWith_160 ?_
    refine w_iadd 161 hX dX12_lastsWith_161 ?_
    obtain ⟨u5, gu5, h⟩ := o_bind h
    refine w_iast 162 hX s_157 gu5 dX12_lastsWith_162 ?_
    refine w_iinc (lv' := [(5, .int (l5 + 1)), (0, .ref 146), (3, .int l3), (4, .int l4)]) 163 3 hX dX12_lastsWith_163 rfl (inc_1 _) (by decide) rfl ?_
    refine w_goto (tgt := 122) 166 hX (by decide) dX12_lastsWith_166 ?_
    exact w_sub [1, 2, 3, 0] rfl (hk122 l3 l4 (l5 + 1) u5 h)
def FX12_lastsWith_146_L122 : Nat → Int32 → Int32 → Int32 → Mem → Option (Int32 × Mem)
  | 0, _, _, _, _ => none
  | n + 1, l3, l4, l5, u => FX12_lastsWith_146_b122 (FX12_lastsWith_146_L122 n) l3 l4 l5 u
theorem lX12_lastsWith_146_122 {G : Gt} {X : Xt} {v : Int32} {u' : Mem} (hX : CxOk G X cX12_lastsWith 6 RX12 (some (.int v), SH, RHO, u') 10) (hR : CxRet G X (some .int) (some (.int v), SH, RHO, u')) : ∀ (n : Nat) (l3 l4 l5 : Int32) (u : Mem), FX12_lastsWith_146_L122 n l3 l4 l5 u = some (v, u') → WM G X 122 [(0, .ref 146), (3, .int l3), (4, .int l4), (5, .int l5)] [] SH RHO u := by
  intro n
  induction n with
  | zero =>
    intro l3 l4 l5 u h
    exact nn_ h
  | succ n ih =>
    intro l3 l4 l5 u h
    exact bX12_lastsWith_146_122 hX hR ih l3 l4 l5 u h
def FX12_lastsWith_146_b93 (l3 t0 : Int32) (u : Mem) : Option (Int32 × Mem) :=
  (some (mupd u 157 1 (u 146 29))).bind fun u1 => (some (mupd u1 157 2 0)).bind fun u2 => (some (mupd u2 157 3 0)).bind fun u3 => FX12_lastsWith_146_L122 FU l3 t0 0 u3
theorem bX12_lastsWith_146_93 {G : Gt} {X : Xt} {v : Int32} {u' : Mem} (hX : CxOk G X cX12_lastsWith 6 RX12 (some (.int v), SH, RHO, u') 10) (hR : CxRet G X (some .int) (some (.int v), SH, RHO, u')) (l3 t0 : Int32) (u : Mem) (h : FX12_lastsWith_146_b93 l3 t0 u = some (v, u')) : WM G X 93 [(0, .ref 146), (3, .int l3)] [.int t0] SH RHO u := by
  unfold FX12_lastsWith_146_b93 at h
  refine w_istore (lv' := [(4, .int t0), (0, .ref 146), (3, .int l3)]) 93 hX dX12_lastsWith_93 (by decide) rfl ?_
  refine w_aload_n 1 95 hX rfl rfl dX12_lastsWith_95 ?_
  refine w_getR 96 hX CI_12 s_146 rfl r_146_30 fl_X12_44 rfl dX12_lastsWith_96 ?_
  refine w_iconst 1 99 hX ic_1 dX12_lastsWith_99 ?_
  refine w_aload_n 1 100 hX rfl rfl dX12_lastsWith_100 ?_
  refine w_getI (j := 29) 101 hX CI_12 s_146 rfl fl_X12_361 rfl dX12_lastsWith_101 ?_
  obtain ⟨u1, gu1, h⟩ := o_bind h
  refine w_iast 104 hX s_157 (wrK 1 1 n_1 (by decide) (by decide) gu1) dX12_lastsWith_104 ?_
  refine w_aload_n 1 105 hX rfl rfl dX12_lastsWith_105 ?_
  refine w_getR 106 hX CI_12 s_146 rfl r_146_30 fl_X12_44 rfl dX12_lastsWith_106 ?_
  refine w_iconst 2 109 hX ic_2 dX12_lastsWith_109 ?_
  refine w_iconst 0 110 hX ic_0 dX12_lastsWith_110 ?_
  obtain ⟨u2, gu2, h⟩ := o_bind h
  refine w_iast 111 hX s_157 (wrK 2 2 n_2 (by decide) (by decide) gu2) dX12_lastsWith_111 ?_
  refine w_aload_n 1 112 hX rfl rfl dX12_lastsWith_112 ?_
  refine w_getR 113 hX CI_12 s_146 rfl r_146_30 fl_X12_44 rfl dX12_lastsWith_113 ?_
  refine w_iconst 3 116 hX ic_3 dX12_lastsWith_116 ?_
  refine w_iconst 0 117 hX ic_0 dX12_lastsWith_117 ?_
  obtain ⟨u3, gu3, h⟩ := o_bind h
  refine w_iast 118 hX s_157 (wrK 3 3 n_3 (by decide) (by decide) gu3) dX12_lastsWith_118 ?_
  refine w_iconst 0 119 hX ic_0 dX12_lastsWith_119 ?_
  refine w_istore (lv' := [(5, .int 0), (4, .int t0), (0, .ref 146), (3, .int l3)]) 120 hX dX12_lastsWith_120 (by decide) rfl ?_
  exact w_sub [2, 3, 1, 0] rfl (lX12_lastsWith_146_122 hX hR FU l3 t0 0 u3 h)
def FX12_lastsWith_146_b79 (l3 : Int32) (u : Mem) : Option (Int32 × Mem) :=
  (if (u 147 1) = 0 then (FX12_lastsWith_146_b93 l3 1 u) else (FX12_lastsWith_146_b93 l3 0 u))
theorem bX12_lastsWith_146_79 {G : Gt} {X : Xt} {v : Int32} {u' : Mem} (hX : CxOk G X cX12_lastsWith 6 RX12 (some (.int v), SH, RHO, u') 10) (hR : CxRet G X (some .int) (some (.int v), SH, RHO, u')) (l3 : Int32) (u : Mem) (h : FX12_lastsWith_146_b79 l3 u = some (v, u')) : WM G X 79 [(0, .ref 146), (3, .int l3)] [] SH RHO u := by
  unfold FX12_lastsWith_146_b79 at h
  refine w_aload_n 0 79 hX rfl rfl dX12_lastsWith_79 ?_
  refine w_getR 80 hX CI_12 s_146 rfl r_146_0 fl_X12_7 rfl dX12_lastsWith_80 ?_
  refine w_iconst 1 83 hX ic_1 dX12_lastsWith_83 ?_
  refine w_iald 84 hX s_147 (rdK 1 1 n_1 (by decide) (by decide)) dX12_lastsWith_84 ?_
  refine w_if_ne (tgt := 92) 85 hX dX12_lastsWith_85 (by decide) (fun c1 => ?_) (fun c1 => ?_)
  · have h := ie h c1
    refine w_iconst 0 92 hX ic_0 dX12_lastsWith_92 ?_
    exact bX12_lastsWith_146_93 hX hR l3 0 u h
  · have h := it h c1
    refine w_iconst 1 88 hX ic_1 dX12_lastsWith_88 ?_
    refine w_goto (tgt := 93) 89 hX (by decide) dX12_lastsWith_89 ?_
    exact bX12_lastsWith_146_93 hX hR l3 1 u h
def FX12_lastsWith_146_b53 (k53 : Int32 → Mem → Option (Int32 × Mem)) (l3 : Int32) (u : Mem) : Option (Int32 × Mem) :=
  (if (u 147 1) = 1 then ((if 99 ≤ l3 then (FX12_lastsWith_146_b79 l3 u) else ((FX12_aDay_146 u).bind fun u4 => k53 (l3 + 1) u4))) else (FX12_lastsWith_146_b79 l3 u))
theorem bX12_lastsWith_146_53 {G : Gt} {X : Xt} {v : Int32} {u' : Mem} (hX : CxOk G X cX12_lastsWith 6 RX12 (some (.int v), SH, RHO, u') 10) (hR : CxRet G X (some .int) (some (.int v), SH, RHO, u')) {k53 : Int32 → Mem → Option (Int32 × Mem)} (hk53 : ∀ (l3 : Int32) (u : Mem), k53 l3 u = some (v, u') → WM G X 53 [(0, .ref 146), (3, .int l3)] [] SH RHO u) (l3 : Int32) (u : Mem) (h : FX12_lastsWith_146_b53 k53 l3 u = some (v, u')) : WM G X 53 [(0, .ref 146), (3, .int l3)] [] SH RHO u := by
  unfold FX12_lastsWith_146_b53 at h
  refine w_aload_n 0 53 hX rfl rfl dX12_lastsWith_53 ?_
  refine w_getR 54 hX CI_12 s_146 rfl r_146_0 fl_X12_7 rfl dX12_lastsWith_54 ?_
  refine w_iconst 1 57 hX ic_1 dX12_lastsWith_57 ?_
  refine w_iald 58 hX s_147 (rdK 1 1 n_1 (by decide) (by decide)) dX12_lastsWith_58 ?_
  refine w_iconst 1 59 hX ic_1 dX12_lastsWith_59 ?_
  refine w_icmp_ne (tgt := 79) 60 hX dX12_lastsWith_60 (by decide) (fun c1 => ?_) (fun c1 => ?_)
  · have h := ie h c1
    exact bX12_lastsWith_146_79 hX hR l3 u h
  · have h := it h c1
    refine w_iload_n 1 63 hX rfl rfl dX12_lastsWith_63 ?_
    refine w_bipush 99 64 hX ib_99 dX12_lastsWith_64 ?_
    refine w_icmp_ge (tgt := 79) 66 hX dX12_lastsWith_66 (by decide) (fun c2 => ?_) (fun c2 => ?_)
    · have h := it h c2
      exact bX12_lastsWith_146_79 hX hR l3 u h
    · have h := ie h c2
      refine w_aload_n 0 69 hX rfl rfl dX12_lastsWith_69 ?_
      obtain ⟨u4, gu4, h⟩ := o_bind h
      refine w_invVv (av := []) (st := []) 70 hX CI_12 s_146 rfl mv_yX12_aDay mi_yX12_aDay ml_X12_417 (CX12_aDay_146 u gu4) rfl (by decide) (Nat.le_of_ble_eq_true rfl) (Nat.le_refl _) (Nat.le_refl _) dX12_lastsWith_70 ?_
      refine w_iinc (lv' := [(3, .int (l3 + 1)), (0, .ref 146)]) 73 1 hX dX12_lastsWith_73 rfl (inc_1 _) (by decide) rfl ?_
      refine w_goto (tgt := 53) 76 hX (by decide) dX12_lastsWith_76 ?_
      exact w_sub [1, 0] rfl (hk53 (l3 + 1) u4 h)
def FX12_lastsWith_146_L53 : Nat → Int32 → Mem → Option (Int32 × Mem)
  | 0, _, _ => none
  | n + 1, l3, u => FX12_lastsWith_146_b53 (FX12_lastsWith_146_L53 n) l3 u
theorem lX12_lastsWith_146_53 {G : Gt} {X : Xt} {v : Int32} {u' : Mem} (hX : CxOk G X cX12_lastsWith 6 RX12 (some (.int v), SH, RHO, u') 10) (hR : CxRet G X (some .int) (some (.int v), SH, RHO, u')) : ∀ (n : Nat) (l3 : Int32) (u : Mem), FX12_lastsWith_146_L53 n l3 u = some (v, u') → WM G X 53 [(0, .ref 146), (3, .int l3)] [] SH RHO u := by
  intro n
  induction n with
  | zero =>
    intro l3 u h
    exact nn_ h
  | succ n ih =>
    intro l3 u h
    exact bX12_lastsWith_146_53 hX hR ih l3 u h
def FX12_lastsWith_146_b51 (u : Mem) : Option (Int32 × Mem) :=
  FX12_lastsWith_146_L53 FU 0 u
theorem bX12_lastsWith_146_51 {G : Gt} {X : Xt} {v : Int32} {u' : Mem} (hX : CxOk G X cX12_lastsWith 6 RX12 (some (.int v), SH, RHO, u') 10) (hR : CxRet G X (some .int) (some (.int v), SH, RHO, u')) (u : Mem) (h : FX12_lastsWith_146_b51 u = some (v, u')) : WM G X 51 [(0, .ref 146)] [] SH RHO u := by
  unfold FX12_lastsWith_146_b51 at h
  refine w_iconst 0 51 hX ic_0 dX12_lastsWith_51 ?_
  refine w_istore_n (lv' := [(3, .int 0), (0, .ref 146)]) 52 hX rfl dX12_lastsWith_52 (by decide) rfl ?_
  exact w_sub [1, 0] rfl (lX12_lastsWith_146_53 hX hR FU 0 u h)
def FX12_lastsWith_146_b2 (k2 : Int32 → Int32 → Int32 → Mem → Option (Int32 × Mem)) (l1 l2 l3 : Int32) (u : Mem) : Option (Int32 × Mem) :=
  (if 78 ≤ l3 then ((some (mupd u 146 28 0)).bind fun u2 => (some (mupd u2 146 27 l2)).bind fun u3 => (some (mupd u3 146 29 0)).bind fun u4 => (if l1 = (-1) then (FX12_lastsWith_146_b51 u4) else ((FX12_takesField_146 l1 u4).bind fun u7 => FX12_lastsWith_146_b51 u7))) else ((rdA u 147 1786 l3).bind fun x8 => (wrA u 150 78 l3 x8).bind fun u9 => k2 l1 l2 (l3 + 1) u9))
theorem bX12_lastsWith_146_2 {G : Gt} {X : Xt} {v : Int32} {u' : Mem} (hX : CxOk G X cX12_lastsWith 6 RX12 (some (.int v), SH, RHO, u') 10) (hR : CxRet G X (some .int) (some (.int v), SH, RHO, u')) {k2 : Int32 → Int32 → Int32 → Mem → Option (Int32 × Mem)} (hk2 : ∀ (l1 l2 l3 : Int32) (u : Mem), k2 l1 l2 l3 u = some (v, u') → WM G X 2 [(0, .ref 146), (1, .int l1), (2, .int l2), (3, .int l3)] [] SH RHO u) (l1 l2 l3 : Int32) (u : Mem) (h : FX12_lastsWith_146_b2 k2 l1 l2 l3 u = some (v, u')) : WM G X 2 [(0, .ref 146), (1, .int l1), (2, .int l2), (3, .int l3)] [] SH RHO u := by
  unfold FX12_lastsWith_146_b2 at h
  refine w_iload_n 3 2 hX rfl rfl dX12_lastsWith_2 ?_
  refine w_bipush 78 3 hX ib_78 dX12_lastsWith_3 ?_
  refine w_icmp_ge (tgt := 26) 5 hX dX12_lastsWith_5 (by decide) (fun c1 => ?_) (fun c1 => ?_)
  · have h := it h c1
    refine w_aload_n 0 26 hX rfl rfl dX12_lastsWith_26 ?_
    refine w_iconst 0 27 hX ic_0 dX12_lastsWith_27 ?_
    obtain ⟨u2, gu2, h⟩ := o_bind h
    refine w_putI (j := 28) 28 hX CI_12 s_146 rfl fl_X12_313 rfl rfl (by decide) (by decide) dX12_lastsWith_28 ?_
    rw [Option.some.inj gu2]
    refine w_aload_n 0 31 hX rfl rfl dX12_lastsWith_31 ?_
    refine w_iload_n 2 32 hX rfl rfl dX12_lastsWith_32 ?_
    obtain ⟨u3, gu3, h⟩ := o_bind h
    refine w_putI (j := 27) 33 hX CI_12 s_146 rfl fl_X12_303 rfl rfl rfl rfl dX12_lastsWith_33 ?_
    rw [Option.some.inj gu3]
    refine w_aload_n 0 36 hX rfl rfl dX12_lastsWith_36 ?_
    refine w_iconst 0 37 hX ic_0 dX12_lastsWith_37 ?_
    obtain ⟨u4, gu4, h⟩ := o_bind h
    refine w_putI (j := 29) 38 hX CI_12 s_146 rfl fl_X12_361 rfl rfl rfl rfl dX12_lastsWith_38 ?_
    rw [Option.some.inj gu4]
    refine w_iload_n 1 41 hX rfl rfl dX12_lastsWith_41 ?_
    refine w_iconst (-1) 42 hX ic_m1 dX12_lastsWith_42 ?_
    refine w_icmp_eq (tgt := 51) 43 hX dX12_lastsWith_43 (by decide) (fun c5 => ?_) (fun c5 => ?_)
    · have h := it h c5
      exact w_sub [0] rfl (bX12_lastsWith_146_51 hX hR u4 h)
    · have h := ie h c5
      refine w_aload_n 0 46 hX rfl rfl dX12_lastsWith_46 ?_
      refine w_iload_n 1 47 hX rfl rfl dX12_lastsWith_47 ?_
      obtain ⟨u7, gu7, h⟩ := o_bind h
      refine w_invVv (av := [.int l1]) (st := []) 48 hX CI_12 s_146 rfl mv_yX12_takesField mi_yX12_takesField ml_X12_332 (CX12_takesField_146 l1 u4 gu7) rfl (by decide) (Nat.le_of_ble_eq_true rfl) (Nat.le_refl _) (Nat.le_refl _) dX12_lastsWith_48 ?_
      exact w_sub [0] rfl (bX12_lastsWith_146_51 hX hR u7 h)
  · have h := ie h c1
    refine w_aload_n 0 8 hX rfl rfl dX12_lastsWith_8 ?_
    refine w_getR 9 hX CI_12 s_146 rfl r_146_3 fl_X12_19 rfl dX12_lastsWith_9 ?_
    refine w_iload_n 3 12 hX rfl rfl dX12_lastsWith_12 ?_
    refine w_aload_n 0 13 hX rfl rfl dX12_lastsWith_13 ?_
    refine w_getR 14 hX CI_12 s_146 rfl r_146_0 fl_X12_7 rfl dX12_lastsWith_14 ?_
    refine w_iload_n 3 17 hX rfl rfl dX12_lastsWith_17 ?_
    obtain ⟨x8, gx8, h⟩ := o_bind h
    refine w_iald 18 hX s_147 gx8 dX12_lastsWith_18 ?_
    obtain ⟨u9, gu9, h⟩ := o_bind h
    refine w_iast 19 hX s_150 gu9 dX12_lastsWith_19 ?_
    refine w_iinc (lv' := [(3, .int (l3 + 1)), (0, .ref 146), (1, .int l1), (2, .int l2)]) 20 3 hX dX12_lastsWith_20 rfl (inc_1 _) (by decide) rfl ?_
    refine w_goto (tgt := 2) 23 hX (by decide) dX12_lastsWith_23 ?_
    exact w_sub [1, 2, 3, 0] rfl (hk2 l1 l2 (l3 + 1) u9 h)
def FX12_lastsWith_146_L2 : Nat → Int32 → Int32 → Int32 → Mem → Option (Int32 × Mem)
  | 0, _, _, _, _ => none
  | n + 1, l1, l2, l3, u => FX12_lastsWith_146_b2 (FX12_lastsWith_146_L2 n) l1 l2 l3 u
theorem lX12_lastsWith_146_2 {G : Gt} {X : Xt} {v : Int32} {u' : Mem} (hX : CxOk G X cX12_lastsWith 6 RX12 (some (.int v), SH, RHO, u') 10) (hR : CxRet G X (some .int) (some (.int v), SH, RHO, u')) : ∀ (n : Nat) (l1 l2 l3 : Int32) (u : Mem), FX12_lastsWith_146_L2 n l1 l2 l3 u = some (v, u') → WM G X 2 [(0, .ref 146), (1, .int l1), (2, .int l2), (3, .int l3)] [] SH RHO u := by
  intro n
  induction n with
  | zero =>
    intro l1 l2 l3 u h
    exact nn_ h
  | succ n ih =>
    intro l1 l2 l3 u h
    exact bX12_lastsWith_146_2 hX hR ih l1 l2 l3 u h
def FX12_lastsWith_146 (p1 p2 : Int32) (u : Mem) : Option (Int32 × Mem) :=
  FX12_lastsWith_146_L2 FU p1 p2 0 u
theorem CX12_lastsWith_146 {G : Gt} (p1 p2 : Int32) (u : Mem) {v : Int32} {u' : Mem} (h : FX12_lastsWith_146 p1 p2 u = some (v, u')) : CT G yX12_lastsWith cX12_lastsWith 6 (some .int) 10 [.ref 146, .int p1, .int p2] SH RHO u (some (.int v), SH, RHO, u') :=
  ct_of (by decide) rfl (Nat.le_of_ble_eq_true rfl) (Nat.le_refl _) (Nat.le_refl _) (fun X hX hR => by
  unfold FX12_lastsWith_146 at h
  refine w_iconst 0 0 hX ic_0 dX12_lastsWith_0 ?_
  refine w_istore_n (lv' := [(3, .int 0), (0, .ref 146), (1, .int p1), (2, .int p2)]) 1 hX rfl dX12_lastsWith_1 (by decide) rfl ?_
  exact w_sub [1, 2, 3, 0] rfl (lX12_lastsWith_146_2 hX hR FU p1 p2 0 u h))
def FX12_lasts_146 (p1 : Int32) (u : Mem) : Option (Int32 × Mem) :=
  (FX12_isIn p1 0 3).bind fun x1 => (if x1 = 0 then (some ((-1), u)) else (bnd2 (FX12_lastsWith_146 (-1) 0 u) fun x3 u4 => (if p1 ≤ 0 then ((if x3 = 1000000 then (some ((-1), u4)) else (some (x3, u4)))) else ((rdA u4 157 4 p1).bind fun x7 => some (x7, u4)))))
theorem CX12_lasts_146 {G : Gt} (p1 : Int32) (u : Mem) {v : Int32} {u' : Mem} (h : FX12_lasts_146 p1 u = some (v, u')) : CT G yX12_lasts cX12_lasts 3 (some .int) 11 [.ref 146, .int p1] SH RHO u (some (.int v), SH, RHO, u') :=
  ct_of (by decide) rfl (Nat.le_of_ble_eq_true rfl) (Nat.le_refl _) (Nat.le_refl _) (fun X hX hR => by
  unfold FX12_lasts_146 at h
  refine w_iload_n 1 0 hX rfl rfl dX12_lasts_0 ?_
  refine w_iconst 0 1 hX ic_0 dX12_lasts_1 ?_
  refine w_iconst 3 2 hX ic_3 dX12_lasts_2 ?_
  obtain ⟨x1, gx1, h⟩ := o_bind h
  refine w_invSi (av := [.int p1, .int 0, .int 3]) (st := []) 3 hX ms_yX12_isIn mi_yX12_isIn ml_X12_54 (CX12_isIn p1 0 3 u gx1) rfl (by decide) (Nat.le_of_ble_eq_true rfl) (Nat.le_refl _) (Nat.le_refl _) dX12_lasts_3 ?_
  refine w_if_ne (tgt := 11) 6 hX dX12_lasts_6 (by decide) (fun c2 => ?_) (fun c2 => ?_)
  · have h := ie h c2
    refine w_aload_n 0 11 hX rfl rfl dX12_lasts_11 ?_
    refine w_iconst (-1) 12 hX ic_m1 dX12_lasts_12 ?_
    refine w_iconst 0 13 hX ic_0 dX12_lasts_13 ?_
    obtain ⟨x3, u4, gx3, h⟩ := o_bnd2 h
    refine w_invVi (av := [.int (-1), .int 0]) (st := []) 14 hX CI_12 s_146 rfl mv_yX12_lastsWith mi_yX12_lastsWith ml_X12_421 (CX12_lastsWith_146 (-1) 0 u gx3) rfl (by decide) (Nat.le_of_ble_eq_true rfl) (Nat.le_refl _) (Nat.le_refl _) dX12_lasts_14 ?_
    refine w_istore_n (lv' := [(2, .int x3), (0, .ref 146), (1, .int p1)]) 17 hX rfl dX12_lasts_17 (by decide) rfl ?_
    refine w_iload_n 2 18 hX rfl rfl dX12_lasts_18 ?_
    refine w_if_le (tgt := 31) 19 hX dX12_lasts_19 (by decide) (fun c5 => ?_) (fun c5 => ?_)
    · have h := it h c5
      refine w_iload_n 0 31 hX rfl rfl dX12_lasts_31 ?_
      refine w_ldcw 1000000 32 hX cs_X12_420 dX12_lasts_32 ?_
      refine w_icmp_ne (tgt := 42) 35 hX dX12_lasts_35 (by decide) (fun c6 => ?_) (fun c6 => ?_)
      · have h := ie h c6
        refine w_iload_n 0 42 hX rfl rfl dX12_lasts_42 ?_
        exact w_iret 43 hX hR dX12_lasts_43 (by cases h; rfl)
      · have h := it h c6
        refine w_iconst (-1) 38 hX ic_m1 dX12_lasts_38 ?_
        refine w_goto (tgt := 43) 39 hX (by decide) dX12_lasts_39 ?_
        exact w_iret 43 hX hR dX12_lasts_43 (by cases h; rfl)
    · have h := ie h c5
      refine w_aload_n 1 22 hX rfl rfl dX12_lasts_22 ?_
      refine w_getR 23 hX CI_12 s_146 rfl r_146_30 fl_X12_44 rfl dX12_lasts_23 ?_
      refine w_iload_n 2 26 hX rfl rfl dX12_lasts_26 ?_
      obtain ⟨x7, gx7, h⟩ := o_bind h
      refine w_iald 27 hX s_157 gx7 dX12_lasts_27 ?_
      refine w_goto (tgt := 43) 28 hX (by decide) dX12_lasts_28 ?_
      exact w_iret 43 hX hR dX12_lasts_43 (by cases h; rfl)
  · have h := it h c2
    refine w_iconst (-1) 9 hX ic_m1 dX12_lasts_9 ?_
    exact w_iret 10 hX hR dX12_lasts_10 (by cases h; rfl))
def FX2_take_96 (p1 p2 : Int32) (u : Mem) : Option Mem :=
  (if p2 = (-1) then (some u) else ((if (u 96 5) ≤ p2 then (some u) else ((some (mupd u 96 4 p1)).bind fun u3 => (some (mupd u3 96 5 p2)).bind fun u4 => some u4))))
theorem CX2_take_96 {G : Gt} (p1 p2 : Int32) (u : Mem) {u' : Mem} (h : FX2_take_96 p1 p2 u = some u') : CT G yX2_take cX2_take 3 none 1 [.ref 96, .int p1, .int p2] SH RHO u (none, SH, RHO, u') :=
  ct_of (by decide) rfl (Nat.le_of_ble_eq_true rfl) (Nat.le_refl _) (Nat.le_refl _) (fun X hX hR => by
  unfold FX2_take_96 at h
  refine w_iload_n 2 0 hX rfl rfl dX2_take_0 ?_
  refine w_iconst (-1) 1 hX ic_m1 dX2_take_1 ?_
  refine w_icmp_eq (tgt := 23) 2 hX dX2_take_2 (by decide) (fun c1 => ?_) (fun c1 => ?_)
  · have h := it h c1
    exact w_vret 23 hX hR dX2_take_23 (by cases h; rfl)
  · have h := ie h c1
    refine w_iload_n 2 5 hX rfl rfl dX2_take_5 ?_
    refine w_aload_n 0 6 hX rfl rfl dX2_take_6 ?_
    refine w_getI (j := 5) 7 hX CI_2 s_96 rfl fl_X2_52 rfl dX2_take_7 ?_
    refine w_icmp_ge (tgt := 23) 10 hX dX2_take_10 (by decide) (fun c2 => ?_) (fun c2 => ?_)
    · have h := it h c2
      exact w_vret 23 hX hR dX2_take_23 (by cases h; rfl)
    · have h := ie h c2
      refine w_aload_n 0 13 hX rfl rfl dX2_take_13 ?_
      refine w_iload_n 1 14 hX rfl rfl dX2_take_14 ?_
      obtain ⟨u3, gu3, h⟩ := o_bind h
      refine w_putI (j := 4) 15 hX CI_2 s_96 rfl fl_X2_49 rfl rfl rfl rfl dX2_take_15 ?_
      rw [Option.some.inj gu3]
      refine w_aload_n 0 18 hX rfl rfl dX2_take_18 ?_
      refine w_iload_n 2 19 hX rfl rfl dX2_take_19 ?_
      obtain ⟨u4, gu4, h⟩ := o_bind h
      refine w_putI (j := 5) 20 hX CI_2 s_96 rfl fl_X2_52 rfl rfl rfl rfl dX2_take_20 ?_
      rw [Option.some.inj gu4]
      exact w_vret 23 hX hR dX2_take_23 (by cases h; rfl))
def FX2_chooseMan_96_b101 (k13 : Int32 → Int32 → Mem → Option Mem) (l1 l2 : Int32) (u : Mem) : Option Mem :=
  k13 l1 (l2 + 1) u
theorem bX2_chooseMan_96_101 {G : Gt} {X : Xt} {u' : Mem} (hX : CxOk G X cX2_chooseMan 3 RX2 (none, SH, RHO, u') 7) (hR : CxRet G X none (none, SH, RHO, u')) {k13 : Int32 → Int32 → Mem → Option Mem} (hk13 : ∀ (l1 l2 : Int32) (u : Mem), k13 l1 l2 u = some u' → WM G X 13 [(0, .ref 96), (1, .int l1), (2, .int l2)] [] SH RHO u) (l1 l2 : Int32) (u : Mem) (h : FX2_chooseMan_96_b101 k13 l1 l2 u = some u') : WM G X 101 [(0, .ref 96), (1, .int l1), (2, .int l2)] [] SH RHO u := by
  unfold FX2_chooseMan_96_b101 at h
  refine w_iinc (lv' := [(2, .int (l2 + 1)), (0, .ref 96), (1, .int l1)]) 101 2 hX dX2_chooseMan_101 rfl (inc_1 _) (by decide) rfl ?_
  refine w_goto (tgt := 13) 104 hX (by decide) dX2_chooseMan_104 ?_
  exact w_sub [1, 2, 0] rfl (hk13 l1 (l2 + 1) u h)
def FX2_chooseMan_96_b13 (k13 : Int32 → Int32 → Mem → Option Mem) (l1 l2 : Int32) (u : Mem) : Option Mem :=
  (if 12 ≤ l2 then (some u) else ((if (u 1 0) ≤ l2 then (some u) else ((rdA u 2 12 l2).bind fun x3 => (if x3 = l1 then ((rdA u 27 12 l2).bind fun x5 => (if x5 = 0 then ((FX2_imagine_96 0 u).bind fun u8 => (wrA u8 101 12 l2 1).bind fun u9 => (FX11_endOf l1).bind fun x10 => (wrA u9 102 12 l2 x10).bind fun u11 => bnd2 (FX2_until_96 ((u11 96 5) - 1) u11) fun x12 u13 => (FX2_take_96 l2 x12 u13).bind fun u15 => FX2_chooseMan_96_b101 k13 l1 l2 u15) else (FX2_chooseMan_96_b101 k13 l1 l2 u))) else (FX2_chooseMan_96_b101 k13 l1 l2 u))))))
theorem bX2_chooseMan_96_13 {G : Gt} {X : Xt} {u' : Mem} (hX : CxOk G X cX2_chooseMan 3 RX2 (none, SH, RHO, u') 7) (hR : CxRet G X none (none, SH, RHO, u')) {k13 : Int32 → Int32 → Mem → Option Mem} (hk13 : ∀ (l1 l2 : Int32) (u : Mem), k13 l1 l2 u = some u' → WM G X 13 [(0, .ref 96), (1, .int l1), (2, .int l2)] [] SH RHO u) (l1 l2 : Int32) (u : Mem) (h : FX2_chooseMan_96_b13 k13 l1 l2 u = some u') : WM G X 13 [(0, .ref 96), (1, .int l1), (2, .int l2)] [] SH RHO u := by
  unfold FX2_chooseMan_96_b13 at h
  refine w_iload_n 2 13 hX rfl rfl dX2_chooseMan_13 ?_
  refine w_bipush 12 14 hX ib_12 dX2_chooseMan_14 ?_
  refine w_icmp_ge (tgt := 107) 16 hX dX2_chooseMan_16 (by decide) (fun c1 => ?_) (fun c1 => ?_)
  · have h := it h c1
    exact w_vret 107 hX hR dX2_chooseMan_107 (by cases h; rfl)
  · have h := ie h c1
    refine w_iload_n 2 19 hX rfl rfl dX2_chooseMan_19 ?_
    refine w_aload_n 0 20 hX rfl rfl dX2_chooseMan_20 ?_
    refine w_getR 21 hX CI_2 s_96 rfl r_96_0 fl_X2_18 rfl dX2_chooseMan_21 ?_
    refine w_getI (j := 0) 24 hX CI_9 s_1 rfl fl_X2_55 rfl dX2_chooseMan_24 ?_
    refine w_icmp_ge (tgt := 107) 27 hX dX2_chooseMan_27 (by decide) (fun c2 => ?_) (fun c2 => ?_)
    · have h := it h c2
      exact w_vret 107 hX hR dX2_chooseMan_107 (by cases h; rfl)
    · have h := ie h c2
      refine w_aload_n 0 30 hX rfl rfl dX2_chooseMan_30 ?_
      refine w_getR 31 hX CI_2 s_96 rfl r_96_0 fl_X2_18 rfl dX2_chooseMan_31 ?_
      refine w_getR 34 hX CI_9 s_1 rfl r_1_1 fl_X2_60 rfl dX2_chooseMan_34 ?_
      refine w_iload_n 2 37 hX rfl rfl dX2_chooseMan_37 ?_
      obtain ⟨x3, gx3, h⟩ := o_bind h
      refine w_iald 38 hX s_2 gx3 dX2_chooseMan_38 ?_
      refine w_iload_n 1 39 hX rfl rfl dX2_chooseMan_39 ?_
      refine w_icmp_ne (tgt := 101) 40 hX dX2_chooseMan_40 (by decide) (fun c4 => ?_) (fun c4 => ?_)
      · have h := ie h c4
        exact bX2_chooseMan_96_101 hX hR hk13 l1 l2 u h
      · have h := it h c4
        refine w_aload_n 0 43 hX rfl rfl dX2_chooseMan_43 ?_
        refine w_getR 44 hX CI_2 s_96 rfl r_96_1 fl_X2_22 rfl dX2_chooseMan_44 ?_
        refine w_getR 47 hX CI_0 s_23 rfl r_23_3 fl_X2_64 rfl dX2_chooseMan_47 ?_
        refine w_iload_n 2 50 hX rfl rfl dX2_chooseMan_50 ?_
        obtain ⟨x5, gx5, h⟩ := o_bind h
        refine w_iald 51 hX s_27 gx5 dX2_chooseMan_51 ?_
        refine w_if_eq (tgt := 58) 52 hX dX2_chooseMan_52 (by decide) (fun c6 => ?_) (fun c6 => ?_)
        · have h := it h c6
          refine w_aload_n 0 58 hX rfl rfl dX2_chooseMan_58 ?_
          refine w_iconst 0 59 hX ic_0 dX2_chooseMan_59 ?_
          obtain ⟨u8, gu8, h⟩ := o_bind h
          refine w_invVv (av := [.int 0]) (st := []) 60 hX CI_2 s_96 rfl mv_yX2_imagine mi_yX2_imagine ml_X2_34 (CX2_imagine_96 0 u gu8) rfl (by decide) (Nat.le_of_ble_eq_true rfl) (Nat.le_refl _) (Nat.le_refl _) dX2_chooseMan_60 ?_
          refine w_aload_n 0 63 hX rfl rfl dX2_chooseMan_63 ?_
          refine w_getR 64 hX CI_2 s_96 rfl r_96_2 fl_X2_12 rfl dX2_chooseMan_64 ?_
          refine w_getR 67 hX CI_0 s_97 rfl r_97_3 fl_X2_64 rfl dX2_chooseMan_67 ?_
          refine w_iload_n 2 70 hX rfl rfl dX2_chooseMan_70 ?_
          refine w_iconst 1 71 hX ic_1 dX2_chooseMan_71 ?_
          obtain ⟨u9, gu9, h⟩ := o_bind h
          refine w_iast 72 hX s_101 gu9 dX2_chooseMan_72 ?_
          refine w_aload_n 0 73 hX rfl rfl dX2_chooseMan_73 ?_
          refine w_getR 74 hX CI_2 s_96 rfl r_96_2 fl_X2_12 rfl dX2_chooseMan_74 ?_
          refine w_getR 77 hX CI_0 s_97 rfl r_97_4 fl_X2_67 rfl dX2_chooseMan_77 ?_
          refine w_iload_n 2 80 hX rfl rfl dX2_chooseMan_80 ?_
          refine w_iload_n 1 81 hX rfl rfl dX2_chooseMan_81 ?_
          obtain ⟨x10, gx10, h⟩ := o_bind h
          refine w_invSNi (av := [.int l1]) (st := [.int l2, .ref 102]) 82 hX ms_yX11_endOf mi_yX11_endOf ml_X2_70 (CX11_endOf l1 u9 gx10) rfl (by decide) (Nat.le_of_ble_eq_true rfl) (Nat.le_refl _) (Nat.le_refl _) dX2_chooseMan_82 ?_
          obtain ⟨u11, gu11, h⟩ := o_bind h
          refine w_iast 85 hX s_102 gu11 dX2_chooseMan_85 ?_
          refine w_aload_n 0 86 hX rfl rfl dX2_chooseMan_86 ?_
          refine w_iload_n 2 87 hX rfl rfl dX2_chooseMan_87 ?_
          refine w_aload_n 0 88 hX rfl rfl dX2_chooseMan_88 ?_
          refine w_aload_n 0 89 hX rfl rfl dX2_chooseMan_89 ?_
          refine w_getI (j := 5) 90 hX CI_2 s_96 rfl fl_X2_52 rfl dX2_chooseMan_90 ?_
          refine w_iconst 1 93 hX ic_1 dX2_chooseMan_93 ?_
          refine w_isub 94 hX dX2_chooseMan_94 ?_
          obtain ⟨x12, u13, gx12, h⟩ := o_bnd2 h
          refine w_invVi (av := [.int ((u11 96 5) - 1)]) (st := [.int l2, .ref 96]) 95 hX CI_2 s_96 rfl mv_yX2_until mi_yX2_until ml_X2_38 (CX2_until_96 ((u11 96 5) - 1) u11 gx12) rfl (by decide) (Nat.le_of_ble_eq_true rfl) (Nat.le_refl _) (Nat.le_refl _) dX2_chooseMan_95 ?_
          obtain ⟨u15, gu15, h⟩ := o_bind h
          refine w_invVv (av := [.int l2, .int x12]) (st := []) 98 hX CI_2 s_96 rfl mv_yX2_take mi_yX2_take ml_X2_73 (CX2_take_96 l2 x12 u13 gu15) rfl (by decide) (Nat.le_of_ble_eq_true rfl) (Nat.le_refl _) (Nat.le_refl _) dX2_chooseMan_98 ?_
          exact bX2_chooseMan_96_101 hX hR hk13 l1 l2 u15 h
        · have h := ie h c6
          refine w_goto (tgt := 101) 55 hX (by decide) dX2_chooseMan_55 ?_
          exact bX2_chooseMan_96_101 hX hR hk13 l1 l2 u h
def FX2_chooseMan_96_L13 : Nat → Int32 → Int32 → Mem → Option Mem
  | 0, _, _, _ => none
  | n + 1, l1, l2, u => FX2_chooseMan_96_b13 (FX2_chooseMan_96_L13 n) l1 l2 u
theorem lX2_chooseMan_96_13 {G : Gt} {X : Xt} {u' : Mem} (hX : CxOk G X cX2_chooseMan 3 RX2 (none, SH, RHO, u') 7) (hR : CxRet G X none (none, SH, RHO, u')) : ∀ (n : Nat) (l1 l2 : Int32) (u : Mem), FX2_chooseMan_96_L13 n l1 l2 u = some u' → WM G X 13 [(0, .ref 96), (1, .int l1), (2, .int l2)] [] SH RHO u := by
  intro n
  induction n with
  | zero =>
    intro l1 l2 u h
    exact nn_ h
  | succ n ih =>
    intro l1 l2 u h
    exact bX2_chooseMan_96_13 hX hR ih l1 l2 u h
def FX2_chooseMan_96 (p1 : Int32) (u : Mem) : Option Mem :=
  (some (mupd u 96 4 (-1))).bind fun u1 => (some (mupd u1 96 5 100)).bind fun u2 => FX2_chooseMan_96_L13 FU p1 0 u2
theorem CX2_chooseMan_96 {G : Gt} (p1 : Int32) (u : Mem) {u' : Mem} (h : FX2_chooseMan_96 p1 u = some u') : CT G yX2_chooseMan cX2_chooseMan 3 none 7 [.ref 96, .int p1] SH RHO u (none, SH, RHO, u') :=
  ct_of (by decide) rfl (Nat.le_of_ble_eq_true rfl) (Nat.le_refl _) (Nat.le_refl _) (fun X hX hR => by
  unfold FX2_chooseMan_96 at h
  refine w_aload_n 0 0 hX rfl rfl dX2_chooseMan_0 ?_
  refine w_iconst (-1) 1 hX ic_m1 dX2_chooseMan_1 ?_
  obtain ⟨u1, gu1, h⟩ := o_bind h
  refine w_putI (j := 4) 2 hX CI_2 s_96 rfl fl_X2_49 rfl rfl rfl rfl dX2_chooseMan_2 ?_
  rw [Option.some.inj gu1]
  refine w_aload_n 0 5 hX rfl rfl dX2_chooseMan_5 ?_
  refine w_bipush 100 6 hX ib_100 dX2_chooseMan_6 ?_
  obtain ⟨u2, gu2, h⟩ := o_bind h
  refine w_putI (j := 5) 8 hX CI_2 s_96 rfl fl_X2_52 rfl rfl rfl rfl dX2_chooseMan_8 ?_
  rw [Option.some.inj gu2]
  refine w_iconst 0 11 hX ic_0 dX2_chooseMan_11 ?_
  refine w_istore_n (lv' := [(2, .int 0), (0, .ref 96), (1, .int p1)]) 12 hX rfl dX2_chooseMan_12 (by decide) rfl ?_
  exact w_sub [1, 2, 0] rfl (lX2_chooseMan_96_13 hX hR FU p1 0 u2 h))
def FX2_answer_96_b12 (u : Mem) : Option Int32 :=
  some (u 96 4)
theorem bX2_answer_96_12 {G : Gt} {X : Xt} {v : Int32} {u : Mem} (hX : CxOk G X cX2_answer 2 RX2 (some (.int v), SH, RHO, u) 1) (hR : CxRet G X (some .int) (some (.int v), SH, RHO, u)) (h : FX2_answer_96_b12 u = some v) : WM G X 12 [(0, .ref 96)] [] SH RHO u := by
  unfold FX2_answer_96_b12 at h
  refine w_aload_n 0 12 hX rfl rfl dX2_answer_12 ?_
  refine w_getI (j := 4) 13 hX CI_2 s_96 rfl fl_X2_49 rfl dX2_answer_13 ?_
  refine w_goto (tgt := 23) 16 hX (by decide) dX2_answer_16 ?_
  exact w_iret 23 hX hR dX2_answer_23 (by cases h; rfl)
def FX2_answer_96 (p1 : Int32) (u : Mem) : Option Int32 :=
  (if p1 = 0 then (FX2_answer_96_b12 u) else ((if (u 96 4) = (-1) then (FX2_answer_96_b12 u) else (some (u 96 5)))))
theorem CX2_answer_96 {G : Gt} (p1 : Int32) (u : Mem) {v : Int32} (h : FX2_answer_96 p1 u = some v) : CT G yX2_answer cX2_answer 2 (some .int) 1 [.ref 96, .int p1] SH RHO u (some (.int v), SH, RHO, u) :=
  ct_of (by decide) rfl (Nat.le_of_ble_eq_true rfl) (Nat.le_refl _) (Nat.le_refl _) (fun X hX hR => by
  unfold FX2_answer_96 at h
  refine w_iload_n 1 0 hX rfl rfl dX2_answer_0 ?_
  refine w_if_eq (tgt := 12) 1 hX dX2_answer_1 (by decide) (fun c1 => ?_) (fun c1 => ?_)
  · have h := it h c1
    exact w_sub [0] rfl (bX2_answer_96_12 hX hR h)
  · have h := ie h c1
    refine w_aload_n 0 4 hX rfl rfl dX2_answer_4 ?_
    refine w_getI (j := 4) 5 hX CI_2 s_96 rfl fl_X2_49 rfl dX2_answer_5 ?_
    refine w_iconst (-1) 8 hX ic_m1 dX2_answer_8 ?_
    refine w_icmp_ne (tgt := 19) 9 hX dX2_answer_9 (by decide) (fun c2 => ?_) (fun c2 => ?_)
    · have h := ie h c2
      refine w_aload_n 0 19 hX rfl rfl dX2_answer_19 ?_
      refine w_getI (j := 5) 20 hX CI_2 s_96 rfl fl_X2_52 rfl dX2_answer_20 ?_
      exact w_iret 23 hX hR dX2_answer_23 (by cases h; rfl)
    · have h := it h c2
      exact w_sub [0] rfl (bX2_answer_96_12 hX hR h))
def FX11_soonest_0 (p1 p2 : Int32) (u : Mem) : Option (Int32 × Mem) :=
  (FX11_isCountry p1).bind fun x1 => (if x1 = 0 then (some ((-1), u)) else ((if p2 < 0 then (some ((-1), u)) else ((if p2 ≤ 1 then ((FX2_chooseMan_96 p1 u).bind fun u6 => (FX2_answer_96 p2 u6).bind fun x7 => some (x7, u6)) else (some ((-1), u)))))))
theorem CX11_soonest_0 {G : Gt} (p1 p2 : Int32) (u : Mem) {v : Int32} {u' : Mem} (h : FX11_soonest_0 p1 p2 u = some (v, u')) : CT G yX11_soonest cX11_soonest 3 (some .int) 8 [.ref 0, .int p1, .int p2] SH RHO u (some (.int v), SH, RHO, u') :=
  ct_of (by decide) rfl (Nat.le_of_ble_eq_true rfl) (Nat.le_refl _) (Nat.le_refl _) (fun X hX hR => by
  unfold FX11_soonest_0 at h
  refine w_iload_n 1 0 hX rfl rfl dX11_soonest_0 ?_
  obtain ⟨x1, gx1, h⟩ := o_bind h
  refine w_invSi (av := [.int p1]) (st := []) 1 hX ms_yX11_isCountry mi_yX11_isCountry ml_X11_91 (CX11_isCountry p1 u gx1) rfl (by decide) (Nat.le_of_ble_eq_true rfl) (Nat.le_refl _) (Nat.le_refl _) dX11_soonest_1 ?_
  refine w_if_eq (tgt := 16) 4 hX dX11_soonest_4 (by decide) (fun c2 => ?_) (fun c2 => ?_)
  · have h := it h c2
    refine w_iconst (-1) 16 hX ic_m1 dX11_soonest_16 ?_
    exact w_iret 17 hX hR dX11_soonest_17 (by cases h; rfl)
  · have h := ie h c2
    refine w_iload_n 2 7 hX rfl rfl dX11_soonest_7 ?_
    refine w_if_lt (tgt := 16) 8 hX dX11_soonest_8 (by decide) (fun c3 => ?_) (fun c3 => ?_)
    · have h := it h c3
      refine w_iconst (-1) 16 hX ic_m1 dX11_soonest_16 ?_
      exact w_iret 17 hX hR dX11_soonest_17 (by cases h; rfl)
    · have h := ie h c3
      refine w_iload_n 2 11 hX rfl rfl dX11_soonest_11 ?_
      refine w_iconst 1 12 hX ic_1 dX11_soonest_12 ?_
      refine w_icmp_le (tgt := 18) 13 hX dX11_soonest_13 (by decide) (fun c4 => ?_) (fun c4 => ?_)
      · have h := it h c4
        refine w_aload_n 0 18 hX rfl rfl dX11_soonest_18 ?_
        refine w_getR 19 hX CI_11 s_0 rfl r_0_6 fl_X11_58 rfl dX11_soonest_19 ?_
        refine w_iload_n 1 22 hX rfl rfl dX11_soonest_22 ?_
        obtain ⟨u6, gu6, h⟩ := o_bind h
        refine w_invVv (av := [.int p1]) (st := []) 23 hX CI_2 s_96 rfl mv_yX2_chooseMan mi_yX2_chooseMan ml_X11_219 (CX2_chooseMan_96 p1 u gu6) rfl (by decide) (Nat.le_of_ble_eq_true rfl) (Nat.le_refl _) (Nat.le_refl _) dX11_soonest_23 ?_
        refine w_aload_n 0 26 hX rfl rfl dX11_soonest_26 ?_
        refine w_getR 27 hX CI_11 s_0 rfl r_0_6 fl_X11_58 rfl dX11_soonest_27 ?_
        refine w_iload_n 2 30 hX rfl rfl dX11_soonest_30 ?_
        obtain ⟨x7, gx7, h⟩ := o_bind h
        refine w_invVi (av := [.int p2]) (st := []) 31 hX CI_2 s_96 rfl mv_yX2_answer mi_yX2_answer ml_X11_222 (CX2_answer_96 p2 u6 gx7) rfl (by decide) (Nat.le_of_ble_eq_true rfl) (Nat.le_refl _) (Nat.le_refl _) dX11_soonest_31 ?_
        exact w_iret 34 hX hR dX11_soonest_34 (by cases h; rfl)
      · have h := ie h c4
        refine w_iconst (-1) 16 hX ic_m1 dX11_soonest_16 ?_
        exact w_iret 17 hX hR dX11_soonest_17 (by cases h; rfl))
def FX12_soonest_146_b95 (l3 : Int32) (u : Mem) : Option (Int32 × Mem) :=
  some (l3, u)
theorem bX12_soonest_146_95 {G : Gt} {X : Xt} {v : Int32} {u' : Mem} (hX : CxOk G X cX12_soonest 7 RX12 (some (.int v), SH, RHO, u') 11) (hR : CxRet G X (some .int) (some (.int v), SH, RHO, u')) (l3 : Int32) (u : Mem) (h : FX12_soonest_146_b95 l3 u = some (v, u')) : WM G X 95 [(3, .int l3)] [] SH RHO u := by
  unfold FX12_soonest_146_b95 at h
  refine w_iload_n 0 95 hX rfl rfl dX12_soonest_95 ?_
  refine w_goto (tgt := 101) 96 hX (by decide) dX12_soonest_96 ?_
  exact w_iret 101 hX hR dX12_soonest_101 (by cases h; rfl)
def FX12_soonest_146_b80 (k28 : Int32 → Int32 → Int32 → Int32 → Int32 → Mem → Option (Int32 × Mem)) (l1 l2 l3 l4 l5 : Int32) (u : Mem) : Option (Int32 × Mem) :=
  k28 l1 l2 l3 l4 (l5 + 1) u
theorem bX12_soonest_146_80 {G : Gt} {X : Xt} {v : Int32} {u' : Mem} (hX : CxOk G X cX12_soonest 7 RX12 (some (.int v), SH, RHO, u') 11) (hR : CxRet G X (some .int) (some (.int v), SH, RHO, u')) {k28 : Int32 → Int32 → Int32 → Int32 → Int32 → Mem → Option (Int32 × Mem)} (hk28 : ∀ (l1 l2 l3 l4 l5 : Int32) (u : Mem), k28 l1 l2 l3 l4 l5 u = some (v, u') → WM G X 28 [(0, .ref 146), (1, .int l1), (2, .int l2), (3, .int l3), (4, .int l4), (5, .int l5)] [] SH RHO u) (l1 l2 l3 l4 l5 : Int32) (u : Mem) (h : FX12_soonest_146_b80 k28 l1 l2 l3 l4 l5 u = some (v, u')) : WM G X 80 [(0, .ref 146), (1, .int l1), (2, .int l2), (3, .int l3), (4, .int l4), (5, .int l5)] [] SH RHO u := by
  unfold FX12_soonest_146_b80 at h
  refine w_iinc (lv' := [(5, .int (l5 + 1)), (0, .ref 146), (1, .int l1), (2, .int l2), (3, .int l3), (4, .int l4)]) 80 5 hX dX12_soonest_80 rfl (inc_1 _) (by decide) rfl ?_
  refine w_goto (tgt := 28) 83 hX (by decide) dX12_soonest_83 ?_
  exact w_sub [1, 2, 3, 4, 5, 0] rfl (hk28 l1 l2 l3 l4 (l5 + 1) u h)
def FX12_soonest_146_b28 (k28 : Int32 → Int32 → Int32 → Int32 → Int32 → Mem → Option (Int32 × Mem)) (l1 l2 l3 l4 l5 : Int32) (u : Mem) : Option (Int32 × Mem) :=
  (if (u 147 78) ≤ l5 then ((if l3 = (-1) then (FX12_soonest_146_b95 l3 u) else ((if l2 = 0 then (FX12_soonest_146_b95 l3 u) else (some (l4, u)))))) else ((FX12_isOf_146 l5 l1 0 u).bind fun x4 => (if x4 = 0 then (FX12_soonest_146_b80 k28 l1 l2 l3 l4 l5 u) else (bnd2 (FX12_lastsWith_146 l5 0 u) fun x6 u7 => (if x6 < l4 then (FX12_soonest_146_b80 k28 l1 l2 l5 x6 l5 u7) else (FX12_soonest_146_b80 k28 l1 l2 l3 l4 l5 u7))))))
theorem bX12_soonest_146_28 {G : Gt} {X : Xt} {v : Int32} {u' : Mem} (hX : CxOk G X cX12_soonest 7 RX12 (some (.int v), SH, RHO, u') 11) (hR : CxRet G X (some .int) (some (.int v), SH, RHO, u')) {k28 : Int32 → Int32 → Int32 → Int32 → Int32 → Mem → Option (Int32 × Mem)} (hk28 : ∀ (l1 l2 l3 l4 l5 : Int32) (u : Mem), k28 l1 l2 l3 l4 l5 u = some (v, u') → WM G X 28 [(0, .ref 146), (1, .int l1), (2, .int l2), (3, .int l3), (4, .int l4), (5, .int l5)] [] SH RHO u) (l1 l2 l3 l4 l5 : Int32) (u : Mem) (h : FX12_soonest_146_b28 k28 l1 l2 l3 l4 l5 u = some (v, u')) : WM G X 28 [(0, .ref 146), (1, .int l1), (2, .int l2), (3, .int l3), (4, .int l4), (5, .int l5)] [] SH RHO u := by
  unfold FX12_soonest_146_b28 at h
  refine w_iload 5 28 hX rfl dX12_soonest_28 ?_
  refine w_aload_n 0 30 hX rfl rfl dX12_soonest_30 ?_
  refine w_getR 31 hX CI_12 s_146 rfl r_146_0 fl_X12_7 rfl dX12_soonest_31 ?_
  refine w_bipush 78 34 hX ib_78 dX12_soonest_34 ?_
  refine w_iald 36 hX s_147 (rdK 78 78 n_78 (by decide) (by decide)) dX12_soonest_36 ?_
  refine w_icmp_ge (tgt := 86) 37 hX dX12_soonest_37 (by decide) (fun c1 => ?_) (fun c1 => ?_)
  · have h := it h c1
    refine w_iload_n 3 86 hX rfl rfl dX12_soonest_86 ?_
    refine w_iconst (-1) 87 hX ic_m1 dX12_soonest_87 ?_
    refine w_icmp_eq (tgt := 95) 88 hX dX12_soonest_88 (by decide) (fun c2 => ?_) (fun c2 => ?_)
    · have h := it h c2
      exact w_sub [3] rfl (bX12_soonest_146_95 hX hR l3 u h)
    · have h := ie h c2
      refine w_iload_n 2 91 hX rfl rfl dX12_soonest_91 ?_
      refine w_if_ne (tgt := 99) 92 hX dX12_soonest_92 (by decide) (fun c3 => ?_) (fun c3 => ?_)
      · have h := ie h c3
        refine w_iload 4 99 hX rfl dX12_soonest_99 ?_
        exact w_iret 101 hX hR dX12_soonest_101 (by cases h; rfl)
      · have h := it h c3
        exact w_sub [3] rfl (bX12_soonest_146_95 hX hR l3 u h)
  · have h := ie h c1
    refine w_aload_n 0 40 hX rfl rfl dX12_soonest_40 ?_
    refine w_iload 5 41 hX rfl dX12_soonest_41 ?_
    refine w_iload_n 1 43 hX rfl rfl dX12_soonest_43 ?_
    refine w_iconst 0 44 hX ic_0 dX12_soonest_44 ?_
    obtain ⟨x4, gx4, h⟩ := o_bind h
    refine w_invVi (av := [.int l5, .int l1, .int 0]) (st := []) 45 hX CI_12 s_146 rfl mv_yX12_isOf mi_yX12_isOf ml_X12_320 (CX12_isOf_146 l5 l1 0 u gx4) rfl (by decide) (Nat.le_of_ble_eq_true rfl) (Nat.le_refl _) (Nat.le_refl _) dX12_soonest_45 ?_
    refine w_if_ne (tgt := 54) 48 hX dX12_soonest_48 (by decide) (fun c5 => ?_) (fun c5 => ?_)
    · have h := ie h c5
      refine w_aload_n 0 54 hX rfl rfl dX12_soonest_54 ?_
      refine w_iload 5 55 hX rfl dX12_soonest_55 ?_
      refine w_iconst 0 57 hX ic_0 dX12_soonest_57 ?_
      obtain ⟨x6, u7, gx6, h⟩ := o_bnd2 h
      refine w_invVi (av := [.int l5, .int 0]) (st := []) 58 hX CI_12 s_146 rfl mv_yX12_lastsWith mi_yX12_lastsWith ml_X12_421 (CX12_lastsWith_146 l5 0 u gx6) rfl (by decide) (Nat.le_of_ble_eq_true rfl) (Nat.le_refl _) (Nat.le_refl _) dX12_soonest_58 ?_
      refine w_istore (lv' := [(6, .int x6), (0, .ref 146), (1, .int l1), (2, .int l2), (3, .int l3), (4, .int l4), (5, .int l5)]) 61 hX dX12_soonest_61 (by decide) rfl ?_
      refine w_iload 0 63 hX rfl dX12_soonest_63 ?_
      refine w_iload 5 65 hX rfl dX12_soonest_65 ?_
      refine w_icmp_lt (tgt := 73) 67 hX dX12_soonest_67 (by decide) (fun c8 => ?_) (fun c8 => ?_)
      · have h := it h c8
        refine w_iload 0 73 hX rfl dX12_soonest_73 ?_
        refine w_istore (lv' := [(4, .int x6), (6, .int x6), (0, .ref 146), (1, .int l1), (2, .int l2), (3, .int l3), (5, .int l5)]) 75 hX dX12_soonest_75 (by decide) rfl ?_
        refine w_iload 6 77 hX rfl dX12_soonest_77 ?_
        refine w_istore_n (lv' := [(3, .int l5), (4, .int x6), (6, .int x6), (0, .ref 146), (1, .int l1), (2, .int l2), (5, .int l5)]) 79 hX rfl dX12_soonest_79 (by decide) rfl ?_
        exact w_sub [3, 4, 5, 0, 1, 6] rfl (bX12_soonest_146_80 hX hR hk28 l1 l2 l5 x6 l5 u7 h)
      · have h := ie h c8
        refine w_goto (tgt := 80) 70 hX (by decide) dX12_soonest_70 ?_
        exact w_sub [1, 2, 3, 4, 5, 6] rfl (bX12_soonest_146_80 hX hR hk28 l1 l2 l3 l4 l5 u7 h)
    · have h := it h c5
      refine w_goto (tgt := 80) 51 hX (by decide) dX12_soonest_51 ?_
      exact bX12_soonest_146_80 hX hR hk28 l1 l2 l3 l4 l5 u h
def FX12_soonest_146_L28 : Nat → Int32 → Int32 → Int32 → Int32 → Int32 → Mem → Option (Int32 × Mem)
  | 0, _, _, _, _, _, _ => none
  | n + 1, l1, l2, l3, l4, l5, u => FX12_soonest_146_b28 (FX12_soonest_146_L28 n) l1 l2 l3 l4 l5 u
theorem lX12_soonest_146_28 {G : Gt} {X : Xt} {v : Int32} {u' : Mem} (hX : CxOk G X cX12_soonest 7 RX12 (some (.int v), SH, RHO, u') 11) (hR : CxRet G X (some .int) (some (.int v), SH, RHO, u')) : ∀ (n : Nat) (l1 l2 l3 l4 l5 : Int32) (u : Mem), FX12_soonest_146_L28 n l1 l2 l3 l4 l5 u = some (v, u') → WM G X 28 [(0, .ref 146), (1, .int l1), (2, .int l2), (3, .int l3), (4, .int l4), (5, .int l5)] [] SH RHO u := by
  intro n
  induction n with
  | zero =>
    intro l1 l2 l3 l4 l5 u h
    exact nn_ h
  | succ n ih =>
    intro l1 l2 l3 l4 l5 u h
    exact bX12_soonest_146_28 hX hR ih l1 l2 l3 l4 l5 u h
def FX12_soonest_146 (p1 p2 : Int32) (u : Mem) : Option (Int32 × Mem) :=
  (FX12_isCountry p1).bind fun x1 => (if x1 = 0 then (some ((-1), u)) else ((FX12_isIn p2 0 1).bind fun x3 => (if x3 = 0 then (some ((-1), u)) else (FX12_soonest_146_L28 FU p1 p2 (-1) 1000000 0 u))))
theorem CX12_soonest_146 {G : Gt} (p1 p2 : Int32) (u : Mem) {v : Int32} {u' : Mem} (h : FX12_soonest_146 p1 p2 u = some (v, u')) : CT G yX12_soonest cX12_soonest 7 (some .int) 11 [.ref 146, .int p1, .int p2] SH RHO u (some (.int v), SH, RHO, u') :=
  ct_of (by decide) rfl (Nat.le_of_ble_eq_true rfl) (Nat.le_refl _) (Nat.le_refl _) (fun X hX hR => by
  unfold FX12_soonest_146 at h
  refine w_iload_n 1 0 hX rfl rfl dX12_soonest_0 ?_
  obtain ⟨x1, gx1, h⟩ := o_bind h
  refine w_invSi (av := [.int p1]) (st := []) 1 hX ms_yX12_isCountry mi_yX12_isCountry ml_X12_66 (CX12_isCountry p1 u gx1) rfl (by decide) (Nat.le_of_ble_eq_true rfl) (Nat.le_refl _) (Nat.le_refl _) dX12_soonest_1 ?_
  refine w_if_eq (tgt := 16) 4 hX dX12_soonest_4 (by decide) (fun c2 => ?_) (fun c2 => ?_)
  · have h := it h c2
    refine w_iconst (-1) 16 hX ic_m1 dX12_soonest_16 ?_
    exact w_iret 17 hX hR dX12_soonest_17 (by cases h; rfl)
  · have h := ie h c2
    refine w_iload_n 2 7 hX rfl rfl dX12_soonest_7 ?_
    refine w_iconst 0 8 hX ic_0 dX12_soonest_8 ?_
    refine w_iconst 1 9 hX ic_1 dX12_soonest_9 ?_
    obtain ⟨x3, gx3, h⟩ := o_bind h
    refine w_invSi (av := [.int p2, .int 0, .int 1]) (st := []) 10 hX ms_yX12_isIn mi_yX12_isIn ml_X12_54 (CX12_isIn p2 0 1 u gx3) rfl (by decide) (Nat.le_of_ble_eq_true rfl) (Nat.le_refl _) (Nat.le_refl _) dX12_soonest_10 ?_
    refine w_if_ne (tgt := 18) 13 hX dX12_soonest_13 (by decide) (fun c4 => ?_) (fun c4 => ?_)
    · have h := ie h c4
      refine w_iconst (-1) 18 hX ic_m1 dX12_soonest_18 ?_
      refine w_istore_n (lv' := [(3, .int (-1)), (0, .ref 146), (1, .int p1), (2, .int p2)]) 19 hX rfl dX12_soonest_19 (by decide) rfl ?_
      refine w_ldcw 1000000 20 hX cs_X12_420 dX12_soonest_20 ?_
      refine w_istore (lv' := [(4, .int 1000000), (3, .int (-1)), (0, .ref 146), (1, .int p1), (2, .int p2)]) 23 hX dX12_soonest_23 (by decide) rfl ?_
      refine w_iconst 0 25 hX ic_0 dX12_soonest_25 ?_
      refine w_istore (lv' := [(5, .int 0), (4, .int 1000000), (3, .int (-1)), (0, .ref 146), (1, .int p1), (2, .int p2)]) 26 hX dX12_soonest_26 (by decide) rfl ?_
      exact w_sub [3, 4, 5, 2, 1, 0] rfl (lX12_soonest_146_28 hX hR FU p1 p2 (-1) 1000000 0 u h)
    · have h := it h c4
      refine w_iconst (-1) 16 hX ic_m1 dX12_soonest_16 ?_
      exact w_iret 17 hX hR dX12_soonest_17 (by cases h; rfl))
