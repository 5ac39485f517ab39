def FX12_tells_146_b108 (k15 : Int32 → Mem → Option Mem) (l1 : Int32) (u : Mem) : Option Mem :=
  k15 (l1 + 1) u
theorem bX12_tells_146_108 {G : Gt} {X : Xt} {u' : Mem} (hX : CxOk G X cX12_tells 4 RX12 (none, SH, RHO, u') 2) (hR : CxRet G X none (none, SH, RHO, u')) {k15 : Int32 → Mem → Option Mem} (hk15 : ∀ (l1 : Int32) (u : Mem), k15 l1 u = some u' → WM G X 15 [(0, .ref 146), (1, .int l1)] [] SH RHO u) (l1 : Int32) (u : Mem) (h : FX12_tells_146_b108 k15 l1 u = some u') : WM G X 108 [(0, .ref 146), (1, .int l1)] [] SH RHO u := by
  unfold FX12_tells_146_b108 at h
  refine w_iinc (lv' := [(1, .int (l1 + 1)), (0, .ref 146)]) 108 1 hX dX12_tells_108 rfl (inc_1 _) (by decide) rfl ?_
  refine w_goto (tgt := 15) 111 hX (by decide) dX12_tells_111 ?_
  exact w_sub [1, 0] rfl (hk15 (l1 + 1) u h)
def FX12_tells_146_b102 (k49 : Int32 → Int32 → Int32 → Mem → Option Mem) (l1 l2 l3 : Int32) (u : Mem) : Option Mem :=
  k49 l1 l2 (l3 + 1) u
theorem bX12_tells_146_102 {G : Gt} {X : Xt} {u' : Mem} (hX : CxOk G X cX12_tells 4 RX12 (none, SH, RHO, u') 2) (hR : CxRet G X none (none, SH, RHO, u')) {k49 : Int32 → Int32 → Int32 → Mem → Option Mem} (hk49 : ∀ (l1 l2 l3 : Int32) (u : Mem), k49 l1 l2 l3 u = some u' → WM G X 49 [(0, .ref 146), (1, .int l1), (2, .int l2), (3, .int l3)] [] SH RHO u) (l1 l2 l3 : Int32) (u : Mem) (h : FX12_tells_146_b102 k49 l1 l2 l3 u = some u') : WM G X 102 [(0, .ref 146), (1, .int l1), (2, .int l2), (3, .int l3)] [] SH RHO u := by
  unfold FX12_tells_146_b102 at h
  refine w_iinc (lv' := [(3, .int (l3 + 1)), (0, .ref 146), (1, .int l1), (2, .int l2)]) 102 3 hX dX12_tells_102 rfl (inc_1 _) (by decide) rfl ?_
  refine w_goto (tgt := 49) 105 hX (by decide) dX12_tells_105 ?_
  exact w_sub [1, 2, 3, 0] rfl (hk49 l1 l2 (l3 + 1) u h)
def FX12_tells_146_b49 (k15 : Int32 → Mem → Option Mem) (k49 : Int32 → Int32 → Int32 → Mem → Option Mem) (l1 l2 l3 : Int32) (u : Mem) : Option Mem :=
  (if (u 147 78) ≤ l3 then (FX12_tells_146_b108 k15 l1 u) else ((if ((l2 >>> (l3 &&& 31)) &&& 1) = 1 then ((rdA u 147 1786 (40 + l3)).bind fun x3 => (if x3 = 0 then ((rdA u 147 1786 (16 + l3)).bind fun x5 => (rdA u 147 1786 (16 + l1)).bind fun x6 => (wrA u 147 1786 (16 + l3) (x5 ||| x6)).bind fun u7 => FX12_tells_146_b102 k49 l1 l2 l3 u7) else (FX12_tells_146_b102 k49 l1 l2 l3 u))) else (FX12_tells_146_b102 k49 l1 l2 l3 u))))
theorem bX12_tells_146_49 {G : Gt} {X : Xt} {u' : Mem} (hX : CxOk G X cX12_tells 4 RX12 (none, SH, RHO, u') 2) (hR : CxRet G X none (none, SH, RHO, u')) {k15 : Int32 → Mem → Option Mem} (hk15 : ∀ (l1 : Int32) (u : Mem), k15 l1 u = some u' → WM G X 15 [(0, .ref 146), (1, .int l1)] [] SH RHO u) {k49 : Int32 → Int32 → Int32 → Mem → Option Mem} (hk49 : ∀ (l1 l2 l3 : Int32) (u : Mem), k49 l1 l2 l3 u = some u' → WM G X 49 [(0, .ref 146), (1, .int l1), (2, .int l2), (3, .int l3)] [] SH RHO u) (l1 l2 l3 : Int32) (u : Mem) (h : FX12_tells_146_b49 k15 k49 l1 l2 l3 u = some u') : WM G X 49 [(0, .ref 146), (1, .int l1), (2, .int l2), (3, .int l3)] [] SH RHO u := by
  unfold FX12_tells_146_b49 at h
  refine w_iload_n 3 49 hX rfl rfl dX12_tells_49 ?_
  refine w_aload_n 0 50 hX rfl rfl dX12_tells_50 ?_
  refine w_getR 51 hX CI_12 s_146 rfl r_146_0 fl_X12_7 rfl dX12_tells_51 ?_
  refine w_bipush 78 54 hX ib_78 dX12_tells_54 ?_
  refine w_iald 56 hX s_147 (rdK 78 78 n_78 (by decide) (by decide)) dX12_tells_56 ?_
  refine w_icmp_ge (tgt := 108) 57 hX dX12_tells_57 (by decide) (fun c1 => ?_) (fun c1 => ?_)
  · have h := it h c1
    exact w_sub [0, 1] rfl (bX12_tells_146_108 hX hR hk15 l1 u h)
  · have h := ie h c1
    refine w_iload_n 2 60 hX rfl rfl dX12_tells_60 ?_
    refine w_iload_n 3 61 hX rfl rfl dX12_tells_61 ?_
    refine w_ishr 62 hX dX12_tells_62 ?_
    refine w_iconst 1 63 hX ic_1 dX12_tells_63 ?_
    refine w_iand 64 hX dX12_tells_64 ?_
    refine w_iconst 1 65 hX ic_1 dX12_tells_65 ?_
    refine w_icmp_ne (tgt := 102) 66 hX dX12_tells_66 (by decide) (fun c2 => ?_) (fun c2 => ?_)
    · have h := ie h c2
      exact bX12_tells_146_102 hX hR hk49 l1 l2 l3 u h
    · have h := it h c2
      refine w_aload_n 0 69 hX rfl rfl dX12_tells_69 ?_
      refine w_getR 70 hX CI_12 s_146 rfl r_146_0 fl_X12_7 rfl dX12_tells_70 ?_
      refine w_bipush 40 73 hX ib_40 dX12_tells_73 ?_
      refine w_iload_n 3 75 hX rfl rfl dX12_tells_75 ?_
      refine w_iadd 76 hX dX12_tells_76 ?_
      obtain ⟨x3, gx3, h⟩ := o_bind h
      refine w_iald 77 hX s_147 gx3 dX12_tells_77 ?_
      refine w_if_ne (tgt := 102) 78 hX dX12_tells_78 (by decide) (fun c4 => ?_) (fun c4 => ?_)
      · have h := ie h c4
        exact bX12_tells_146_102 hX hR hk49 l1 l2 l3 u h
      · have h := it h c4
        refine w_aload_n 0 81 hX rfl rfl dX12_tells_81 ?_
        refine w_getR 82 hX CI_12 s_146 rfl r_146_0 fl_X12_7 rfl dX12_tells_82 ?_
        refine w_bipush 16 85 hX ib_16 dX12_tells_85 ?_
        refine w_iload_n 3 87 hX rfl rfl dX12_tells_87 ?_
        refine w_iadd 88 hX dX12_tells_88 ?_
        refine w_dup2 89 hX rfl rfl dX12_tells_89 ?_
        obtain ⟨x5, gx5, h⟩ := o_bind h
        refine w_iald 90 hX s_147 gx5 dX12_tells_90 ?_
        refine w_aload_n 0 91 hX rfl rfl dX12_tells_91 ?_
        refine w_getR 92 hX CI_12 s_146 rfl r_146_0 fl_X12_7 rfl dX12_tells_92 ?_
        refine w_bipush 16 95 hX ib_16 dX12_tells_95 ?_
        refine w_iload_n 1 97 hX rfl rfl dX12_tells_97 ?_
        refine w_iadd 98 hX dX12_tells_98 ?_
        obtain ⟨x6, gx6, h⟩ := o_bind h
        refine w_iald 99 hX s_147 gx6 dX12_tells_99 ?_
        refine w_ior 100 hX dX12_tells_100 ?_
        obtain ⟨u7, gu7, h⟩ := o_bind h
        refine w_iast 101 hX s_147 gu7 dX12_tells_101 ?_
        exact bX12_tells_146_102 hX hR hk49 l1 l2 l3 u7 h
def FX12_tells_146_L49 (k15 : Int32 → Mem → Option Mem) : Nat → Int32 → Int32 → Int32 → Mem → Option Mem
  | 0, _, _, _, _ => none
  | n + 1, l1, l2, l3, u => FX12_tells_146_b49 k15 (FX12_tells_146_L49 k15 n) l1 l2 l3 u
theorem lX12_tells_146_49 {G : Gt} {X : Xt} {u' : Mem} (hX : CxOk G X cX12_tells 4 RX12 (none, SH, RHO, u') 2) (hR : CxRet G X none (none, SH, RHO, u')) {k15 : Int32 → Mem → Option Mem} (hk15 : ∀ (l1 : Int32) (u : Mem), k15 l1 u = some u' → WM G X 15 [(0, .ref 146), (1, .int l1)] [] SH RHO u) : ∀ (n : Nat) (l1 l2 l3 : Int32) (u : Mem), FX12_tells_146_L49 k15 n l1 l2 l3 u = some u' → WM G X 49 [(0, .ref 146), (1, .int l1), (2, .int l2), (3, .int l3)] [] SH RHO u := by
  intro n
  induction n with
  | zero =>
    intro l1 l2 l3 u h
    exact nn_ h
  | succ n ih =>
    intro l1 l2 l3 u h
    exact bX12_tells_146_49 hX hR hk15 ih l1 l2 l3 u h
def FX12_tells_146_b15 (k15 : Int32 → Mem → Option Mem) (l1 : Int32) (u : Mem) : Option Mem :=
  (if (u 147 78) ≤ l1 then (some u) else ((rdA u 147 1786 (40 + l1)).bind fun x2 => (if x2 = 0 then ((FX12_toldBy_146 l1 u).bind fun x4 => FX12_tells_146_L49 k15 FU l1 x4 0 u) else (FX12_tells_146_b108 k15 l1 u))))
theorem bX12_tells_146_15 {G : Gt} {X : Xt} {u' : Mem} (hX : CxOk G X cX12_tells 4 RX12 (none, SH, RHO, u') 2) (hR : CxRet G X none (none, SH, RHO, u')) {k15 : Int32 → Mem → Option Mem} (hk15 : ∀ (l1 : Int32) (u : Mem), k15 l1 u = some u' → WM G X 15 [(0, .ref 146), (1, .int l1)] [] SH RHO u) (l1 : Int32) (u : Mem) (h : FX12_tells_146_b15 k15 l1 u = some u') : WM G X 15 [(0, .ref 146), (1, .int l1)] [] SH RHO u := by
  unfold FX12_tells_146_b15 at h
  refine w_iload_n 1 15 hX rfl rfl dX12_tells_15 ?_
  refine w_aload_n 0 16 hX rfl rfl dX12_tells_16 ?_
  refine w_getR 17 hX CI_12 s_146 rfl r_146_0 fl_X12_7 rfl dX12_tells_17 ?_
  refine w_bipush 78 20 hX ib_78 dX12_tells_20 ?_
  refine w_iald 22 hX s_147 (rdK 78 78 n_78 (by decide) (by decide)) dX12_tells_22 ?_
  refine w_icmp_ge (tgt := 114) 23 hX dX12_tells_23 (by decide) (fun c1 => ?_) (fun c1 => ?_)
  · have h := it h c1
    exact w_vret 114 hX hR dX12_tells_114 (by cases h; rfl)
  · have h := ie h c1
    refine w_aload_n 0 26 hX rfl rfl dX12_tells_26 ?_
    refine w_getR 27 hX CI_12 s_146 rfl r_146_0 fl_X12_7 rfl dX12_tells_27 ?_
    refine w_bipush 40 30 hX ib_40 dX12_tells_30 ?_
    refine w_iload_n 1 32 hX rfl rfl dX12_tells_32 ?_
    refine w_iadd 33 hX dX12_tells_33 ?_
    obtain ⟨x2, gx2, h⟩ := o_bind h
    refine w_iald 34 hX s_147 gx2 dX12_tells_34 ?_
    refine w_if_eq (tgt := 41) 35 hX dX12_tells_35 (by decide) (fun c3 => ?_) (fun c3 => ?_)
    · have h := it h c3
      refine w_aload_n 0 41 hX rfl rfl dX12_tells_41 ?_
      refine w_iload_n 1 42 hX rfl rfl dX12_tells_42 ?_
      obtain ⟨x4, gx4, h⟩ := o_bind h
      refine w_invVi (av := [.int l1]) (st := []) 43 hX CI_12 s_146 rfl mv_yX12_toldBy mi_yX12_toldBy ml_X12_370 (CX12_toldBy_146 l1 u gx4) rfl (by decide) (Nat.le_of_ble_eq_true rfl) (Nat.le_refl _) (Nat.le_refl _) dX12_tells_43 ?_
      refine w_istore_n (lv' := [(2, .int x4), (0, .ref 146), (1, .int l1)]) 46 hX rfl dX12_tells_46 (by decide) rfl ?_
      refine w_iconst 0 47 hX ic_0 dX12_tells_47 ?_
      refine w_istore_n (lv' := [(3, .int 0), (2, .int x4), (0, .ref 146), (1, .int l1)]) 48 hX rfl dX12_tells_48 (by decide) rfl ?_
      exact w_sub [2, 3, 1, 0] rfl (lX12_tells_146_49 hX hR hk15 FU l1 x4 0 u h)
    · have h := ie h c3
      refine w_goto (tgt := 108) 38 hX (by decide) dX12_tells_38 ?_
      exact bX12_tells_146_108 hX hR hk15 l1 u h
def FX12_tells_146_L15 : Nat → Int32 → Mem → Option Mem
  | 0, _, _ => none
  | n + 1, l1, u => FX12_tells_146_b15 (FX12_tells_146_L15 n) l1 u
theorem lX12_tells_146_15 {G : Gt} {X : Xt} {u' : Mem} (hX : CxOk G X cX12_tells 4 RX12 (none, SH, RHO, u') 2) (hR : CxRet G X none (none, SH, RHO, u')) : ∀ (n : Nat) (l1 : Int32) (u : Mem), FX12_tells_146_L15 n l1 u = some u' → WM G X 15 [(0, .ref 146), (1, .int l1)] [] SH RHO u := by
  intro n
  induction n with
  | zero =>
    intro l1 u h
    exact nn_ h
  | succ n ih =>
    intro l1 u h
    exact bX12_tells_146_15 hX hR ih l1 u h
def FX12_tells_146 (u : Mem) : Option Mem :=
  (rmI (u 147 0) 7).bind fun x1 => (if x1 = 0 then (FX12_tells_146_L15 FU 0 u) else (some u))
theorem CX12_tells_146 {G : Gt} (u : Mem) {u' : Mem} (h : FX12_tells_146 u = some u') : CT G yX12_tells cX12_tells 4 none 2 [.ref 146] SH RHO u (none, SH, RHO, u') :=
  ct_of (by decide) rfl (Nat.le_of_ble_eq_true rfl) (Nat.le_refl _) (Nat.le_refl _) (fun X hX hR => by
  unfold FX12_tells_146 at h
  refine w_aload_n 0 0 hX rfl rfl dX12_tells_0 ?_
  refine w_getR 1 hX CI_12 s_146 rfl r_146_0 fl_X12_7 rfl dX12_tells_1 ?_
  refine w_iconst 0 4 hX ic_0 dX12_tells_4 ?_
  refine w_iald 5 hX s_147 (rdK 0 0 n_0 (by decide) (by decide)) dX12_tells_5 ?_
  refine w_bipush 7 6 hX ib_7 dX12_tells_6 ?_
  obtain ⟨x1, gx1, h⟩ := o_bind h
  obtain ⟨qx1, jx1⟩ := rmI_ok gx1
  refine w_irem 8 hX qx1 dX12_tells_8 ?_
  rw [jx1]
  refine w_if_eq (tgt := 13) 9 hX dX12_tells_9 (by decide) (fun c2 => ?_) (fun c2 => ?_)
  · have h := it h c2
    refine w_iconst 0 13 hX ic_0 dX12_tells_13 ?_
    refine w_istore_n (lv' := [(1, .int 0), (0, .ref 146)]) 14 hX rfl dX12_tells_14 (by decide) rfl ?_
    exact w_sub [1, 0] rfl (lX12_tells_146_15 hX hR FU 0 u h)
  · have h := ie h c2
    exact w_vret 12 hX hR dX12_tells_12 (by cases h; rfl))
def FX12_draw_146 (p1 : Int32) (u : Mem) : Option (Int32 × Mem) :=
  (some (mupd u 147 2 ((1664525 * (u 147 2)) + 1013904223))).bind fun u1 => (rmI (((u1 147 2 : Int32).toUInt32 >>> ((8 : Int32).toUInt32 &&& Int32.toUInt32 31)).toInt32) p1).bind fun x2 => some (x2, u1)
theorem CX12_draw_146 {G : Gt} (p1 : Int32) (u : Mem) {v : Int32} {u' : Mem} (h : FX12_draw_146 p1 u = some (v, u')) : CT G yX12_draw cX12_draw 2 (some .int) 1 [.ref 146, .int p1] SH RHO u (some (.int v), SH, RHO, u') :=
  ct_of (by decide) rfl (Nat.le_of_ble_eq_true rfl) (Nat.le_refl _) (Nat.le_refl _) (fun X hX hR => by
  unfold FX12_draw_146 at h
  refine w_aload_n 0 0 hX rfl rfl dX12_draw_0 ?_
  refine w_getR 1 hX CI_12 s_146 rfl r_146_0 fl_X12_7 rfl dX12_draw_1 ?_
  refine w_iconst 2 4 hX ic_2 dX12_draw_4 ?_
  refine w_ldc 1664525 5 hX cs_X12_64 dX12_draw_5 ?_
  refine w_aload_n 0 7 hX rfl rfl dX12_draw_7 ?_
  refine w_getR 8 hX CI_12 s_146 rfl r_146_0 fl_X12_7 rfl dX12_draw_8 ?_
  refine w_iconst 2 11 hX ic_2 dX12_draw_11 ?_
  refine w_iald 12 hX s_147 (rdK 2 2 n_2 (by decide) (by decide)) dX12_draw_12 ?_
  refine w_imul 13 hX dX12_draw_13 ?_
  refine w_ldc 1013904223 14 hX cs_X12_65 dX12_draw_14 ?_
  refine w_iadd 16 hX dX12_draw_16 ?_
  obtain ⟨u1, gu1, h⟩ := o_bind h
  refine w_iast 17 hX s_147 (wrK 2 2 n_2 (by decide) (by decide) gu1) dX12_draw_17 ?_
  refine w_aload_n 0 18 hX rfl rfl dX12_draw_18 ?_
  refine w_getR 19 hX CI_12 s_146 rfl r_146_0 fl_X12_7 rfl dX12_draw_19 ?_
  refine w_iconst 2 22 hX ic_2 dX12_draw_22 ?_
  refine w_iald 23 hX s_147 (rdK 2 2 n_2 (by decide) (by decide)) dX12_draw_23 ?_
  refine w_bipush 8 24 hX ib_8 dX12_draw_24 ?_
  refine w_iushr 26 hX dX12_draw_26 ?_
  refine w_iload_n 1 27 hX rfl rfl dX12_draw_27 ?_
  obtain ⟨x2, gx2, h⟩ := o_bind h
  obtain ⟨qx2, jx2⟩ := rmI_ok gx2
  refine w_irem 28 hX qx2 dX12_draw_28 ?_
  rw [jx2]
  exact w_iret 29 hX hR dX12_draw_29 (by cases h; rfl))
def FX12_fadeOf_146 (p1 : Int32) (u : Mem) : Option (Int32 × Mem) :=
  bnd2 (FX12_says_146 23 p1 50 1000 u) fun x1 u2 => some (x1, u2)
theorem CX12_fadeOf_146 {G : Gt} (p1 : Int32) (u : Mem) {v : Int32} {u' : Mem} (h : FX12_fadeOf_146 p1 u = some (v, u')) : CT G yX12_fadeOf cX12_fadeOf 2 (some .int) 5 [.ref 146, .int p1] SH RHO u (some (.int v), SH, RHO, u') :=
  ct_of (by decide) rfl (Nat.le_of_ble_eq_true rfl) (Nat.le_refl _) (Nat.le_refl _) (fun X hX hR => by
  unfold FX12_fadeOf_146 at h
  refine w_aload_n 0 0 hX rfl rfl dX12_fadeOf_0 ?_
  refine w_bipush 23 1 hX ib_23 dX12_fadeOf_1 ?_
  refine w_iload_n 1 3 hX rfl rfl dX12_fadeOf_3 ?_
  refine w_bipush 50 4 hX ib_50 dX12_fadeOf_4 ?_
  refine w_sipush 1000 6 hX isp_1000 dX12_fadeOf_6 ?_
  obtain ⟨x1, u2, gx1, h⟩ := o_bnd2 h
  refine w_invVi (av := [.int 23, .int p1, .int 50, .int 1000]) (st := []) 9 hX CI_12 s_146 rfl mv_yX12_says mi_yX12_says ml_X12_306 (CX12_says_146 23 p1 50 1000 u gx1) rfl (by decide) (Nat.le_of_ble_eq_true rfl) (Nat.le_refl _) (Nat.le_refl _) dX12_fadeOf_9 ?_
  exact w_iret 12 hX hR dX12_fadeOf_12 (by cases h; rfl))
def FX12_fades_146_b98 (k2 : Int32 → Mem → Option Mem) (l1 : Int32) (u : Mem) : Option Mem :=
  k2 (l1 + 1) u
theorem bX12_fades_146_98 {G : Gt} {X : Xt} {u' : Mem} (hX : CxOk G X cX12_fades 3 RX12 (none, SH, RHO, u') 6) (hR : CxRet G X none (none, SH, RHO, u')) {k2 : Int32 → Mem → Option Mem} (hk2 : ∀ (l1 : Int32) (u : Mem), k2 l1 u = some u' → WM G X 2 [(0, .ref 146), (1, .int l1)] [] SH RHO u) (l1 : Int32) (u : Mem) (h : FX12_fades_146_b98 k2 l1 u = some u') : WM G X 98 [(0, .ref 146), (1, .int l1)] [] SH RHO u := by
  unfold FX12_fades_146_b98 at h
  refine w_iinc (lv' := [(1, .int (l1 + 1)), (0, .ref 146)]) 98 1 hX dX12_fades_98 rfl (inc_1 _) (by decide) rfl ?_
  refine w_goto (tgt := 2) 101 hX (by decide) dX12_fades_101 ?_
  exact w_sub [1, 0] rfl (hk2 (l1 + 1) u h)
def FX12_fades_146_b52 (k2 : Int32 → Mem → Option Mem) (k52 : Int32 → Int32 → Mem → Option Mem) (l1 l2 : Int32) (u : Mem) : Option Mem :=
  (rdA u 147 1786 (16 + l1)).bind fun x1 => (if ((x1 >>> (l2 &&& 31)) &&& 1) = 0 then (k52 l1 (l2 + 1) u) else ((rdA u 147 1786 (16 + l1)).bind fun x3 => (wrA u 147 1786 (16 + l1) (x3 &&& (((1 : Int32) <<< (l2 &&& 31)) ^^^ (-1)))).bind fun u4 => (FX12_notes_146 3 l1 l2 u4).bind fun u6 => FX12_fades_146_b98 k2 l1 u6))
theorem bX12_fades_146_52 {G : Gt} {X : Xt} {u' : Mem} (hX : CxOk G X cX12_fades 3 RX12 (none, SH, RHO, u') 6) (hR : CxRet G X none (none, SH, RHO, u')) {k2 : Int32 → Mem → Option Mem} (hk2 : ∀ (l1 : Int32) (u : Mem), k2 l1 u = some u' → WM G X 2 [(0, .ref 146), (1, .int l1)] [] SH RHO u) {k52 : Int32 → Int32 → Mem → Option Mem} (hk52 : ∀ (l1 l2 : Int32) (u : Mem), k52 l1 l2 u = some u' → WM G X 52 [(0, .ref 146), (1, .int l1), (2, .int l2)] [] SH RHO u) (l1 l2 : Int32) (u : Mem) (h : FX12_fades_146_b52 k2 k52 l1 l2 u = some u') : WM G X 52 [(0, .ref 146), (1, .int l1), (2, .int l2)] [] SH RHO u := by
  unfold FX12_fades_146_b52 at h
  refine w_aload_n 0 52 hX rfl rfl dX12_fades_52 ?_
  refine w_getR 53 hX CI_12 s_146 rfl r_146_0 fl_X12_7 rfl dX12_fades_53 ?_
  refine w_bipush 16 56 hX ib_16 dX12_fades_56 ?_
  refine w_iload_n 1 58 hX rfl rfl dX12_fades_58 ?_
  refine w_iadd 59 hX dX12_fades_59 ?_
  obtain ⟨x1, gx1, h⟩ := o_bind h
  refine w_iald 60 hX s_147 gx1 dX12_fades_60 ?_
  refine w_iload_n 2 61 hX rfl rfl dX12_fades_61 ?_
  refine w_ishr 62 hX dX12_fades_62 ?_
  refine w_iconst 1 63 hX ic_1 dX12_fades_63 ?_
  refine w_iand 64 hX dX12_fades_64 ?_
  refine w_if_ne (tgt := 74) 65 hX dX12_fades_65 (by decide) (fun c2 => ?_) (fun c2 => ?_)
  · have h := ie h c2
    refine w_aload_n 0 74 hX rfl rfl dX12_fades_74 ?_
    refine w_getR 75 hX CI_12 s_146 rfl r_146_0 fl_X12_7 rfl dX12_fades_75 ?_
    refine w_bipush 16 78 hX ib_16 dX12_fades_78 ?_
    refine w_iload_n 1 80 hX rfl rfl dX12_fades_80 ?_
    refine w_iadd 81 hX dX12_fades_81 ?_
    refine w_dup2 82 hX rfl rfl dX12_fades_82 ?_
    obtain ⟨x3, gx3, h⟩ := o_bind h
    refine w_iald 83 hX s_147 gx3 dX12_fades_83 ?_
    refine w_iconst 1 84 hX ic_1 dX12_fades_84 ?_
    refine w_iload_n 2 85 hX rfl rfl dX12_fades_85 ?_
    refine w_ishl 86 hX dX12_fades_86 ?_
    refine w_iconst (-1) 87 hX ic_m1 dX12_fades_87 ?_
    refine w_ixor 88 hX dX12_fades_88 ?_
    refine w_iand 89 hX dX12_fades_89 ?_
    obtain ⟨u4, gu4, h⟩ := o_bind h
    refine w_iast 90 hX s_147 gu4 dX12_fades_90 ?_
    refine w_aload_n 0 91 hX rfl rfl dX12_fades_91 ?_
    refine w_iconst 3 92 hX ic_3 dX12_fades_92 ?_
    refine w_iload_n 1 93 hX rfl rfl dX12_fades_93 ?_
    refine w_iload_n 2 94 hX rfl rfl dX12_fades_94 ?_
    obtain ⟨u6, gu6, h⟩ := o_bind h
    refine w_invVv (av := [.int 3, .int l1, .int l2]) (st := []) 95 hX CI_12 s_146 rfl mv_yX12_notes mi_yX12_notes ml_X12_336 (CX12_notes_146 3 l1 l2 u4 gu6) rfl (by decide) (Nat.le_of_ble_eq_true rfl) (Nat.le_refl _) (Nat.le_refl _) dX12_fades_95 ?_
    exact w_sub [0, 1] rfl (bX12_fades_146_98 hX hR hk2 l1 u6 h)
  · have h := it h c2
    refine w_iinc (lv' := [(2, .int (l2 + 1)), (0, .ref 146), (1, .int l1)]) 68 2 hX dX12_fades_68 rfl (inc_1 _) (by decide) rfl ?_
    refine w_goto (tgt := 52) 71 hX (by decide) dX12_fades_71 ?_
    exact w_sub [1, 2, 0] rfl (hk52 l1 (l2 + 1) u h)
def FX12_fades_146_L52 (k2 : Int32 → Mem → Option Mem) : Nat → Int32 → Int32 → Mem → Option Mem
  | 0, _, _, _ => none
  | n + 1, l1, l2, u => FX12_fades_146_b52 k2 (FX12_fades_146_L52 k2 n) l1 l2 u
theorem lX12_fades_146_52 {G : Gt} {X : Xt} {u' : Mem} (hX : CxOk G X cX12_fades 3 RX12 (none, SH, RHO, u') 6) (hR : CxRet G X none (none, SH, RHO, u')) {k2 : Int32 → Mem → Option Mem} (hk2 : ∀ (l1 : Int32) (u : Mem), k2 l1 u = some u' → WM G X 2 [(0, .ref 146), (1, .int l1)] [] SH RHO u) : ∀ (n : Nat) (l1 l2 : Int32) (u : Mem), FX12_fades_146_L52 k2 n l1 l2 u = some u' → WM G X 52 [(0, .ref 146), (1, .int l1), (2, .int l2)] [] SH RHO u := by
  intro n
  induction n with
  | zero =>
    intro l1 l2 u h
    exact nn_ h
  | succ n ih =>
    intro l1 l2 u h
    exact bX12_fades_146_52 hX hR hk2 ih l1 l2 u h
def FX12_fades_146_b2 (k2 : Int32 → Mem → Option Mem) (l1 : Int32) (u : Mem) : Option Mem :=
  (if (u 147 78) ≤ l1 then (some u) else ((if (u 146 28) = 0 then (FX12_fades_146_b98 k2 l1 u) else ((rdA u 147 1786 (16 + l1)).bind fun x3 => (if x3 = 0 then (FX12_fades_146_b98 k2 l1 u) else (bnd2 (FX12_draw_146 1000 u) fun x5 u6 => bnd2 (FX12_fadeOf_146 l1 u6) fun x7 u8 => (if x5 < x7 then (FX12_fades_146_L52 k2 FU l1 0 u8) else (FX12_fades_146_b98 k2 l1 u8))))))))
theorem bX12_fades_146_2 {G : Gt} {X : Xt} {u' : Mem} (hX : CxOk G X cX12_fades 3 RX12 (none, SH, RHO, u') 6) (hR : CxRet G X none (none, SH, RHO, u')) {k2 : Int32 → Mem → Option Mem} (hk2 : ∀ (l1 : Int32) (u : Mem), k2 l1 u = some u' → WM G X 2 [(0, .ref 146), (1, .int l1)] [] SH RHO u) (l1 : Int32) (u : Mem) (h : FX12_fades_146_b2 k2 l1 u = some u') : WM G X 2 [(0, .ref 146), (1, .int l1)] [] SH RHO u := by
  unfold FX12_fades_146_b2 at h
  refine w_iload_n 1 2 hX rfl rfl dX12_fades_2 ?_
  refine w_aload_n 0 3 hX rfl rfl dX12_fades_3 ?_
  refine w_getR 4 hX CI_12 s_146 rfl r_146_0 fl_X12_7 rfl dX12_fades_4 ?_
  refine w_bipush 78 7 hX ib_78 dX12_fades_7 ?_
  refine w_iald 9 hX s_147 (rdK 78 78 n_78 (by decide) (by decide)) dX12_fades_9 ?_
  refine w_icmp_ge (tgt := 104) 10 hX dX12_fades_10 (by decide) (fun c1 => ?_) (fun c1 => ?_)
  · have h := it h c1
    exact w_vret 104 hX hR dX12_fades_104 (by cases h; rfl)
  · have h := ie h c1
    refine w_aload_n 0 13 hX rfl rfl dX12_fades_13 ?_
    refine w_getI (j := 28) 14 hX CI_12 s_146 rfl fl_X12_313 rfl dX12_fades_14 ?_
    refine w_if_eq (tgt := 98) 17 hX dX12_fades_17 (by decide) (fun c2 => ?_) (fun c2 => ?_)
    · have h := it h c2
      exact bX12_fades_146_98 hX hR hk2 l1 u h
    · have h := ie h c2
      refine w_aload_n 0 20 hX rfl rfl dX12_fades_20 ?_
      refine w_getR 21 hX CI_12 s_146 rfl r_146_0 fl_X12_7 rfl dX12_fades_21 ?_
      refine w_bipush 16 24 hX ib_16 dX12_fades_24 ?_
      refine w_iload_n 1 26 hX rfl rfl dX12_fades_26 ?_
      refine w_iadd 27 hX dX12_fades_27 ?_
      obtain ⟨x3, gx3, h⟩ := o_bind h
      refine w_iald 28 hX s_147 gx3 dX12_fades_28 ?_
      refine w_if_eq (tgt := 98) 29 hX dX12_fades_29 (by decide) (fun c4 => ?_) (fun c4 => ?_)
      · have h := it h c4
        exact bX12_fades_146_98 hX hR hk2 l1 u h
      · have h := ie h c4
        refine w_aload_n 0 32 hX rfl rfl dX12_fades_32 ?_
        refine w_sipush 1000 33 hX isp_1000 dX12_fades_33 ?_
        obtain ⟨x5, u6, gx5, h⟩ := o_bnd2 h
        refine w_invVi (av := [.int 1000]) (st := []) 36 hX CI_12 s_146 rfl mv_yX12_draw mi_yX12_draw ml_X12_373 (CX12_draw_146 1000 u gx5) rfl (by decide) (Nat.le_of_ble_eq_true rfl) (Nat.le_refl _) (Nat.le_refl _) dX12_fades_36 ?_
        refine w_aload_n 0 39 hX rfl rfl dX12_fades_39 ?_
        refine w_iload_n 1 40 hX rfl rfl dX12_fades_40 ?_
        obtain ⟨x7, u8, gx7, h⟩ := o_bnd2 h
        refine w_invVi (av := [.int l1]) (st := [.int x5]) 41 hX CI_12 s_146 rfl mv_yX12_fadeOf mi_yX12_fadeOf ml_X12_376 (CX12_fadeOf_146 l1 u6 gx7) rfl (by decide) (Nat.le_of_ble_eq_true rfl) (Nat.le_refl _) (Nat.le_refl _) dX12_fades_41 ?_
        refine w_icmp_lt (tgt := 50) 44 hX dX12_fades_44 (by decide) (fun c9 => ?_) (fun c9 => ?_)
        · have h := it h c9
          refine w_iconst 0 50 hX ic_0 dX12_fades_50 ?_
          refine w_istore_n (lv' := [(2, .int 0), (0, .ref 146), (1, .int l1)]) 51 hX rfl dX12_fades_51 (by decide) rfl ?_
          exact w_sub [1, 2, 0] rfl (lX12_fades_146_52 hX hR hk2 FU l1 0 u8 h)
        · have h := ie h c9
          refine w_goto (tgt := 98) 47 hX (by decide) dX12_fades_47 ?_
          exact bX12_fades_146_98 hX hR hk2 l1 u8 h
def FX12_fades_146_L2 : Nat → Int32 → Mem → Option Mem
  | 0, _, _ => none
  | n + 1, l1, u => FX12_fades_146_b2 (FX12_fades_146_L2 n) l1 u
theorem lX12_fades_146_2 {G : Gt} {X : Xt} {u' : Mem} (hX : CxOk G X cX12_fades 3 RX12 (none, SH, RHO, u') 6) (hR : CxRet G X none (none, SH, RHO, u')) : ∀ (n : Nat) (l1 : Int32) (u : Mem), FX12_fades_146_L2 n l1 u = some u' → WM G X 2 [(0, .ref 146), (1, .int l1)] [] SH RHO u := by
  intro n
  induction n with
  | zero =>
    intro l1 u h
    exact nn_ h
  | succ n ih =>
    intro l1 u h
    exact bX12_fades_146_2 hX hR ih l1 u h
def FX12_fades_146 (u : Mem) : Option Mem :=
  FX12_fades_146_L2 FU 0 u
theorem CX12_fades_146 {G : Gt} (u : Mem) {u' : Mem} (h : FX12_fades_146 u = some u') : CT G yX12_fades cX12_fades 3 none 6 [.ref 146] SH RHO u (none, SH, RHO, u') :=
  ct_of (by decide) rfl (Nat.le_of_ble_eq_true rfl) (Nat.le_refl _) (Nat.le_refl _) (fun X hX hR => by
  unfold FX12_fades_146 at h
  refine w_iconst 0 0 hX ic_0 dX12_fades_0 ?_
  refine w_istore_n (lv' := [(1, .int 0), (0, .ref 146)]) 1 hX rfl dX12_fades_1 (by decide) rfl ?_
  exact w_sub [1, 0] rfl (lX12_fades_146_2 hX hR FU 0 u h))
def FX12_knownIn_146_b42 (k4 : Int32 → Int32 → Int32 → Mem → Option Int32) (l1 l3 t0 t1 : Int32) (u : Mem) : Option Int32 :=
  k4 l1 (t0 ||| t1) (l3 + 1) u
theorem bX12_knownIn_146_42 {G : Gt} {X : Xt} {v : Int32} {u : Mem} (hX : CxOk G X cX12_knownIn 4 RX12 (some (.int v), SH, RHO, u) 1) (hR : CxRet G X (some .int) (some (.int v), SH, RHO, u)) {k4 : Int32 → Int32 → Int32 → Mem → Option Int32} (hk4 : ∀ (l1 l2 l3 : Int32), k4 l1 l2 l3 u = some v → WM G X 4 [(0, .ref 146), (1, .int l1), (2, .int l2), (3, .int l3)] [] SH RHO u) (l1 l3 t0 t1 : Int32) (h : FX12_knownIn_146_b42 k4 l1 l3 t0 t1 u = some v) : WM G X 42 [(0, .ref 146), (1, .int l1), (3, .int l3)] [.int t1, .int t0] SH RHO u := by
  unfold FX12_knownIn_146_b42 at h
  refine w_ior 42 hX dX12_knownIn_42 ?_
  refine w_istore_n (lv' := [(2, .int (t0 ||| t1)), (0, .ref 146), (1, .int l1), (3, .int l3)]) 43 hX rfl dX12_knownIn_43 (by decide) rfl ?_
  refine w_iinc (lv' := [(3, .int (l3 + 1)), (2, .int (t0 ||| t1)), (0, .ref 146), (1, .int l1)]) 44 3 hX dX12_knownIn_44 rfl (inc_1 _) (by decide) rfl ?_
  refine w_goto (tgt := 4) 47 hX (by decide) dX12_knownIn_47 ?_
  exact w_sub [2, 3, 1, 0] rfl (hk4 l1 (t0 ||| t1) (l3 + 1) h)
def FX12_knownIn_146_b4 (k4 : Int32 → Int32 → Int32 → Mem → Option Int32) (l1 l2 l3 : Int32) (u : Mem) : Option Int32 :=
  (if (u 147 78) ≤ l3 then (some l2) else ((rdA u 147 1786 (90 + l3)).bind fun x2 => (if x2 = l1 then ((rdA u 147 1786 (16 + l3)).bind fun x4 => FX12_knownIn_146_b42 k4 l1 l3 l2 x4 u) else (FX12_knownIn_146_b42 k4 l1 l3 l2 0 u))))
theorem bX12_knownIn_146_4 {G : Gt} {X : Xt} {v : Int32} {u : Mem} (hX : CxOk G X cX12_knownIn 4 RX12 (some (.int v), SH, RHO, u) 1) (hR : CxRet G X (some .int) (some (.int v), SH, RHO, u)) {k4 : Int32 → Int32 → Int32 → Mem → Option Int32} (hk4 : ∀ (l1 l2 l3 : Int32), k4 l1 l2 l3 u = some v → WM G X 4 [(0, .ref 146), (1, .int l1), (2, .int l2), (3, .int l3)] [] SH RHO u) (l1 l2 l3 : Int32) (h : FX12_knownIn_146_b4 k4 l1 l2 l3 u = some v) : WM G X 4 [(0, .ref 146), (1, .int l1), (2, .int l2), (3, .int l3)] [] SH RHO u := by
  unfold FX12_knownIn_146_b4 at h
  refine w_iload_n 3 4 hX rfl rfl dX12_knownIn_4 ?_
  refine w_aload_n 0 5 hX rfl rfl dX12_knownIn_5 ?_
  refine w_getR 6 hX CI_12 s_146 rfl r_146_0 fl_X12_7 rfl dX12_knownIn_6 ?_
  refine w_bipush 78 9 hX ib_78 dX12_knownIn_9 ?_
  refine w_iald 11 hX s_147 (rdK 78 78 n_78 (by decide) (by decide)) dX12_knownIn_11 ?_
  refine w_icmp_ge (tgt := 50) 12 hX dX12_knownIn_12 (by decide) (fun c1 => ?_) (fun c1 => ?_)
  · have h := it h c1
    refine w_iload_n 2 50 hX rfl rfl dX12_knownIn_50 ?_
    exact w_iret 51 hX hR dX12_knownIn_51 (by cases h; rfl)
  · have h := ie h c1
    refine w_iload_n 2 15 hX rfl rfl dX12_knownIn_15 ?_
    refine w_aload_n 0 16 hX rfl rfl dX12_knownIn_16 ?_
    refine w_getR 17 hX CI_12 s_146 rfl r_146_0 fl_X12_7 rfl dX12_knownIn_17 ?_
    refine w_bipush 90 20 hX ib_90 dX12_knownIn_20 ?_
    refine w_iload_n 3 22 hX rfl rfl dX12_knownIn_22 ?_
    refine w_iadd 23 hX dX12_knownIn_23 ?_
    obtain ⟨x2, gx2, h⟩ := o_bind h
    refine w_iald 24 hX s_147 gx2 dX12_knownIn_24 ?_
    refine w_iload_n 1 25 hX rfl rfl dX12_knownIn_25 ?_
    refine w_icmp_ne (tgt := 41) 26 hX dX12_knownIn_26 (by decide) (fun c3 => ?_) (fun c3 => ?_)
    · have h := ie h c3
      refine w_iconst 0 41 hX ic_0 dX12_knownIn_41 ?_
      exact w_sub [0, 1, 3] rfl (bX12_knownIn_146_42 hX hR hk4 l1 l3 l2 0 h)
    · have h := it h c3
      refine w_aload_n 0 29 hX rfl rfl dX12_knownIn_29 ?_
      refine w_getR 30 hX CI_12 s_146 rfl r_146_0 fl_X12_7 rfl dX12_knownIn_30 ?_
      refine w_bipush 16 33 hX ib_16 dX12_knownIn_33 ?_
      refine w_iload_n 3 35 hX rfl rfl dX12_knownIn_35 ?_
      refine w_iadd 36 hX dX12_knownIn_36 ?_
      obtain ⟨x4, gx4, h⟩ := o_bind h
      refine w_iald 37 hX s_147 gx4 dX12_knownIn_37 ?_
      refine w_goto (tgt := 42) 38 hX (by decide) dX12_knownIn_38 ?_
      exact w_sub [0, 1, 3] rfl (bX12_knownIn_146_42 hX hR hk4 l1 l3 l2 x4 h)
def FX12_knownIn_146_L4 : Nat → Int32 → Int32 → Int32 → Mem → Option Int32
  | 0, _, _, _, _ => none
  | n + 1, l1, l2, l3, u => FX12_knownIn_146_b4 (FX12_knownIn_146_L4 n) l1 l2 l3 u
theorem lX12_knownIn_146_4 {G : Gt} {X : Xt} {v : Int32} {u : Mem} (hX : CxOk G X cX12_knownIn 4 RX12 (some (.int v), SH, RHO, u) 1) (hR : CxRet G X (some .int) (some (.int v), SH, RHO, u)) : ∀ (n : Nat) (l1 l2 l3 : Int32), FX12_knownIn_146_L4 n l1 l2 l3 u = some v → WM G X 4 [(0, .ref 146), (1, .int l1), (2, .int l2), (3, .int l3)] [] SH RHO u := by
  intro n
  induction n with
  | zero =>
    intro l1 l2 l3 h
    exact nn_ h
  | succ n ih =>
    intro l1 l2 l3 h
    exact bX12_knownIn_146_4 hX hR ih l1 l2 l3 h
def FX12_knownIn_146 (p1 : Int32) (u : Mem) : Option Int32 :=
  FX12_knownIn_146_L4 FU p1 0 0 u
theorem CX12_knownIn_146 {G : Gt} (p1 : Int32) (u : Mem) {v : Int32} (h : FX12_knownIn_146 p1 u = some v) : CT G yX12_knownIn cX12_knownIn 4 (some .int) 1 [.ref 146, .int p1] SH RHO u (some (.int v), SH, RHO, u) :=
  ct_of (by decide) rfl (Nat.le_of_ble_eq_true rfl) (Nat.le_refl _) (Nat.le_refl _) (fun X hX hR => by
  unfold FX12_knownIn_146 at h
  refine w_iconst 0 0 hX ic_0 dX12_knownIn_0 ?_
  refine w_istore_n (lv' := [(2, .int 0), (0, .ref 146), (1, .int p1)]) 1 hX rfl dX12_knownIn_1 (by decide) rfl ?_
  refine w_iconst 0 2 hX ic_0 dX12_knownIn_2 ?_
  refine w_istore_n (lv' := [(3, .int 0), (2, .int 0), (0, .ref 146), (1, .int p1)]) 3 hX rfl dX12_knownIn_3 (by decide) rfl ?_
  exact w_sub [2, 3, 1, 0] rfl (lX12_knownIn_146_4 hX hR FU p1 0 0 h))
def FX12_weightOf_146_b46 (k4 : Int32 → Int32 → Int32 → Mem → Option Int32) (l1 l2 l3 : Int32) (u : Mem) : Option Int32 :=
  k4 l1 l2 (l3 + 1) u
theorem bX12_weightOf_146_46 {G : Gt} {X : Xt} {v : Int32} {u : Mem} (hX : CxOk G X cX12_weightOf 4 RX12 (some (.int v), SH, RHO, u) 1) (hR : CxRet G X (some .int) (some (.int v), SH, RHO, u)) {k4 : Int32 → Int32 → Int32 → Mem → Option Int32} (hk4 : ∀ (l1 l2 l3 : Int32), k4 l1 l2 l3 u = some v → WM G X 4 [(0, .ref 146), (1, .int l1), (2, .int l2), (3, .int l3)] [] SH RHO u) (l1 l2 l3 : Int32) (h : FX12_weightOf_146_b46 k4 l1 l2 l3 u = some v) : WM G X 46 [(0, .ref 146), (1, .int l1), (2, .int l2), (3, .int l3)] [] SH RHO u := by
  unfold FX12_weightOf_146_b46 at h
  refine w_iinc (lv' := [(3, .int (l3 + 1)), (0, .ref 146), (1, .int l1), (2, .int l2)]) 46 3 hX dX12_weightOf_46 rfl (inc_1 _) (by decide) rfl ?_
  refine w_goto (tgt := 4) 49 hX (by decide) dX12_weightOf_49 ?_
  exact w_sub [1, 2, 3, 0] rfl (hk4 l1 l2 (l3 + 1) h)
def FX12_weightOf_146_b4 (k4 : Int32 → Int32 → Int32 → Mem → Option Int32) (l1 l2 l3 : Int32) (u : Mem) : Option Int32 :=
  (if (u 147 86) ≤ l3 then (some l2) else ((rdA u 147 1786 (190 + (2 * l3))).bind fun x2 => (if x2 = l1 then ((rdA u 147 1786 ((190 + (2 * l3)) + 1)).bind fun x4 => FX12_weightOf_146_b46 k4 l1 x4 l3 u) else (FX12_weightOf_146_b46 k4 l1 l2 l3 u))))
theorem bX12_weightOf_146_4 {G : Gt} {X : Xt} {v : Int32} {u : Mem} (hX : CxOk G X cX12_weightOf 4 RX12 (some (.int v), SH, RHO, u) 1) (hR : CxRet G X (some .int) (some (.int v), SH, RHO, u)) {k4 : Int32 → Int32 → Int32 → Mem → Option Int32} (hk4 : ∀ (l1 l2 l3 : Int32), k4 l1 l2 l3 u = some v → WM G X 4 [(0, .ref 146), (1, .int l1), (2, .int l2), (3, .int l3)] [] SH RHO u) (l1 l2 l3 : Int32) (h : FX12_weightOf_146_b4 k4 l1 l2 l3 u = some v) : WM G X 4 [(0, .ref 146), (1, .int l1), (2, .int l2), (3, .int l3)] [] SH RHO u := by
  unfold FX12_weightOf_146_b4 at h
  refine w_iload_n 3 4 hX rfl rfl dX12_weightOf_4 ?_
  refine w_aload_n 0 5 hX rfl rfl dX12_weightOf_5 ?_
  refine w_getR 6 hX CI_12 s_146 rfl r_146_0 fl_X12_7 rfl dX12_weightOf_6 ?_
  refine w_bipush 86 9 hX ib_86 dX12_weightOf_9 ?_
  refine w_iald 11 hX s_147 (rdK 86 86 n_86 (by decide) (by decide)) dX12_weightOf_11 ?_
  refine w_icmp_ge (tgt := 52) 12 hX dX12_weightOf_12 (by decide) (fun c1 => ?_) (fun c1 => ?_)
  · have h := it h c1
    refine w_iload_n 2 52 hX rfl rfl dX12_weightOf_52 ?_
    exact w_iret 53 hX hR dX12_weightOf_53 (by cases h; rfl)
  · have h := ie h c1
    refine w_aload_n 0 15 hX rfl rfl dX12_weightOf_15 ?_
    refine w_getR 16 hX CI_12 s_146 rfl r_146_0 fl_X12_7 rfl dX12_weightOf_16 ?_
    refine w_sipush 190 19 hX isp_190 dX12_weightOf_19 ?_
    refine w_iconst 2 22 hX ic_2 dX12_weightOf_22 ?_
    refine w_iload_n 3 23 hX rfl rfl dX12_weightOf_23 ?_
    refine w_imul 24 hX dX12_weightOf_24 ?_
    refine w_iadd 25 hX dX12_weightOf_25 ?_
    obtain ⟨x2, gx2, h⟩ := o_bind h
    refine w_iald 26 hX s_147 gx2 dX12_weightOf_26 ?_
    refine w_iload_n 1 27 hX rfl rfl dX12_weightOf_27 ?_
    refine w_icmp_ne (tgt := 46) 28 hX dX12_weightOf_28 (by decide) (fun c3 => ?_) (fun c3 => ?_)
    · have h := ie h c3
      exact bX12_weightOf_146_46 hX hR hk4 l1 l2 l3 h
    · have h := it h c3
      refine w_aload_n 0 31 hX rfl rfl dX12_weightOf_31 ?_
      refine w_getR 32 hX CI_12 s_146 rfl r_146_0 fl_X12_7 rfl dX12_weightOf_32 ?_
      refine w_sipush 190 35 hX isp_190 dX12_weightOf_35 ?_
      refine w_iconst 2 38 hX ic_2 dX12_weightOf_38 ?_
      refine w_iload_n 3 39 hX rfl rfl dX12_weightOf_39 ?_
      refine w_imul 40 hX dX12_weightOf_40 ?_
      refine w_iadd 41 hX dX12_weightOf_41 ?_
      refine w_iconst 1 42 hX ic_1 dX12_weightOf_42 ?_
      refine w_iadd 43 hX dX12_weightOf_43 ?_
      obtain ⟨x4, gx4, h⟩ := o_bind h
      refine w_iald 44 hX s_147 gx4 dX12_weightOf_44 ?_
      refine w_istore_n (lv' := [(2, .int x4), (0, .ref 146), (1, .int l1), (3, .int l3)]) 45 hX rfl dX12_weightOf_45 (by decide) rfl ?_
      exact w_sub [1, 2, 0, 3] rfl (bX12_weightOf_146_46 hX hR hk4 l1 x4 l3 h)
def FX12_weightOf_146_L4 : Nat → Int32 → Int32 → Int32 → Mem → Option Int32
  | 0, _, _, _, _ => none
  | n + 1, l1, l2, l3, u => FX12_weightOf_146_b4 (FX12_weightOf_146_L4 n) l1 l2 l3 u
theorem lX12_weightOf_146_4 {G : Gt} {X : Xt} {v : Int32} {u : Mem} (hX : CxOk G X cX12_weightOf 4 RX12 (some (.int v), SH, RHO, u) 1) (hR : CxRet G X (some .int) (some (.int v), SH, RHO, u)) : ∀ (n : Nat) (l1 l2 l3 : Int32), FX12_weightOf_146_L4 n l1 l2 l3 u = some v → WM G X 4 [(0, .ref 146), (1, .int l1), (2, .int l2), (3, .int l3)] [] SH RHO u := by
  intro n
  induction n with
  | zero =>
    intro l1 l2 l3 h
    exact nn_ h
  | succ n ih =>
    intro l1 l2 l3 h
    exact bX12_weightOf_146_4 hX hR ih l1 l2 l3 h
def FX12_weightOf_146 (p1 : Int32) (u : Mem) : Option Int32 :=
  FX12_weightOf_146_L4 FU p1 1 0 u
theorem CX12_weightOf_146 {G : Gt} (p1 : Int32) (u : Mem) {v : Int32} (h : FX12_weightOf_146 p1 u = some v) : CT G yX12_weightOf cX12_weightOf 4 (some .int) 1 [.ref 146, .int p1] SH RHO u (some (.int v), SH, RHO, u) :=
  ct_of (by decide) rfl (Nat.le_of_ble_eq_true rfl) (Nat.le_refl _) (Nat.le_refl _) (fun X hX hR => by
  unfold FX12_weightOf_146 at h
  refine w_iconst 1 0 hX ic_1 dX12_weightOf_0 ?_
  refine w_istore_n (lv' := [(2, .int 1), (0, .ref 146), (1, .int p1)]) 1 hX rfl dX12_weightOf_1 (by decide) rfl ?_
  refine w_iconst 0 2 hX ic_0 dX12_weightOf_2 ?_
  refine w_istore_n (lv' := [(3, .int 0), (2, .int 1), (0, .ref 146), (1, .int p1)]) 3 hX rfl dX12_weightOf_3 (by decide) rfl ?_
  exact w_sub [2, 3, 1, 0] rfl (lX12_weightOf_146_4 hX hR FU p1 1 0 h))
def FX12_weightOfSet_146_b29 (k4 : Int32 → Int32 → Int32 → Mem → Option Int32) (l1 l3 t0 t1 : Int32) (u : Mem) : Option Int32 :=
  k4 l1 (t0 + t1) (l3 + 1) u
theorem bX12_weightOfSet_146_29 {G : Gt} {X : Xt} {v : Int32} {u : Mem} (hX : CxOk G X cX12_weightOfSet 4 RX12 (some (.int v), SH, RHO, u) 2) (hR : CxRet G X (some .int) (some (.int v), SH, RHO, u)) {k4 : Int32 → Int32 → Int32 → Mem → Option Int32} (hk4 : ∀ (l1 l2 l3 : Int32), k4 l1 l2 l3 u = some v → WM G X 4 [(0, .ref 146), (1, .int l1), (2, .int l2), (3, .int l3)] [] SH RHO u) (l1 l3 t0 t1 : Int32) (h : FX12_weightOfSet_146_b29 k4 l1 l3 t0 t1 u = some v) : WM G X 29 [(0, .ref 146), (1, .int l1), (3, .int l3)] [.int t1, .int t0] SH RHO u := by
  unfold FX12_weightOfSet_146_b29 at h
  refine w_iadd 29 hX dX12_weightOfSet_29 ?_
  refine w_istore_n (lv' := [(2, .int (t0 + t1)), (0, .ref 146), (1, .int l1), (3, .int l3)]) 30 hX rfl dX12_weightOfSet_30 (by decide) rfl ?_
  refine w_iinc (lv' := [(3, .int (l3 + 1)), (2, .int (t0 + t1)), (0, .ref 146), (1, .int l1)]) 31 3 hX dX12_weightOfSet_31 rfl (inc_1 _) (by decide) rfl ?_
  refine w_goto (tgt := 4) 34 hX (by decide) dX12_weightOfSet_34 ?_
  exact w_sub [2, 3, 1, 0] rfl (hk4 l1 (t0 + t1) (l3 + 1) h)
def FX12_weightOfSet_146_b4 (k4 : Int32 → Int32 → Int32 → Mem → Option Int32) (l1 l2 l3 : Int32) (u : Mem) : Option Int32 :=
  (if 8 ≤ l3 then (some l2) else ((if ((l1 >>> (l3 &&& 31)) &&& 1) = 1 then ((FX12_weightOf_146 l3 u).bind fun x3 => FX12_weightOfSet_146_b29 k4 l1 l3 l2 x3 u) else (FX12_weightOfSet_146_b29 k4 l1 l3 l2 0 u))))
theorem bX12_weightOfSet_146_4 {G : Gt} {X : Xt} {v : Int32} {u : Mem} (hX : CxOk G X cX12_weightOfSet 4 RX12 (some (.int v), SH, RHO, u) 2) (hR : CxRet G X (some .int) (some (.int v), SH, RHO, u)) {k4 : Int32 → Int32 → Int32 → Mem → Option Int32} (hk4 : ∀ (l1 l2 l3 : Int32), k4 l1 l2 l3 u = some v → WM G X 4 [(0, .ref 146), (1, .int l1), (2, .int l2), (3, .int l3)] [] SH RHO u) (l1 l2 l3 : Int32) (h : FX12_weightOfSet_146_b4 k4 l1 l2 l3 u = some v) : WM G X 4 [(0, .ref 146), (1, .int l1), (2, .int l2), (3, .int l3)] [] SH RHO u := by
  unfold FX12_weightOfSet_146_b4 at h
  refine w_iload_n 3 4 hX rfl rfl dX12_weightOfSet_4 ?_
  refine w_bipush 8 5 hX ib_8 dX12_weightOfSet_5 ?_
  refine w_icmp_ge (tgt := 37) 7 hX dX12_weightOfSet_7 (by decide) (fun c1 => ?_) (fun c1 => ?_)
  · have h := it h c1
    refine w_iload_n 2 37 hX rfl rfl dX12_weightOfSet_37 ?_
    exact w_iret 38 hX hR dX12_weightOfSet_38 (by cases h; rfl)
  · have h := ie h c1
    refine w_iload_n 2 10 hX rfl rfl dX12_weightOfSet_10 ?_
    refine w_iload_n 1 11 hX rfl rfl dX12_weightOfSet_11 ?_
    refine w_iload_n 3 12 hX rfl rfl dX12_weightOfSet_12 ?_
    refine w_ishr 13 hX dX12_weightOfSet_13 ?_
    refine w_iconst 1 14 hX ic_1 dX12_weightOfSet_14 ?_
    refine w_iand 15 hX dX12_weightOfSet_15 ?_
    refine w_iconst 1 16 hX ic_1 dX12_weightOfSet_16 ?_
    refine w_icmp_ne (tgt := 28) 17 hX dX12_weightOfSet_17 (by decide) (fun c2 => ?_) (fun c2 => ?_)
    · have h := ie h c2
      refine w_iconst 0 28 hX ic_0 dX12_weightOfSet_28 ?_
      exact w_sub [0, 1, 3] rfl (bX12_weightOfSet_146_29 hX hR hk4 l1 l3 l2 0 h)
    · have h := it h c2
      refine w_aload_n 0 20 hX rfl rfl dX12_weightOfSet_20 ?_
      refine w_iload_n 3 21 hX rfl rfl dX12_weightOfSet_21 ?_
      obtain ⟨x3, gx3, h⟩ := o_bind h
      refine w_invVi (av := [.int l3]) (st := [.int l2]) 22 hX CI_12 s_146 rfl mv_yX12_weightOf mi_yX12_weightOf ml_X12_310 (CX12_weightOf_146 l3 u gx3) rfl (by decide) (Nat.le_of_ble_eq_true rfl) (Nat.le_refl _) (Nat.le_refl _) dX12_weightOfSet_22 ?_
      refine w_goto (tgt := 29) 25 hX (by decide) dX12_weightOfSet_25 ?_
      exact w_sub [0, 1, 3] rfl (bX12_weightOfSet_146_29 hX hR hk4 l1 l3 l2 x3 h)
def FX12_weightOfSet_146_L4 : Nat → Int32 → Int32 → Int32 → Mem → Option Int32
  | 0, _, _, _, _ => none
  | n + 1, l1, l2, l3, u => FX12_weightOfSet_146_b4 (FX12_weightOfSet_146_L4 n) l1 l2 l3 u
theorem lX12_weightOfSet_146_4 {G : Gt} {X : Xt} {v : Int32} {u : Mem} (hX : CxOk G X cX12_weightOfSet 4 RX12 (some (.int v), SH, RHO, u) 2) (hR : CxRet G X (some .int) (some (.int v), SH, RHO, u)) : ∀ (n : Nat) (l1 l2 l3 : Int32), FX12_weightOfSet_146_L4 n l1 l2 l3 u = some v → WM G X 4 [(0, .ref 146), (1, .int l1), (2, .int l2), (3, .int l3)] [] SH RHO u := by
  intro n
  induction n with
  | zero =>
    intro l1 l2 l3 h
    exact nn_ h
  | succ n ih =>
    intro l1 l2 l3 h
    exact bX12_weightOfSet_146_4 hX hR ih l1 l2 l3 h
def FX12_weightOfSet_146 (p1 : Int32) (u : Mem) : Option Int32 :=
  FX12_weightOfSet_146_L4 FU p1 0 0 u
theorem CX12_weightOfSet_146 {G : Gt} (p1 : Int32) (u : Mem) {v : Int32} (h : FX12_weightOfSet_146 p1 u = some v) : CT G yX12_weightOfSet cX12_weightOfSet 4 (some .int) 2 [.ref 146, .int p1] SH RHO u (some (.int v), SH, RHO, u) :=
  ct_of (by decide) rfl (Nat.le_of_ble_eq_true rfl) (Nat.le_refl _) (Nat.le_refl _) (fun X hX hR => by
  unfold FX12_weightOfSet_146 at h
  refine w_iconst 0 0 hX ic_0 dX12_weightOfSet_0 ?_
  refine w_istore_n (lv' := [(2, .int 0), (0, .ref 146), (1, .int p1)]) 1 hX rfl dX12_weightOfSet_1 (by decide) rfl ?_
  refine w_iconst 0 2 hX ic_0 dX12_weightOfSet_2 ?_
  refine w_istore_n (lv' := [(3, .int 0), (2, .int 0), (0, .ref 146), (1, .int p1)]) 3 hX rfl dX12_weightOfSet_3 (by decide) rfl ?_
  exact w_sub [2, 3, 1, 0] rfl (lX12_weightOfSet_146_4 hX hR FU p1 0 0 h))
def FX12_isForgotten_146 (p1 : Int32) (u : Mem) : Option Int32 :=
  (FX12_knownIn_146 p1 u).bind fun x1 => (FX12_weightOfSet_146 x1 u).bind fun x2 => (if (u 147 79) ≤ x2 then (some 0) else (some 1))
theorem CX12_isForgotten_146 {G : Gt} (p1 : Int32) (u : Mem) {v : Int32} (h : FX12_isForgotten_146 p1 u = some v) : CT G yX12_isForgotten cX12_isForgotten 2 (some .boolean) 3 [.ref 146, .int p1] SH RHO u (some (.int v), SH, RHO, u) :=
  ct_of (by decide) rfl (Nat.le_of_ble_eq_true rfl) (Nat.le_refl _) (Nat.le_refl _) (fun X hX hR => by
  unfold FX12_isForgotten_146 at h
  refine w_aload_n 0 0 hX rfl rfl dX12_isForgotten_0 ?_
  refine w_aload_n 0 1 hX rfl rfl dX12_isForgotten_1 ?_
  refine w_iload_n 1 2 hX rfl rfl dX12_isForgotten_2 ?_
  obtain ⟨x1, gx1, h⟩ := o_bind h
  refine w_invVi (av := [.int p1]) (st := [.ref 146]) 3 hX CI_12 s_146 rfl mv_yX12_knownIn mi_yX12_knownIn ml_X12_379 (CX12_knownIn_146 p1 u gx1) rfl (by decide) (Nat.le_of_ble_eq_true rfl) (Nat.le_refl _) (Nat.le_refl _) dX12_isForgotten_3 ?_
  obtain ⟨x2, gx2, h⟩ := o_bind h
  refine w_invVi (av := [.int x1]) (st := []) 6 hX CI_12 s_146 rfl mv_yX12_weightOfSet mi_yX12_weightOfSet ml_X12_382 (CX12_weightOfSet_146 x1 u gx2) rfl (by decide) (Nat.le_of_ble_eq_true rfl) (Nat.le_refl _) (Nat.le_refl _) dX12_isForgotten_6 ?_
  refine w_aload_n 0 9 hX rfl rfl dX12_isForgotten_9 ?_
  refine w_getR 10 hX CI_12 s_146 rfl r_146_0 fl_X12_7 rfl dX12_isForgotten_10 ?_
  refine w_bipush 79 13 hX ib_79 dX12_isForgotten_13 ?_
  refine w_iald 15 hX s_147 (rdK 79 79 n_79 (by decide) (by decide)) dX12_isForgotten_15 ?_
  refine w_icmp_ge (tgt := 23) 16 hX dX12_isForgotten_16 (by decide) (fun c3 => ?_) (fun c3 => ?_)
  · have h := it h c3
    refine w_iconst 0 23 hX ic_0 dX12_isForgotten_23 ?_
    exact w_zret 24 hX hR (by decide) dX12_isForgotten_24 (by cases h; rfl)
  · have h := ie h c3
    refine w_iconst 1 19 hX ic_1 dX12_isForgotten_19 ?_
    refine w_goto (tgt := 24) 20 hX (by decide) dX12_isForgotten_20 ?_
    exact w_zret 24 hX hR (by decide) dX12_isForgotten_24 (by cases h; rfl))
def FX12_comesBack_146 (p1 : Int32) (u : Mem) : Option Mem :=
  (rdA u 147 1786 (40 + p1)).bind fun x1 => (if x1 = 2 then ((rdA u 147 1786 (64 + p1)).bind fun x3 => (if (u 147 81) ≤ ((u 147 0) - x3) then ((wrA u 147 1786 (40 + p1) 0).bind fun u5 => (FX12_notes_146 5 p1 0 u5).bind fun u7 => some u7) else (some u))) else (some u))
theorem CX12_comesBack_146 {G : Gt} (p1 : Int32) (u : Mem) {u' : Mem} (h : FX12_comesBack_146 p1 u = some u') : CT G yX12_comesBack cX12_comesBack 2 none 2 [.ref 146, .int p1] SH RHO u (none, SH, RHO, u') :=
  ct_of (by decide) rfl (Nat.le_of_ble_eq_true rfl) (Nat.le_refl _) (Nat.le_refl _) (fun X hX hR => by
  unfold FX12_comesBack_146 at h
  refine w_aload_n 0 0 hX rfl rfl dX12_comesBack_0 ?_
  refine w_getR 1 hX CI_12 s_146 rfl r_146_0 fl_X12_7 rfl dX12_comesBack_1 ?_
  refine w_bipush 40 4 hX ib_40 dX12_comesBack_4 ?_
  refine w_iload_n 1 6 hX rfl rfl dX12_comesBack_6 ?_
  refine w_iadd 7 hX dX12_comesBack_7 ?_
  obtain ⟨x1, gx1, h⟩ := o_bind h
  refine w_iald 8 hX s_147 gx1 dX12_comesBack_8 ?_
  refine w_iconst 2 9 hX ic_2 dX12_comesBack_9 ?_
  refine w_icmp_ne (tgt := 39) 10 hX dX12_comesBack_10 (by decide) (fun c2 => ?_) (fun c2 => ?_)
  · have h := ie h c2
    exact w_vret 39 hX hR dX12_comesBack_39 (by cases h; rfl)
  · have h := it h c2
    refine w_aload_n 0 13 hX rfl rfl dX12_comesBack_13 ?_
    refine w_getR 14 hX CI_12 s_146 rfl r_146_0 fl_X12_7 rfl dX12_comesBack_14 ?_
    refine w_iconst 0 17 hX ic_0 dX12_comesBack_17 ?_
    refine w_iald 18 hX s_147 (rdK 0 0 n_0 (by decide) (by decide)) dX12_comesBack_18 ?_
    refine w_aload_n 0 19 hX rfl rfl dX12_comesBack_19 ?_
    refine w_getR 20 hX CI_12 s_146 rfl r_146_0 fl_X12_7 rfl dX12_comesBack_20 ?_
    refine w_bipush 64 23 hX ib_64 dX12_comesBack_23 ?_
    refine w_iload_n 1 25 hX rfl rfl dX12_comesBack_25 ?_
    refine w_iadd 26 hX dX12_comesBack_26 ?_
    obtain ⟨x3, gx3, h⟩ := o_bind h
    refine w_iald 27 hX s_147 gx3 dX12_comesBack_27 ?_
    refine w_isub 28 hX dX12_comesBack_28 ?_
    refine w_aload_n 0 29 hX rfl rfl dX12_comesBack_29 ?_
    refine w_getR 30 hX CI_12 s_146 rfl r_146_0 fl_X12_7 rfl dX12_comesBack_30 ?_
    refine w_bipush 81 33 hX ib_81 dX12_comesBack_33 ?_
    refine w_iald 35 hX s_147 (rdK 81 81 n_81 (by decide) (by decide)) dX12_comesBack_35 ?_
    refine w_icmp_ge (tgt := 40) 36 hX dX12_comesBack_36 (by decide) (fun c4 => ?_) (fun c4 => ?_)
    · have h := it h c4
      refine w_aload_n 0 40 hX rfl rfl dX12_comesBack_40 ?_
      refine w_getR 41 hX CI_12 s_146 rfl r_146_0 fl_X12_7 rfl dX12_comesBack_41 ?_
      refine w_bipush 40 44 hX ib_40 dX12_comesBack_44 ?_
      refine w_iload_n 1 46 hX rfl rfl dX12_comesBack_46 ?_
      refine w_iadd 47 hX dX12_comesBack_47 ?_
      refine w_iconst 0 48 hX ic_0 dX12_comesBack_48 ?_
      obtain ⟨u5, gu5, h⟩ := o_bind h
      refine w_iast 49 hX s_147 gu5 dX12_comesBack_49 ?_
      refine w_aload_n 0 50 hX rfl rfl dX12_comesBack_50 ?_
      refine w_iconst 5 51 hX ic_5 dX12_comesBack_51 ?_
      refine w_iload_n 1 52 hX rfl rfl dX12_comesBack_52 ?_
      refine w_iconst 0 53 hX ic_0 dX12_comesBack_53 ?_
      obtain ⟨u7, gu7, h⟩ := o_bind h
      refine w_invVv (av := [.int 5, .int p1, .int 0]) (st := []) 54 hX CI_12 s_146 rfl mv_yX12_notes mi_yX12_notes ml_X12_336 (CX12_notes_146 5 p1 0 u5 gu7) rfl (by decide) (Nat.le_of_ble_eq_true rfl) (Nat.le_refl _) (Nat.le_refl _) dX12_comesBack_54 ?_
      exact w_vret 57 hX hR dX12_comesBack_57 (by cases h; rfl)
    · have h := ie h c4
      exact w_vret 39 hX hR dX12_comesBack_39 (by cases h; rfl))
def FX12_ends_146_b60 (k60 : Int32 → Mem → Option Mem) (l1 : Int32) (u : Mem) : Option Mem :=
  (if (u 147 78) ≤ l1 then ((FX12_notes_146 4 (-1) 0 u).bind fun u3 => some u3) else ((wrA u 147 1786 (40 + l1) 0).bind fun u4 => k60 (l1 + 1) u4))
theorem bX12_ends_146_60 {G : Gt} {X : Xt} {u' : Mem} (hX : CxOk G X cX12_ends 2 RX12 (none, SH, RHO, u') 4) (hR : CxRet G X none (none, SH, RHO, u')) {k60 : Int32 → Mem → Option Mem} (hk60 : ∀ (l1 : Int32) (u : Mem), k60 l1 u = some u' → WM G X 60 [(0, .ref 146), (1, .int l1)] [] SH RHO u) (l1 : Int32) (u : Mem) (h : FX12_ends_146_b60 k60 l1 u = some u') : WM G X 60 [(0, .ref 146), (1, .int l1)] [] SH RHO u := by
  unfold FX12_ends_146_b60 at h
  refine w_iload_n 1 60 hX rfl rfl dX12_ends_60 ?_
  refine w_aload_n 0 61 hX rfl rfl dX12_ends_61 ?_
  refine w_getR 62 hX CI_12 s_146 rfl r_146_0 fl_X12_7 rfl dX12_ends_62 ?_
  refine w_bipush 78 65 hX ib_78 dX12_ends_65 ?_
  refine w_iald 67 hX s_147 (rdK 78 78 n_78 (by decide) (by decide)) dX12_ends_67 ?_
  refine w_icmp_ge (tgt := 87) 68 hX dX12_ends_68 (by decide) (fun c1 => ?_) (fun c1 => ?_)
  · have h := it h c1
    refine w_aload_n 0 87 hX rfl rfl dX12_ends_87 ?_
    refine w_iconst 4 88 hX ic_4 dX12_ends_88 ?_
    refine w_iconst (-1) 89 hX ic_m1 dX12_ends_89 ?_
    refine w_iconst 0 90 hX ic_0 dX12_ends_90 ?_
    obtain ⟨u3, gu3, h⟩ := o_bind h
    refine w_invVv (av := [.int 4, .int (-1), .int 0]) (st := []) 91 hX CI_12 s_146 rfl mv_yX12_notes mi_yX12_notes ml_X12_336 (CX12_notes_146 4 (-1) 0 u gu3) rfl (by decide) (Nat.le_of_ble_eq_true rfl) (Nat.le_refl _) (Nat.le_refl _) dX12_ends_91 ?_
    exact w_vret 94 hX hR dX12_ends_94 (by cases h; rfl)
  · have h := ie h c1
    refine w_aload_n 0 71 hX rfl rfl dX12_ends_71 ?_
    refine w_getR 72 hX CI_12 s_146 rfl r_146_0 fl_X12_7 rfl dX12_ends_72 ?_
    refine w_bipush 40 75 hX ib_40 dX12_ends_75 ?_
    refine w_iload_n 1 77 hX rfl rfl dX12_ends_77 ?_
    refine w_iadd 78 hX dX12_ends_78 ?_
    refine w_iconst 0 79 hX ic_0 dX12_ends_79 ?_
    obtain ⟨u4, gu4, h⟩ := o_bind h
    refine w_iast 80 hX s_147 gu4 dX12_ends_80 ?_
    refine w_iinc (lv' := [(1, .int (l1 + 1)), (0, .ref 146)]) 81 1 hX dX12_ends_81 rfl (inc_1 _) (by decide) rfl ?_
    refine w_goto (tgt := 60) 84 hX (by decide) dX12_ends_84 ?_
    exact w_sub [1, 0] rfl (hk60 (l1 + 1) u4 h)
def FX12_ends_146_L60 : Nat → Int32 → Mem → Option Mem
  | 0, _, _ => none
  | n + 1, l1, u => FX12_ends_146_b60 (FX12_ends_146_L60 n) l1 u
theorem lX12_ends_146_60 {G : Gt} {X : Xt} {u' : Mem} (hX : CxOk G X cX12_ends 2 RX12 (none, SH, RHO, u') 4) (hR : CxRet G X none (none, SH, RHO, u')) : ∀ (n : Nat) (l1 : Int32) (u : Mem), FX12_ends_146_L60 n l1 u = some u' → WM G X 60 [(0, .ref 146), (1, .int l1)] [] SH RHO u := by
  intro n
  induction n with
  | zero =>
    intro l1 u h
    exact nn_ h
  | succ n ih =>
    intro l1 u h
    exact bX12_ends_146_60 hX hR ih l1 u h
def FX12_ends_146_b25 (k25 : Int32 → Mem → Option Mem) (l1 : Int32) (u : Mem) : Option Mem :=
  (if (u 147 78) ≤ l1 then ((if (u 147 1) = 1 then (some u) else (FX12_ends_146_L60 FU 0 u))) else ((FX12_comesBack_146 l1 u).bind fun u4 => k25 (l1 + 1) u4))
theorem bX12_ends_146_25 {G : Gt} {X : Xt} {u' : Mem} (hX : CxOk G X cX12_ends 2 RX12 (none, SH, RHO, u') 4) (hR : CxRet G X none (none, SH, RHO, u')) {k25 : Int32 → Mem → Option Mem} (hk25 : ∀ (l1 : Int32) (u : Mem), k25 l1 u = some u' → WM G X 25 [(0, .ref 146), (1, .int l1)] [] SH RHO u) (l1 : Int32) (u : Mem) (h : FX12_ends_146_b25 k25 l1 u = some u') : WM G X 25 [(0, .ref 146), (1, .int l1)] [] SH RHO u := by
  unfold FX12_ends_146_b25 at h
  refine w_iload_n 1 25 hX rfl rfl dX12_ends_25 ?_
  refine w_aload_n 0 26 hX rfl rfl dX12_ends_26 ?_
  refine w_getR 27 hX CI_12 s_146 rfl r_146_0 fl_X12_7 rfl dX12_ends_27 ?_
  refine w_bipush 78 30 hX ib_78 dX12_ends_30 ?_
  refine w_iald 32 hX s_147 (rdK 78 78 n_78 (by decide) (by decide)) dX12_ends_32 ?_
  refine w_icmp_ge (tgt := 47) 33 hX dX12_ends_33 (by decide) (fun c1 => ?_) (fun c1 => ?_)
  · have h := it h c1
    refine w_aload_n 0 47 hX rfl rfl dX12_ends_47 ?_
    refine w_getR 48 hX CI_12 s_146 rfl r_146_0 fl_X12_7 rfl dX12_ends_48 ?_
    refine w_iconst 1 51 hX ic_1 dX12_ends_51 ?_
    refine w_iald 52 hX s_147 (rdK 1 1 n_1 (by decide) (by decide)) dX12_ends_52 ?_
    refine w_iconst 1 53 hX ic_1 dX12_ends_53 ?_
    refine w_icmp_ne (tgt := 58) 54 hX dX12_ends_54 (by decide) (fun c2 => ?_) (fun c2 => ?_)
    · have h := ie h c2
      refine w_iconst 0 58 hX ic_0 dX12_ends_58 ?_
      refine w_istore_n (lv' := [(1, .int 0), (0, .ref 146)]) 59 hX rfl dX12_ends_59 (by decide) rfl ?_
      exact w_sub [1, 0] rfl (lX12_ends_146_60 hX hR FU 0 u h)
    · have h := it h c2
      exact w_vret 57 hX hR dX12_ends_57 (by cases h; rfl)
  · have h := ie h c1
    refine w_aload_n 0 36 hX rfl rfl dX12_ends_36 ?_
    refine w_iload_n 1 37 hX rfl rfl dX12_ends_37 ?_
    obtain ⟨u4, gu4, h⟩ := o_bind h
    refine w_invVv (av := [.int l1]) (st := []) 38 hX CI_12 s_146 rfl mv_yX12_comesBack mi_yX12_comesBack ml_X12_403 (CX12_comesBack_146 l1 u gu4) rfl (by decide) (Nat.le_of_ble_eq_true rfl) (Nat.le_refl _) (Nat.le_refl _) dX12_ends_38 ?_
    refine w_iinc (lv' := [(1, .int (l1 + 1)), (0, .ref 146)]) 41 1 hX dX12_ends_41 rfl (inc_1 _) (by decide) rfl ?_
    refine w_goto (tgt := 25) 44 hX (by decide) dX12_ends_44 ?_
    exact w_sub [1, 0] rfl (hk25 (l1 + 1) u4 h)
def FX12_ends_146_L25 : Nat → Int32 → Mem → Option Mem
  | 0, _, _ => none
  | n + 1, l1, u => FX12_ends_146_b25 (FX12_ends_146_L25 n) l1 u
theorem lX12_ends_146_25 {G : Gt} {X : Xt} {u' : Mem} (hX : CxOk G X cX12_ends 2 RX12 (none, SH, RHO, u') 4) (hR : CxRet G X none (none, SH, RHO, u')) : ∀ (n : Nat) (l1 : Int32) (u : Mem), FX12_ends_146_L25 n l1 u = some u' → WM G X 25 [(0, .ref 146), (1, .int l1)] [] SH RHO u := by
  intro n
  induction n with
  | zero =>
    intro l1 u h
    exact nn_ h
  | succ n ih =>
    intro l1 u h
    exact bX12_ends_146_25 hX hR ih l1 u h
def FX12_ends_146_b23 (u : Mem) : Option Mem :=
  FX12_ends_146_L25 FU 0 u
theorem bX12_ends_146_23 {G : Gt} {X : Xt} {u' : Mem} (hX : CxOk G X cX12_ends 2 RX12 (none, SH, RHO, u') 4) (hR : CxRet G X none (none, SH, RHO, u')) (u : Mem) (h : FX12_ends_146_b23 u = some u') : WM G X 23 [(0, .ref 146)] [] SH RHO u := by
  unfold FX12_ends_146_b23 at h
  refine w_iconst 0 23 hX ic_0 dX12_ends_23 ?_
  refine w_istore_n (lv' := [(1, .int 0), (0, .ref 146)]) 24 hX rfl dX12_ends_24 (by decide) rfl ?_
  exact w_sub [1, 0] rfl (lX12_ends_146_25 hX hR FU 0 u h)
def FX12_ends_146_b16 (u : Mem) : Option Mem :=
  (some (mupd u 147 1 0)).bind fun u1 => FX12_ends_146_b23 u1
theorem bX12_ends_146_16 {G : Gt} {X : Xt} {u' : Mem} (hX : CxOk G X cX12_ends 2 RX12 (none, SH, RHO, u') 4) (hR : CxRet G X none (none, SH, RHO, u')) (u : Mem) (h : FX12_ends_146_b16 u = some u') : WM G X 16 [(0, .ref 146)] [] SH RHO u := by
  unfold FX12_ends_146_b16 at h
  refine w_aload_n 0 16 hX rfl rfl dX12_ends_16 ?_
  refine w_getR 17 hX CI_12 s_146 rfl r_146_0 fl_X12_7 rfl dX12_ends_17 ?_
  refine w_iconst 1 20 hX ic_1 dX12_ends_20 ?_
  refine w_iconst 0 21 hX ic_0 dX12_ends_21 ?_
  obtain ⟨u1, gu1, h⟩ := o_bind h
  refine w_iast 22 hX s_147 (wrK 1 1 n_1 (by decide) (by decide) gu1) dX12_ends_22 ?_
  exact bX12_ends_146_23 hX hR u1 h
def FX12_ends_146 (u : Mem) : Option Mem :=
  (FX12_isForgotten_146 0 u).bind fun x1 => (if x1 = 0 then ((FX12_isForgotten_146 1 u).bind fun x3 => (if x3 = 0 then (FX12_ends_146_b23 u) else (FX12_ends_146_b16 u))) else (FX12_ends_146_b16 u))
theorem CX12_ends_146 {G : Gt} (u : Mem) {u' : Mem} (h : FX12_ends_146 u = some u') : CT G yX12_ends cX12_ends 2 none 4 [.ref 146] SH RHO u (none, SH, RHO, u') :=
  ct_of (by decide) rfl (Nat.le_of_ble_eq_true rfl) (Nat.le_refl _) (Nat.le_refl _) (fun X hX hR => by
  unfold FX12_ends_146 at h
  refine w_aload_n 0 0 hX rfl rfl dX12_ends_0 ?_
  refine w_iconst 0 1 hX ic_0 dX12_ends_1 ?_
  obtain ⟨x1, gx1, h⟩ := o_bind h
  refine w_invVi (av := [.int 0]) (st := []) 2 hX CI_12 s_146 rfl mv_yX12_isForgotten mi_yX12_isForgotten ml_X12_400 (CX12_isForgotten_146 0 u gx1) rfl (by decide) (Nat.le_of_ble_eq_true rfl) (Nat.le_refl _) (Nat.le_refl _) dX12_ends_2 ?_
  refine w_if_ne (tgt := 16) 5 hX dX12_ends_5 (by decide) (fun c2 => ?_) (fun c2 => ?_)
  · have h := ie h c2
    exact bX12_ends_146_16 hX hR u h
  · have h := it h c2
    refine w_aload_n 0 8 hX rfl rfl dX12_ends_8 ?_
    refine w_iconst 1 9 hX ic_1 dX12_ends_9 ?_
    obtain ⟨x3, gx3, h⟩ := o_bind h
    refine w_invVi (av := [.int 1]) (st := []) 10 hX CI_12 s_146 rfl mv_yX12_isForgotten mi_yX12_isForgotten ml_X12_400 (CX12_isForgotten_146 1 u gx3) rfl (by decide) (Nat.le_of_ble_eq_true rfl) (Nat.le_refl _) (Nat.le_refl _) dX12_ends_10 ?_
    refine w_if_eq (tgt := 23) 13 hX dX12_ends_13 (by decide) (fun c4 => ?_) (fun c4 => ?_)
    · have h := it h c4
      exact bX12_ends_146_23 hX hR u h
    · have h := ie h c4
      exact bX12_ends_146_16 hX hR u h)
def FX12_aDay_146_b40 (u : Mem) : Option Mem :=
  (some (mupd u 147 0 ((u 147 0) + 1))).bind fun u1 => some u1
theorem bX12_aDay_146_40 {G : Gt} {X : Xt} {u' : Mem} (hX : CxOk G X cX12_aDay 2 RX12 (none, SH, RHO, u') 9) (hR : CxRet G X none (none, SH, RHO, u')) (u : Mem) (h : FX12_aDay_146_b40 u = some u') : WM G X 40 [(0, .ref 146)] [] SH RHO u := by
  unfold FX12_aDay_146_b40 at h
  refine w_aload_n 0 40 hX rfl rfl dX12_aDay_40 ?_
  refine w_getR 41 hX CI_12 s_146 rfl r_146_0 fl_X12_7 rfl dX12_aDay_41 ?_
  refine w_iconst 0 44 hX ic_0 dX12_aDay_44 ?_
  refine w_dup2 45 hX rfl rfl dX12_aDay_45 ?_
  refine w_iald 46 hX s_147 (rdK 0 0 n_0 (by decide) (by decide)) dX12_aDay_46 ?_
  refine w_iconst 1 47 hX ic_1 dX12_aDay_47 ?_
  refine w_iadd 48 hX dX12_aDay_48 ?_
  obtain ⟨u1, gu1, h⟩ := o_bind h
  refine w_iast 49 hX s_147 (wrK 0 0 n_0 (by decide) (by decide) gu1) dX12_aDay_49 ?_
  exact w_vret 50 hX hR dX12_aDay_50 (by cases h; rfl)
def FX12_aDay_146_b24 (l1 : Int32) (u : Mem) : Option Mem :=
  (FX12_tells_146 u).bind fun u2 => (FX12_fades_146 u2).bind fun u4 => (if l1 = 0 then (FX12_aDay_146_b40 u4) else ((FX12_ends_146 u4).bind fun u7 => FX12_aDay_146_b40 u7))
theorem bX12_aDay_146_24 {G : Gt} {X : Xt} {u' : Mem} (hX : CxOk G X cX12_aDay 2 RX12 (none, SH, RHO, u') 9) (hR : CxRet G X none (none, SH, RHO, u')) (l1 : Int32) (u : Mem) (h : FX12_aDay_146_b24 l1 u = some u') : WM G X 24 [(0, .ref 146), (1, .int l1)] [] SH RHO u := by
  unfold FX12_aDay_146_b24 at h
  refine w_aload_n 0 24 hX rfl rfl dX12_aDay_24 ?_
  obtain ⟨u2, gu2, h⟩ := o_bind h
  refine w_invVv (av := []) (st := []) 25 hX CI_12 s_146 rfl mv_yX12_tells mi_yX12_tells ml_X12_409 (CX12_tells_146 u gu2) rfl (by decide) (Nat.le_of_ble_eq_true rfl) (Nat.le_refl _) (Nat.le_refl _) dX12_aDay_25 ?_
  refine w_aload_n 0 28 hX rfl rfl dX12_aDay_28 ?_
  obtain ⟨u4, gu4, h⟩ := o_bind h
  refine w_invVv (av := []) (st := []) 29 hX CI_12 s_146 rfl mv_yX12_fades mi_yX12_fades ml_X12_411 (CX12_fades_146 u2 gu4) rfl (by decide) (Nat.le_of_ble_eq_true rfl) (Nat.le_refl _) (Nat.le_refl _) dX12_aDay_29 ?_
  refine w_iload_n 1 32 hX rfl rfl dX12_aDay_32 ?_
  refine w_if_eq (tgt := 40) 33 hX dX12_aDay_33 (by decide) (fun c5 => ?_) (fun c5 => ?_)
  · have h := it h c5
    exact w_sub [0] rfl (bX12_aDay_146_40 hX hR u4 h)
  · have h := ie h c5
    refine w_aload_n 0 36 hX rfl rfl dX12_aDay_36 ?_
    obtain ⟨u7, gu7, h⟩ := o_bind h
    refine w_invVv (av := []) (st := []) 37 hX CI_12 s_146 rfl mv_yX12_ends mi_yX12_ends ml_X12_414 (CX12_ends_146 u4 gu7) rfl (by decide) (Nat.le_of_ble_eq_true rfl) (Nat.le_refl _) (Nat.le_refl _) dX12_aDay_37 ?_
    exact w_sub [0] rfl (bX12_aDay_146_40 hX hR u7 h)
def FX12_aDay_146_b15 (t0 : Int32) (u : Mem) : Option Mem :=
  (if t0 = 0 then (FX12_aDay_146_b24 t0 u) else ((FX12_wages_146 u).bind fun u3 => FX12_aDay_146_b24 t0 u3))
theorem bX12_aDay_146_15 {G : Gt} {X : Xt} {u' : Mem} (hX : CxOk G X cX12_aDay 2 RX12 (none, SH, RHO, u') 9) (hR : CxRet G X none (none, SH, RHO, u')) (t0 : Int32) (u : Mem) (h : FX12_aDay_146_b15 t0 u = some u') : WM G X 15 [(0, .ref 146)] [.int t0] SH RHO u := by
  unfold FX12_aDay_146_b15 at h
  refine w_istore_n (lv' := [(1, .int t0), (0, .ref 146)]) 15 hX rfl dX12_aDay_15 (by decide) rfl ?_
  refine w_iload_n 0 16 hX rfl rfl dX12_aDay_16 ?_
  refine w_if_eq (tgt := 24) 17 hX dX12_aDay_17 (by decide) (fun c1 => ?_) (fun c1 => ?_)
  · have h := it h c1
    exact w_sub [1, 0] rfl (bX12_aDay_146_24 hX hR t0 u h)
  · have h := ie h c1
    refine w_aload_n 1 20 hX rfl rfl dX12_aDay_20 ?_
    obtain ⟨u3, gu3, h⟩ := o_bind h
    refine w_invVv (av := []) (st := []) 21 hX CI_12 s_146 rfl mv_yX12_wages mi_yX12_wages ml_X12_406 (CX12_wages_146 u gu3) rfl (by decide) (Nat.le_of_ble_eq_true rfl) (Nat.le_refl _) (Nat.le_refl _) dX12_aDay_21 ?_
    exact w_sub [1, 0] rfl (bX12_aDay_146_24 hX hR t0 u3 h)
def FX12_aDay_146 (u : Mem) : Option Mem :=
  (if (u 147 1) = 1 then (FX12_aDay_146_b15 1 u) else (FX12_aDay_146_b15 0 u))
theorem CX12_aDay_146 {G : Gt} (u : Mem) {u' : Mem} (h : FX12_aDay_146 u = some u') : CT G yX12_aDay cX12_aDay 2 none 9 [.ref 146] SH RHO u (none, SH, RHO, u') :=
  ct_of (by decide) rfl (Nat.le_of_ble_eq_true rfl) (Nat.le_refl _) (Nat.le_refl _) (fun X hX hR => by
  unfold FX12_aDay_146 at h
  refine w_aload_n 0 0 hX rfl rfl dX12_aDay_0 ?_
  refine w_getR 1 hX CI_12 s_146 rfl r_146_0 fl_X12_7 rfl dX12_aDay_1 ?_
  refine w_iconst 1 4 hX ic_1 dX12_aDay_4 ?_
  refine w_iald 5 hX s_147 (rdK 1 1 n_1 (by decide) (by decide)) dX12_aDay_5 ?_
  refine w_iconst 1 6 hX ic_1 dX12_aDay_6 ?_
  refine w_icmp_ne (tgt := 14) 7 hX dX12_aDay_7 (by decide) (fun c1 => ?_) (fun c1 => ?_)
  · have h := ie h c1
    refine w_iconst 0 14 hX ic_0 dX12_aDay_14 ?_
    exact bX12_aDay_146_15 hX hR 0 u h
  · have h := it h c1
    refine w_iconst 1 10 hX ic_1 dX12_aDay_10 ?_
    refine w_goto (tgt := 15) 11 hX (by decide) dX12_aDay_11 ?_
    exact bX12_aDay_146_15 hX hR 1 u h)
def FX12_days_146_b40 (k40 : Int32 → Int32 → Int32 → Mem → Option (Int32 × Mem)) (l1 l2 l3 : Int32) (u : Mem) : Option (Int32 × Mem) :=
  (if l1 ≤ l3 then (some (l2, u)) else ((FX12_keeps_146 u).bind fun u3 => (FX12_aDay_146 u3).bind fun u5 => k40 l1 (l2 + (u3 147 1)) (l3 + 1) u5))
theorem bX12_days_146_40 {G : Gt} {X : Xt} {v : Int32} {u' : Mem} (hX : CxOk G X cX12_days 4 RX12 (some (.int v), SH, RHO, u') 10) (hR : CxRet G X (some .int) (some (.int v), SH, RHO, u')) {k40 : Int32 → Int32 → Int32 → Mem → Option (Int32 × Mem)} (hk40 : ∀ (l1 l2 l3 : Int32) (u : Mem), k40 l1 l2 l3 u = some (v, u') → WM G X 40 [(0, .ref 146), (1, .int l1), (2, .int l2), (3, .int l3)] [] SH RHO u) (l1 l2 l3 : Int32) (u : Mem) (h : FX12_days_146_b40 k40 l1 l2 l3 u = some (v, u')) : WM G X 40 [(0, .ref 146), (1, .int l1), (2, .int l2), (3, .int l3)] [] SH RHO u := by
  unfold FX12_days_146_b40 at h
  refine w_iload_n 3 40 hX rfl rfl dX12_days_40 ?_
  refine w_iload_n 1 41 hX rfl rfl dX12_days_41 ?_
  refine w_icmp_ge (tgt := 68) 42 hX dX12_days_42 (by decide) (fun c1 => ?_) (fun c1 => ?_)
  · have h := it h c1
    refine w_iload_n 2 68 hX rfl rfl dX12_days_68 ?_
    exact w_iret 69 hX hR dX12_days_69 (by cases h; rfl)
  · have h := ie h c1
    refine w_aload_n 0 45 hX rfl rfl dX12_days_45 ?_
    obtain ⟨u3, gu3, h⟩ := o_bind h
    refine w_invVv (av := []) (st := []) 46 hX CI_12 s_146 rfl mv_yX12_keeps mi_yX12_keeps ml_X12_317 (CX12_keeps_146 u gu3) rfl (by decide) (Nat.le_of_ble_eq_true rfl) (Nat.le_refl _) (Nat.le_refl _) dX12_days_46 ?_
    refine w_iload_n 2 49 hX rfl rfl dX12_days_49 ?_
    refine w_aload_n 0 50 hX rfl rfl dX12_days_50 ?_
    refine w_getR 51 hX CI_12 s_146 rfl r_146_0 fl_X12_7 rfl dX12_days_51 ?_
    refine w_iconst 1 54 hX ic_1 dX12_days_54 ?_
    refine w_iald 55 hX s_147 (rdK 1 1 n_1 (by decide) (by decide)) dX12_days_55 ?_
    refine w_iadd 56 hX dX12_days_56 ?_
    refine w_istore_n (lv' := [(2, .int (l2 + (u3 147 1))), (0, .ref 146), (1, .int l1), (3, .int l3)]) 57 hX rfl dX12_days_57 (by decide) rfl ?_
    refine w_aload_n 1 58 hX rfl rfl dX12_days_58 ?_
    obtain ⟨u5, gu5, h⟩ := o_bind h
    refine w_invVv (av := []) (st := []) 59 hX CI_12 s_146 rfl mv_yX12_aDay mi_yX12_aDay ml_X12_417 (CX12_aDay_146 u3 gu5) rfl (by decide) (Nat.le_of_ble_eq_true rfl) (Nat.le_refl _) (Nat.le_refl _) dX12_days_59 ?_
    refine w_iinc (lv' := [(3, .int (l3 + 1)), (2, .int (l2 + (u3 147 1))), (0, .ref 146), (1, .int l1)]) 62 3 hX dX12_days_62 rfl (inc_1 _) (by decide) rfl ?_
    refine w_goto (tgt := 40) 65 hX (by decide) dX12_days_65 ?_
    exact w_sub [2, 3, 1, 0] rfl (hk40 l1 (l2 + (u3 147 1)) (l3 + 1) u5 h)
def FX12_days_146_L40 : Nat → Int32 → Int32 → Int32 → Mem → Option (Int32 × Mem)
  | 0, _, _, _, _ => none
  | n + 1, l1, l2, l3, u => FX12_days_146_b40 (FX12_days_146_L40 n) l1 l2 l3 u
theorem lX12_days_146_40 {G : Gt} {X : Xt} {v : Int32} {u' : Mem} (hX : CxOk G X cX12_days 4 RX12 (some (.int v), SH, RHO, u') 10) (hR : CxRet G X (some .int) (some (.int v), SH, RHO, u')) : ∀ (n : Nat) (l1 l2 l3 : Int32) (u : Mem), FX12_days_146_L40 n l1 l2 l3 u = some (v, u') → WM G X 40 [(0, .ref 146), (1, .int l1), (2, .int l2), (3, .int l3)] [] SH RHO u := by
  intro n
  induction n with
  | zero =>
    intro l1 l2 l3 u h
    exact nn_ h
  | succ n ih =>
    intro l1 l2 l3 u h
    exact bX12_days_146_40 hX hR ih l1 l2 l3 u h
def FX12_days_146 (p1 : Int32) (u : Mem) : Option (Int32 × Mem) :=
  (FX12_isIn p1 1 60).bind fun x1 => (if x1 = 0 then (some ((-1), u)) else ((if ((u 147 0) + p1) ≤ 9999 then ((some (mupd u 146 28 1)).bind fun u4 => (some (mupd u4 146 27 0)).bind fun u5 => FX12_days_146_L40 FU p1 0 0 u5) else (some ((-1), u)))))
theorem CX12_days_146 {G : Gt} (p1 : Int32) (u : Mem) {v : Int32} {u' : Mem} (h : FX12_days_146 p1 u = some (v, u')) : CT G yX12_days cX12_days 4 (some .int) 10 [.ref 146, .int p1] SH RHO u (some (.int v), SH, RHO, u') :=
  ct_of (by decide) rfl (Nat.le_of_ble_eq_true rfl) (Nat.le_refl _) (Nat.le_refl _) (fun X hX hR => by
  unfold FX12_days_146 at h
  refine w_iload_n 1 0 hX rfl rfl dX12_days_0 ?_
  refine w_iconst 1 1 hX ic_1 dX12_days_1 ?_
  refine w_bipush 60 2 hX ib_60 dX12_days_2 ?_
  obtain ⟨x1, gx1, h⟩ := o_bind h
  refine w_invSi (av := [.int p1, .int 1, .int 60]) (st := []) 4 hX ms_yX12_isIn mi_yX12_isIn ml_X12_54 (CX12_isIn p1 1 60 u gx1) rfl (by decide) (Nat.le_of_ble_eq_true rfl) (Nat.le_refl _) (Nat.le_refl _) dX12_days_4 ?_
  refine w_if_eq (tgt := 24) 7 hX dX12_days_7 (by decide) (fun c2 => ?_) (fun c2 => ?_)
  · have h := it h c2
    refine w_iconst (-1) 24 hX ic_m1 dX12_days_24 ?_
    exact w_iret 25 hX hR dX12_days_25 (by cases h; rfl)
  · have h := ie h c2
    refine w_aload_n 0 10 hX rfl rfl dX12_days_10 ?_
    refine w_getR 11 hX CI_12 s_146 rfl r_146_0 fl_X12_7 rfl dX12_days_11 ?_
    refine w_iconst 0 14 hX ic_0 dX12_days_14 ?_
    refine w_iald 15 hX s_147 (rdK 0 0 n_0 (by decide) (by decide)) dX12_days_15 ?_
    refine w_iload_n 1 16 hX rfl rfl dX12_days_16 ?_
    refine w_iadd 17 hX dX12_days_17 ?_
    refine w_sipush 9999 18 hX isp_9999 dX12_days_18 ?_
    refine w_icmp_le (tgt := 26) 21 hX dX12_days_21 (by decide) (fun c3 => ?_) (fun c3 => ?_)
    · have h := it h c3
      refine w_iconst 0 26 hX ic_0 dX12_days_26 ?_
      refine w_istore_n (lv' := [(2, .int 0), (0, .ref 146), (1, .int p1)]) 27 hX rfl dX12_days_27 (by decide) rfl ?_
      refine w_aload_n 1 28 hX rfl rfl dX12_days_28 ?_
      refine w_iconst 1 29 hX ic_1 dX12_days_29 ?_
      obtain ⟨u4, gu4, h⟩ := o_bind h
      refine w_putI (j := 28) 30 hX CI_12 s_146 rfl fl_X12_313 rfl rfl (by decide) (by decide) dX12_days_30 ?_
      rw [Option.some.inj gu4]
      refine w_aload_n 1 33 hX rfl rfl dX12_days_33 ?_
      refine w_iconst 0 34 hX ic_0 dX12_days_34 ?_
      obtain ⟨u5, gu5, h⟩ := o_bind h
      refine w_putI (j := 27) 35 hX CI_12 s_146 rfl fl_X12_303 rfl rfl rfl rfl dX12_days_35 ?_
      rw [Option.some.inj gu5]
      refine w_iconst 0 38 hX ic_0 dX12_days_38 ?_
      refine w_istore_n (lv' := [(3, .int 0), (2, .int 0), (0, .ref 146), (1, .int p1)]) 39 hX rfl dX12_days_39 (by decide) rfl ?_
      exact w_sub [2, 3, 1, 0] rfl (lX12_days_146_40 hX hR FU p1 0 0 u5 h)
    · have h := ie h c3
      refine w_iconst (-1) 24 hX ic_m1 dX12_days_24 ?_
      exact w_iret 25 hX hR dX12_days_25 (by cases h; rfl))
def FX6_hasRoom_34 (u : Mem) : Option Int32 :=
  (if (u 34 12) < 0 then (some 0) else ((if 400 < ((u 34 12) + 20) then (some 0) else (some 1))))
theorem CX6_hasRoom_34 {G : Gt} (u : Mem) {v : Int32} (h : FX6_hasRoom_34 u = some v) : CT G yX6_hasRoom cX6_hasRoom 1 (some .boolean) 1 [.ref 34] SH RHO u (some (.int v), SH, RHO, u) :=
  ct_of (by decide) rfl (Nat.le_of_ble_eq_true rfl) (Nat.le_refl _) (Nat.le_refl _) (fun X hX hR => by
  unfold FX6_hasRoom_34 at h
  refine w_aload_n 0 0 hX rfl rfl dX6_hasRoom_0 ?_
  refine w_getI (j := 12) 1 hX CI_6 s_34 rfl fl_X6_48 rfl dX6_hasRoom_1 ?_
  refine w_if_lt (tgt := 24) 4 hX dX6_hasRoom_4 (by decide) (fun c1 => ?_) (fun c1 => ?_)
  · have h := it h c1
    refine w_iconst 0 24 hX ic_0 dX6_hasRoom_24 ?_
    exact w_zret 25 hX hR (by decide) dX6_hasRoom_25 (by cases h; rfl)
  · have h := ie h c1
    refine w_aload_n 0 7 hX rfl rfl dX6_hasRoom_7 ?_
    refine w_getI (j := 12) 8 hX CI_6 s_34 rfl fl_X6_48 rfl dX6_hasRoom_8 ?_
    refine w_bipush 20 11 hX ib_20 dX6_hasRoom_11 ?_
    refine w_iadd 13 hX dX6_hasRoom_13 ?_
    refine w_sipush 400 14 hX isp_400 dX6_hasRoom_14 ?_
    refine w_icmp_gt (tgt := 24) 17 hX dX6_hasRoom_17 (by decide) (fun c2 => ?_) (fun c2 => ?_)
    · have h := it h c2
      refine w_iconst 0 24 hX ic_0 dX6_hasRoom_24 ?_
      exact w_zret 25 hX hR (by decide) dX6_hasRoom_25 (by cases h; rfl)
    · have h := ie h c2
      refine w_iconst 1 20 hX ic_1 dX6_hasRoom_20 ?_
      refine w_goto (tgt := 25) 21 hX (by decide) dX6_hasRoom_21 ?_
      exact w_zret 25 hX hR (by decide) dX6_hasRoom_25 (by cases h; rfl))
def FX6_add_34_b50 (k3 : Int32 → Int32 → Mem → Option Mem) (l1 l2 : Int32) (u : Mem) : Option Mem :=
  k3 l1 (l2 + (-8)) u
theorem bX6_add_34_50 {G : Gt} {X : Xt} {u' : Mem} (hX : CxOk G X cX6_add 3 RX6 (none, SH, RHO, u') 1) (hR : CxRet G X none (none, SH, RHO, u')) {k3 : Int32 → Int32 → Mem → Option Mem} (hk3 : ∀ (l1 l2 : Int32) (u : Mem), k3 l1 l2 u = some u' → WM G X 3 [(0, .ref 34), (1, .int l1), (2, .int l2)] [] SH RHO u) (l1 l2 : Int32) (u : Mem) (h : FX6_add_34_b50 k3 l1 l2 u = some u') : WM G X 50 [(0, .ref 34), (1, .int l1), (2, .int l2)] [] SH RHO u := by
  unfold FX6_add_34_b50 at h
  refine w_iinc (lv' := [(2, .int (l2 + (-8))), (0, .ref 34), (1, .int l1)]) 50 2 hX dX6_add_50 rfl (inc_m8 _) (by decide) rfl ?_
  refine w_goto (tgt := 3) 53 hX (by decide) dX6_add_53 ?_
  exact w_sub [1, 2, 0] rfl (hk3 l1 (l2 + (-8)) u h)
def FX6_add_34_b3 (k3 : Int32 → Int32 → Mem → Option Mem) (l1 l2 : Int32) (u : Mem) : Option Mem :=
  (if l2 < 0 then (some u) else ((if (u 34 12) < 0 then (FX6_add_34_b50 k3 l1 l2 u) else ((if 400 ≤ (u 34 12) then (FX6_add_34_b50 k3 l1 l2 u) else ((wrA u 35 400 (u 34 12) ((((l1 : Int32).toUInt32 >>> ((l2 : Int32).toUInt32 &&& Int32.toUInt32 31)).toInt32) &&& 255)).bind fun u4 => (some (mupd u4 34 12 ((u4 34 12) + 1))).bind fun u5 => FX6_add_34_b50 k3 l1 l2 u5))))))
theorem bX6_add_34_3 {G : Gt} {X : Xt} {u' : Mem} (hX : CxOk G X cX6_add 3 RX6 (none, SH, RHO, u') 1) (hR : CxRet G X none (none, SH, RHO, u')) {k3 : Int32 → Int32 → Mem → Option Mem} (hk3 : ∀ (l1 l2 : Int32) (u : Mem), k3 l1 l2 u = some u' → WM G X 3 [(0, .ref 34), (1, .int l1), (2, .int l2)] [] SH RHO u) (l1 l2 : Int32) (u : Mem) (h : FX6_add_34_b3 k3 l1 l2 u = some u') : WM G X 3 [(0, .ref 34), (1, .int l1), (2, .int l2)] [] SH RHO u := by
  unfold FX6_add_34_b3 at h
  refine w_iload_n 2 3 hX rfl rfl dX6_add_3 ?_
  refine w_if_lt (tgt := 56) 4 hX dX6_add_4 (by decide) (fun c1 => ?_) (fun c1 => ?_)
  · have h := it h c1
    exact w_vret 56 hX hR dX6_add_56 (by cases h; rfl)
  · have h := ie h c1
    refine w_aload_n 0 7 hX rfl rfl dX6_add_7 ?_
    refine w_getI (j := 12) 8 hX CI_6 s_34 rfl fl_X6_48 rfl dX6_add_8 ?_
    refine w_if_lt (tgt := 50) 11 hX dX6_add_11 (by decide) (fun c2 => ?_) (fun c2 => ?_)
    · have h := it h c2
      exact bX6_add_34_50 hX hR hk3 l1 l2 u h
    · have h := ie h c2
      refine w_aload_n 0 14 hX rfl rfl dX6_add_14 ?_
      refine w_getI (j := 12) 15 hX CI_6 s_34 rfl fl_X6_48 rfl dX6_add_15 ?_
      refine w_sipush 400 18 hX isp_400 dX6_add_18 ?_
      refine w_icmp_ge (tgt := 50) 21 hX dX6_add_21 (by decide) (fun c3 => ?_) (fun c3 => ?_)
      · have h := it h c3
        exact bX6_add_34_50 hX hR hk3 l1 l2 u h
      · have h := ie h c3
        refine w_aload_n 0 24 hX rfl rfl dX6_add_24 ?_
        refine w_getR 25 hX CI_6 s_34 rfl r_34_0 fl_X6_11 rfl dX6_add_25 ?_
        refine w_aload_n 0 28 hX rfl rfl dX6_add_28 ?_
        refine w_getI (j := 12) 29 hX CI_6 s_34 rfl fl_X6_48 rfl dX6_add_29 ?_
        refine w_iload_n 1 32 hX rfl rfl dX6_add_32 ?_
        refine w_iload_n 2 33 hX rfl rfl dX6_add_33 ?_
        refine w_iushr 34 hX dX6_add_34 ?_
        refine w_sipush 255 35 hX isp_255 dX6_add_35 ?_
        refine w_iand 38 hX dX6_add_38 ?_
        obtain ⟨u4, gu4, h⟩ := o_bind h
        refine w_iast 39 hX s_35 gu4 dX6_add_39 ?_
        refine w_aload_n 0 40 hX rfl rfl dX6_add_40 ?_
        refine w_dup 41 hX rfl dX6_add_41 ?_
        refine w_getI (j := 12) 42 hX CI_6 s_34 rfl fl_X6_48 rfl dX6_add_42 ?_
        refine w_iconst 1 45 hX ic_1 dX6_add_45 ?_
        refine w_iadd 46 hX dX6_add_46 ?_
        obtain ⟨u5, gu5, h⟩ := o_bind h
        refine w_putI (j := 12) 47 hX CI_6 s_34 rfl fl_X6_48 rfl rfl rfl rfl dX6_add_47 ?_
        rw [Option.some.inj gu5]
        exact bX6_add_34_50 hX hR hk3 l1 l2 u5 h
def FX6_add_34_L3 : Nat → Int32 → Int32 → Mem → Option Mem
  | 0, _, _, _ => none
  | n + 1, l1, l2, u => FX6_add_34_b3 (FX6_add_34_L3 n) l1 l2 u
theorem lX6_add_34_3 {G : Gt} {X : Xt} {u' : Mem} (hX : CxOk G X cX6_add 3 RX6 (none, SH, RHO, u') 1) (hR : CxRet G X none (none, SH, RHO, u')) : ∀ (n : Nat) (l1 l2 : Int32) (u : Mem), FX6_add_34_L3 n l1 l2 u = some u' → WM G X 3 [(0, .ref 34), (1, .int l1), (2, .int l2)] [] SH RHO u := by
  intro n
  induction n with
  | zero =>
    intro l1 l2 u h
    exact nn_ h
  | succ n ih =>
    intro l1 l2 u h
    exact bX6_add_34_3 hX hR ih l1 l2 u h
def FX6_add_34 (p1 : Int32) (u : Mem) : Option Mem :=
  FX6_add_34_L3 FU p1 24 u
theorem CX6_add_34 {G : Gt} (p1 : Int32) (u : Mem) {u' : Mem} (h : FX6_add_34 p1 u = some u') : CT G yX6_add cX6_add 3 none 1 [.ref 34, .int p1] SH RHO u (none, SH, RHO, u') :=
  ct_of (by decide) rfl (Nat.le_of_ble_eq_true rfl) (Nat.le_refl _) (Nat.le_refl _) (fun X hX hR => by
  unfold FX6_add_34 at h
  refine w_bipush 24 0 hX ib_24 dX6_add_0 ?_
  refine w_istore_n (lv' := [(2, .int 24), (0, .ref 34), (1, .int p1)]) 2 hX rfl dX6_add_2 (by decide) rfl ?_
  exact w_sub [1, 2, 0] rfl (lX6_add_34_3 hX hR FU p1 24 u h))
def FX11_feed_0 (p1 p2 p3 p4 p5 : Int32) (u : Mem) : Option (Int32 × Mem) :=
  (FX6_hasRoom_34 u).bind fun x1 => (if x1 = 0 then (some ((-1), u)) else ((FX6_add_34 p1 u).bind fun u4 => (FX6_add_34 p2 u4).bind fun u6 => (FX6_add_34 p3 u6).bind fun u8 => (FX6_add_34 p4 u8).bind fun u10 => (FX6_add_34 p5 u10).bind fun u12 => some (u12 34 12, u12)))
theorem CX11_feed_0 {G : Gt} (p1 p2 p3 p4 p5 : Int32) (u : Mem) {v : Int32} {u' : Mem} (h : FX11_feed_0 p1 p2 p3 p4 p5 u = some (v, u')) : CT G yX11_feed cX11_feed 6 (some .int) 2 [.ref 0, .int p1, .int p2, .int p3, .int p4, .int p5] SH RHO u (some (.int v), SH, RHO, u') :=
  ct_of (by decide) rfl (Nat.le_of_ble_eq_true rfl) (Nat.le_refl _) (Nat.le_refl _) (fun X hX hR => by
  unfold FX11_feed_0 at h
  refine w_aload_n 0 0 hX rfl rfl dX11_feed_0 ?_
  refine w_getR 1 hX CI_11 s_0 rfl r_0_4 fl_X11_42 rfl dX11_feed_1 ?_
  obtain ⟨x1, gx1, h⟩ := o_bind h
  refine w_invVi (av := []) (st := []) 4 hX CI_6 s_34 rfl mv_yX6_hasRoom mi_yX6_hasRoom ml_X11_162 (CX6_hasRoom_34 u gx1) rfl (by decide) (Nat.le_of_ble_eq_true rfl) (Nat.le_refl _) (Nat.le_refl _) dX11_feed_4 ?_
  refine w_if_ne (tgt := 12) 7 hX dX11_feed_7 (by decide) (fun c2 => ?_) (fun c2 => ?_)
  · have h := ie h c2
    refine w_aload_n 0 12 hX rfl rfl dX11_feed_12 ?_
    refine w_getR 13 hX CI_11 s_0 rfl r_0_4 fl_X11_42 rfl dX11_feed_13 ?_
    refine w_iload_n 1 16 hX rfl rfl dX11_feed_16 ?_
    obtain ⟨u4, gu4, h⟩ := o_bind h
    refine w_invVv (av := [.int p1]) (st := []) 17 hX CI_6 s_34 rfl mv_yX6_add mi_yX6_add ml_X11_166 (CX6_add_34 p1 u gu4) rfl (by decide) (Nat.le_of_ble_eq_true rfl) (Nat.le_refl _) (Nat.le_refl _) dX11_feed_17 ?_
    refine w_aload_n 0 20 hX rfl rfl dX11_feed_20 ?_
    refine w_getR 21 hX CI_11 s_0 rfl r_0_4 fl_X11_42 rfl dX11_feed_21 ?_
    refine w_iload_n 2 24 hX rfl rfl dX11_feed_24 ?_
    obtain ⟨u6, gu6, h⟩ := o_bind h
    refine w_invVv (av := [.int p2]) (st := []) 25 hX CI_6 s_34 rfl mv_yX6_add mi_yX6_add ml_X11_166 (CX6_add_34 p2 u4 gu6) rfl (by decide) (Nat.le_of_ble_eq_true rfl) (Nat.le_refl _) (Nat.le_refl _) dX11_feed_25 ?_
    refine w_aload_n 0 28 hX rfl rfl dX11_feed_28 ?_
    refine w_getR 29 hX CI_11 s_0 rfl r_0_4 fl_X11_42 rfl dX11_feed_29 ?_
    refine w_iload_n 3 32 hX rfl rfl dX11_feed_32 ?_
    obtain ⟨u8, gu8, h⟩ := o_bind h
    refine w_invVv (av := [.int p3]) (st := []) 33 hX CI_6 s_34 rfl mv_yX6_add mi_yX6_add ml_X11_166 (CX6_add_34 p3 u6 gu8) rfl (by decide) (Nat.le_of_ble_eq_true rfl) (Nat.le_refl _) (Nat.le_refl _) dX11_feed_33 ?_
    refine w_aload_n 0 36 hX rfl rfl dX11_feed_36 ?_
    refine w_getR 37 hX CI_11 s_0 rfl r_0_4 fl_X11_42 rfl dX11_feed_37 ?_
    refine w_iload 4 40 hX rfl dX11_feed_40 ?_
    obtain ⟨u10, gu10, h⟩ := o_bind h
    refine w_invVv (av := [.int p4]) (st := []) 42 hX CI_6 s_34 rfl mv_yX6_add mi_yX6_add ml_X11_166 (CX6_add_34 p4 u8 gu10) rfl (by decide) (Nat.le_of_ble_eq_true rfl) (Nat.le_refl _) (Nat.le_refl _) dX11_feed_42 ?_
    refine w_aload_n 0 45 hX rfl rfl dX11_feed_45 ?_
    refine w_getR 46 hX CI_11 s_0 rfl r_0_4 fl_X11_42 rfl dX11_feed_46 ?_
    refine w_iload 5 49 hX rfl dX11_feed_49 ?_
    obtain ⟨u12, gu12, h⟩ := o_bind h
    refine w_invVv (av := [.int p5]) (st := []) 51 hX CI_6 s_34 rfl mv_yX6_add mi_yX6_add ml_X11_166 (CX6_add_34 p5 u10 gu12) rfl (by decide) (Nat.le_of_ble_eq_true rfl) (Nat.le_refl _) (Nat.le_refl _) dX11_feed_51 ?_
    refine w_aload_n 0 54 hX rfl rfl dX11_feed_54 ?_
    refine w_getR 55 hX CI_11 s_0 rfl r_0_4 fl_X11_42 rfl dX11_feed_55 ?_
    refine w_getI (j := 12) 58 hX CI_6 s_34 rfl fl_X11_169 rfl dX11_feed_58 ?_
    exact w_iret 61 hX hR dX11_feed_61 (by cases h; rfl)
  · have h := it h c2
    refine w_iconst (-1) 10 hX ic_m1 dX11_feed_10 ?_
    exact w_iret 11 hX hR dX11_feed_11 (by cases h; rfl))
def FX12_feed_146_b71 (k18 : Int32 → Int32 → Int32 → Int32 → Int32 → Int32 → Mem → Option (Int32 × Mem)) (l1 l2 l3 l4 l5 l6 t0 : Int32) (u : Mem) : Option (Int32 × Mem) :=
  (rmI l6 4).bind fun x1 => (wrA u 154 400 (u 146 16) ((t0 >>> ((24 - (8 * x1)) &&& 31)) &&& 255)).bind fun u2 => (some (mupd u2 146 16 ((u2 146 16) + 1))).bind fun u3 => k18 l1 l2 l3 l4 l5 (l6 + 1) u3
theorem bX12_feed_146_71 {G : Gt} {X : Xt} {v : Int32} {u' : Mem} (hX : CxOk G X cX12_feed 8 RX12 (some (.int v), SH, RHO, u') 1) (hR : CxRet G X (some .int) (some (.int v), SH, RHO, u')) {k18 : Int32 → Int32 → Int32 → Int32 → Int32 → Int32 → Mem → Option (Int32 × Mem)} (hk18 : ∀ (l1 l2 l3 l4 l5 l6 : Int32) (u : Mem), k18 l1 l2 l3 l4 l5 l6 u = some (v, u') → WM G X 18 [(0, .ref 146), (1, .int l1), (2, .int l2), (3, .int l3), (4, .int l4), (5, .int l5), (6, .int l6)] [] SH RHO u) (l1 l2 l3 l4 l5 l6 t0 : Int32) (u : Mem) (h : FX12_feed_146_b71 k18 l1 l2 l3 l4 l5 l6 t0 u = some (v, u')) : WM G X 71 [(0, .ref 146), (1, .int l1), (2, .int l2), (3, .int l3), (4, .int l4), (5, .int l5), (6, .int l6)] [.int t0] SH RHO u := by
  unfold FX12_feed_146_b71 at h
  refine w_istore (lv' := [(7, .int t0), (0, .ref 146), (1, .int l1), (2, .int l2), (3, .int l3), (4, .int l4), (5, .int l5), (6, .int l6)]) 71 hX dX12_feed_71 (by decide) rfl ?_
  refine w_aload_n 1 73 hX rfl rfl dX12_feed_73 ?_
  refine w_getR 74 hX CI_12 s_146 rfl r_146_9 fl_X12_31 rfl dX12_feed_74 ?_
  refine w_aload_n 1 77 hX rfl rfl dX12_feed_77 ?_
  refine w_getI (j := 16) 78 hX CI_12 s_146 rfl fl_X12_80 rfl dX12_feed_78 ?_
  refine w_iload 0 81 hX rfl dX12_feed_81 ?_
  refine w_bipush 24 83 hX ib_24 dX12_feed_83 ?_
  refine w_bipush 8 85 hX ib_8 dX12_feed_85 ?_
  refine w_iload 7 87 hX rfl dX12_feed_87 ?_
  refine w_iconst 4 89 hX ic_4 dX12_feed_89 ?_
  obtain ⟨x1, gx1, h⟩ := o_bind h
  obtain ⟨qx1, jx1⟩ := rmI_ok gx1
  refine w_irem 90 hX qx1 dX12_feed_90 ?_
  rw [jx1]
  refine w_imul 91 hX dX12_feed_91 ?_
  refine w_isub 92 hX dX12_feed_92 ?_
  refine w_ishr 93 hX dX12_feed_93 ?_
  refine w_sipush 255 94 hX isp_255 dX12_feed_94 ?_
  refine w_iand 97 hX dX12_feed_97 ?_
  obtain ⟨u2, gu2, h⟩ := o_bind h
  refine w_iast 98 hX s_154 gu2 dX12_feed_98 ?_
  refine w_aload_n 1 99 hX rfl rfl dX12_feed_99 ?_
  refine w_dup 100 hX rfl dX12_feed_100 ?_
  refine w_getI (j := 16) 101 hX CI_12 s_146 rfl fl_X12_80 rfl dX12_feed_101 ?_
  refine w_iconst 1 104 hX ic_1 dX12_feed_104 ?_
  refine w_iadd 105 hX dX12_feed_105 ?_
  obtain ⟨u3, gu3, h⟩ := o_bind h
  refine w_putI (j := 16) 106 hX CI_12 s_146 rfl fl_X12_80 rfl rfl rfl rfl dX12_feed_106 ?_
  rw [Option.some.inj gu3]
  refine w_iinc (lv' := [(6, .int (l6 + 1)), (7, .int t0), (0, .ref 146), (1, .int l1), (2, .int l2), (3, .int l3), (4, .int l4), (5, .int l5)]) 109 7 hX dX12_feed_109 rfl (inc_1 _) (by decide) rfl ?_
  refine w_goto (tgt := 18) 112 hX (by decide) dX12_feed_112 ?_
  exact w_sub [2, 3, 4, 5, 6, 7, 0] rfl (hk18 l1 l2 l3 l4 l5 (l6 + 1) u3 h)
def FX12_feed_146_b18 (k18 : Int32 → Int32 → Int32 → Int32 → Int32 → Int32 → Mem → Option (Int32 × Mem)) (l1 l2 l3 l4 l5 l6 : Int32) (u : Mem) : Option (Int32 × Mem) :=
  (if 20 ≤ l6 then (some (u 146 16, u)) else ((if 4 ≤ l6 then ((if 8 ≤ l6 then ((if 12 ≤ l6 then ((if 16 ≤ l6 then (FX12_feed_146_b71 k18 l1 l2 l3 l4 l5 l6 l5 u) else (FX12_feed_146_b71 k18 l1 l2 l3 l4 l5 l6 l4 u))) else (FX12_feed_146_b71 k18 l1 l2 l3 l4 l5 l6 l3 u))) else (FX12_feed_146_b71 k18 l1 l2 l3 l4 l5 l6 l2 u))) else (FX12_feed_146_b71 k18 l1 l2 l3 l4 l5 l6 l1 u))))
theorem bX12_feed_146_18 {G : Gt} {X : Xt} {v : Int32} {u' : Mem} (hX : CxOk G X cX12_feed 8 RX12 (some (.int v), SH, RHO, u') 1) (hR : CxRet G X (some .int) (some (.int v), SH, RHO, u')) {k18 : Int32 → Int32 → Int32 → Int32 → Int32 → Int32 → Mem → Option (Int32 × Mem)} (hk18 : ∀ (l1 l2 l3 l4 l5 l6 : Int32) (u : Mem), k18 l1 l2 l3 l4 l5 l6 u = some (v, u') → WM G X 18 [(0, .ref 146), (1, .int l1), (2, .int l2), (3, .int l3), (4, .int l4), (5, .int l5), (6, .int l6)] [] SH RHO u) (l1 l2 l3 l4 l5 l6 : Int32) (u : Mem) (h : FX12_feed_146_b18 k18 l1 l2 l3 l4 l5 l6 u = some (v, u')) : WM G X 18 [(0, .ref 146), (1, .int l1), (2, .int l2), (3, .int l3), (4, .int l4), (5, .int l5), (6, .int l6)] [] SH RHO u := by
  unfold FX12_feed_146_b18 at h
  refine w_iload 6 18 hX rfl dX12_feed_18 ?_
  refine w_bipush 20 20 hX ib_20 dX12_feed_20 ?_
  refine w_icmp_ge (tgt := 115) 22 hX dX12_feed_22 (by decide) (fun c1 => ?_) (fun c1 => ?_)
  · have h := it h c1
    refine w_aload_n 0 115 hX rfl rfl dX12_feed_115 ?_
    refine w_getI (j := 16) 116 hX CI_12 s_146 rfl fl_X12_80 rfl dX12_feed_116 ?_
    exact w_iret 119 hX hR dX12_feed_119 (by cases h; rfl)
  · have h := ie h c1
    refine w_iload 6 25 hX rfl dX12_feed_25 ?_
    refine w_iconst 4 27 hX ic_4 dX12_feed_27 ?_
    refine w_icmp_ge (tgt := 35) 28 hX dX12_feed_28 (by decide) (fun c2 => ?_) (fun c2 => ?_)
    · have h := it h c2
      refine w_iload 6 35 hX rfl dX12_feed_35 ?_
      refine w_bipush 8 37 hX ib_8 dX12_feed_37 ?_
      refine w_icmp_ge (tgt := 46) 39 hX dX12_feed_39 (by decide) (fun c3 => ?_) (fun c3 => ?_)
      · have h := it h c3
        refine w_iload 6 46 hX rfl dX12_feed_46 ?_
        refine w_bipush 12 48 hX ib_12 dX12_feed_48 ?_
        refine w_icmp_ge (tgt := 57) 50 hX dX12_feed_50 (by decide) (fun c4 => ?_) (fun c4 => ?_)
        · have h := it h c4
          refine w_iload 6 57 hX rfl dX12_feed_57 ?_
          refine w_bipush 16 59 hX ib_16 dX12_feed_59 ?_
          refine w_icmp_ge (tgt := 69) 61 hX dX12_feed_61 (by decide) (fun c5 => ?_) (fun c5 => ?_)
          · have h := it h c5
            refine w_iload 5 69 hX rfl dX12_feed_69 ?_
            exact bX12_feed_146_71 hX hR hk18 l1 l2 l3 l4 l5 l6 l5 u h
          · have h := ie h c5
            refine w_iload 4 64 hX rfl dX12_feed_64 ?_
            refine w_goto (tgt := 71) 66 hX (by decide) dX12_feed_66 ?_
            exact bX12_feed_146_71 hX hR hk18 l1 l2 l3 l4 l5 l6 l4 u h
        · have h := ie h c4
          refine w_iload_n 3 53 hX rfl rfl dX12_feed_53 ?_
          refine w_goto (tgt := 71) 54 hX (by decide) dX12_feed_54 ?_
          exact bX12_feed_146_71 hX hR hk18 l1 l2 l3 l4 l5 l6 l3 u h
      · have h := ie h c3
        refine w_iload_n 2 42 hX rfl rfl dX12_feed_42 ?_
        refine w_goto (tgt := 71) 43 hX (by decide) dX12_feed_43 ?_
        exact bX12_feed_146_71 hX hR hk18 l1 l2 l3 l4 l5 l6 l2 u h
    · have h := ie h c2
      refine w_iload_n 1 31 hX rfl rfl dX12_feed_31 ?_
      refine w_goto (tgt := 71) 32 hX (by decide) dX12_feed_32 ?_
      exact bX12_feed_146_71 hX hR hk18 l1 l2 l3 l4 l5 l6 l1 u h
def FX12_feed_146_L18 : Nat → Int32 → Int32 → Int32 → Int32 → Int32 → Int32 → Mem → Option (Int32 × Mem)
  | 0, _, _, _, _, _, _, _ => none
  | n + 1, l1, l2, l3, l4, l5, l6, u => FX12_feed_146_b18 (FX12_feed_146_L18 n) l1 l2 l3 l4 l5 l6 u
theorem lX12_feed_146_18 {G : Gt} {X : Xt} {v : Int32} {u' : Mem} (hX : CxOk G X cX12_feed 8 RX12 (some (.int v), SH, RHO, u') 1) (hR : CxRet G X (some .int) (some (.int v), SH, RHO, u')) : ∀ (n : Nat) (l1 l2 l3 l4 l5 l6 : Int32) (u : Mem), FX12_feed_146_L18 n l1 l2 l3 l4 l5 l6 u = some (v, u') → WM G X 18 [(0, .ref 146), (1, .int l1), (2, .int l2), (3, .int l3), (4, .int l4), (5, .int l5), (6, .int l6)] [] SH RHO u := by
  intro n
  induction n with
  | zero =>
    intro l1 l2 l3 l4 l5 l6 u h
    exact nn_ h
  | succ n ih =>
    intro l1 l2 l3 l4 l5 l6 u h
    exact bX12_feed_146_18 hX hR ih l1 l2 l3 l4 l5 l6 u h
def FX12_feed_146 (p1 p2 p3 p4 p5 : Int32) (u : Mem) : Option (Int32 × Mem) :=
  (if ((u 146 16) + 20) ≤ 400 then (FX12_feed_146_L18 FU p1 p2 p3 p4 p5 0 u) else (some ((-1), u)))
theorem CX12_feed_146 {G : Gt} (p1 p2 p3 p4 p5 : Int32) (u : Mem) {v : Int32} {u' : Mem} (h : FX12_feed_146 p1 p2 p3 p4 p5 u = some (v, u')) : CT G yX12_feed cX12_feed 8 (some .int) 1 [.ref 146, .int p1, .int p2, .int p3, .int p4, .int p5] SH RHO u (some (.int v), SH, RHO, u') :=
  ct_of (by decide) rfl (Nat.le_of_ble_eq_true rfl) (Nat.le_refl _) (Nat.le_refl _) (fun X hX hR => by
  unfold FX12_feed_146 at h
  refine w_aload_n 0 0 hX rfl rfl dX12_feed_0 ?_
  refine w_getI (j := 16) 1 hX CI_12 s_146 rfl fl_X12_80 rfl dX12_feed_1 ?_
  refine w_bipush 20 4 hX ib_20 dX12_feed_4 ?_
  refine w_iadd 6 hX dX12_feed_6 ?_
  refine w_sipush 400 7 hX isp_400 dX12_feed_7 ?_
  refine w_icmp_le (tgt := 15) 10 hX dX12_feed_10 (by decide) (fun c1 => ?_) (fun c1 => ?_)
  · have h := it h c1
    refine w_iconst 0 15 hX ic_0 dX12_feed_15 ?_
    refine w_istore (lv' := [(6, .int 0), (0, .ref 146), (1, .int p1), (2, .int p2), (3, .int p3), (4, .int p4), (5, .int p5)]) 16 hX dX12_feed_16 (by decide) rfl ?_
    exact w_sub [1, 2, 3, 4, 5, 6, 0] rfl (lX12_feed_146_18 hX hR FU p1 p2 p3 p4 p5 0 u h)
  · have h := ie h c1
    refine w_iconst (-1) 13 hX ic_m1 dX12_feed_13 ?_
    exact w_iret 14 hX hR dX12_feed_14 (by cases h; rfl))
def FX11_end_0 (p1 : Int32) (u : Mem) : Option (Int32 × Mem) :=
  (if p1 < 0 then (some (0, u)) else ((if p1 ≤ (u 34 12) then ((some (mupd u 34 12 p1)).bind fun u3 => some (1, u3)) else (some (0, u)))))
theorem CX11_end_0 {G : Gt} (p1 : Int32) (u : Mem) {v : Int32} {u' : Mem} (h : FX11_end_0 p1 u = some (v, u')) : CT G yX11_end cX11_end 2 (some .boolean) 1 [.ref 0, .int p1] SH RHO u (some (.int v), SH, RHO, u') :=
  ct_of (by decide) rfl (Nat.le_of_ble_eq_true rfl) (Nat.le_refl _) (Nat.le_refl _) (fun X hX hR => by
  unfold FX11_end_0 at h
  refine w_iload_n 1 0 hX rfl rfl dX11_end_0 ?_
  refine w_if_lt (tgt := 15) 1 hX dX11_end_1 (by decide) (fun c1 => ?_) (fun c1 => ?_)
  · have h := it h c1
    refine w_iconst 0 15 hX ic_0 dX11_end_15 ?_
    exact w_zret 16 hX hR (by decide) dX11_end_16 (by cases h; rfl)
  · have h := ie h c1
    refine w_iload_n 1 4 hX rfl rfl dX11_end_4 ?_
    refine w_aload_n 0 5 hX rfl rfl dX11_end_5 ?_
    refine w_getR 6 hX CI_11 s_0 rfl r_0_4 fl_X11_42 rfl dX11_end_6 ?_
    refine w_getI (j := 12) 9 hX CI_6 s_34 rfl fl_X11_169 rfl dX11_end_9 ?_
    refine w_icmp_le (tgt := 17) 12 hX dX11_end_12 (by decide) (fun c2 => ?_) (fun c2 => ?_)
    · have h := it h c2
      refine w_aload_n 0 17 hX rfl rfl dX11_end_17 ?_
      refine w_getR 18 hX CI_11 s_0 rfl r_0_4 fl_X11_42 rfl dX11_end_18 ?_
      refine w_iload_n 1 21 hX rfl rfl dX11_end_21 ?_
      obtain ⟨u3, gu3, h⟩ := o_bind h
      refine w_putI (j := 12) 22 hX CI_6 s_34 rfl fl_X11_169 rfl rfl rfl rfl dX11_end_22 ?_
      rw [Option.some.inj gu3]
      refine w_iconst 1 25 hX ic_1 dX11_end_25 ?_
      exact w_zret 26 hX hR (by decide) dX11_end_26 (by cases h; rfl)
    · have h := ie h c2
      refine w_iconst 0 15 hX ic_0 dX11_end_15 ?_
      exact w_zret 16 hX hR (by decide) dX11_end_16 (by cases h; rfl))
def FX12_end_146 (p1 : Int32) (u : Mem) : Option (Int32 × Mem) :=
  (FX12_isIn p1 0 (u 146 16)).bind fun x1 => (if x1 = 0 then (some (0, u)) else ((some (mupd u 146 16 p1)).bind fun u3 => some (1, u3)))
theorem CX12_end_146 {G : Gt} (p1 : Int32) (u : Mem) {v : Int32} {u' : Mem} (h : FX12_end_146 p1 u = some (v, u')) : CT G yX12_end cX12_end 2 (some .boolean) 2 [.ref 146, .int p1] SH RHO u (some (.int v), SH, RHO, u') :=
  ct_of (by decide) rfl (Nat.le_of_ble_eq_true rfl) (Nat.le_refl _) (Nat.le_refl _) (fun X hX hR => by
  unfold FX12_end_146 at h
  refine w_iload_n 1 0 hX rfl rfl dX12_end_0 ?_
  refine w_iconst 0 1 hX ic_0 dX12_end_1 ?_
  refine w_aload_n 0 2 hX rfl rfl dX12_end_2 ?_
  refine w_getI (j := 16) 3 hX CI_12 s_146 rfl fl_X12_80 rfl dX12_end_3 ?_
  obtain ⟨x1, gx1, h⟩ := o_bind h
  refine w_invSi (av := [.int p1, .int 0, .int (u 146 16)]) (st := []) 6 hX ms_yX12_isIn mi_yX12_isIn ml_X12_54 (CX12_isIn p1 0 (u 146 16) u gx1) rfl (by decide) (Nat.le_of_ble_eq_true rfl) (Nat.le_refl _) (Nat.le_refl _) dX12_end_6 ?_
  refine w_if_ne (tgt := 14) 9 hX dX12_end_9 (by decide) (fun c2 => ?_) (fun c2 => ?_)
  · have h := ie h c2
    refine w_aload_n 0 14 hX rfl rfl dX12_end_14 ?_
    refine w_iload_n 1 15 hX rfl rfl dX12_end_15 ?_
    obtain ⟨u3, gu3, h⟩ := o_bind h
    refine w_putI (j := 16) 16 hX CI_12 s_146 rfl fl_X12_80 rfl rfl rfl rfl dX12_end_16 ?_
    rw [Option.some.inj gu3]
    refine w_iconst 1 19 hX ic_1 dX12_end_19 ?_
    exact w_zret 20 hX hR (by decide) dX12_end_20 (by cases h; rfl)
  · have h := it h c2
    refine w_iconst 0 12 hX ic_0 dX12_end_12 ?_
    exact w_zret 13 hX hR (by decide) dX12_end_13 (by cases h; rfl))
def FX6_isLetter_b12 (l0 : Int32) : Option Int32 :=
  (if l0 < 65 then (some 0) else ((if 90 < l0 then (some 0) else (some 1))))
theorem bX6_isLetter_12 {G : Gt} {X : Xt} {v : Int32} {u : Mem} (hX : CxOk G X cX6_isLetter 1 RX6 (some (.int v), SH, RHO, u) 1) (hR : CxRet G X (some .boolean) (some (.int v), SH, RHO, u)) (l0 : Int32) (h : FX6_isLetter_b12 l0 = some v) : WM G X 12 [(0, .int l0)] [] SH RHO u := by
  unfold FX6_isLetter_b12 at h
  refine w_iload_n 0 12 hX rfl rfl dX6_isLetter_12 ?_
  refine w_bipush 65 13 hX ib_65 dX6_isLetter_13 ?_
  refine w_icmp_lt (tgt := 28) 15 hX dX6_isLetter_15 (by decide) (fun c1 => ?_) (fun c1 => ?_)
  · have h := it h c1
    refine w_iconst 0 28 hX ic_0 dX6_isLetter_28 ?_
    exact w_zret 29 hX hR (by decide) dX6_isLetter_29 (by cases h; rfl)
  · have h := ie h c1
    refine w_iload_n 0 18 hX rfl rfl dX6_isLetter_18 ?_
    refine w_bipush 90 19 hX ib_90 dX6_isLetter_19 ?_
    refine w_icmp_gt (tgt := 28) 21 hX dX6_isLetter_21 (by decide) (fun c2 => ?_) (fun c2 => ?_)
    · have h := it h c2
      refine w_iconst 0 28 hX ic_0 dX6_isLetter_28 ?_
      exact w_zret 29 hX hR (by decide) dX6_isLetter_29 (by cases h; rfl)
    · have h := ie h c2
      refine w_iconst 1 24 hX ic_1 dX6_isLetter_24 ?_
      refine w_goto (tgt := 29) 25 hX (by decide) dX6_isLetter_25 ?_
      exact w_zret 29 hX hR (by decide) dX6_isLetter_29 (by cases h; rfl)
def FX6_isLetter (p0 : Int32) : Option Int32 :=
  (if p0 < 97 then (FX6_isLetter_b12 p0) else ((if p0 ≤ 122 then (some 1) else (FX6_isLetter_b12 p0))))
theorem CX6_isLetter {G : Gt} (p0 : Int32) (u : Mem) {v : Int32} (h : FX6_isLetter p0 = some v) : CT G yX6_isLetter cX6_isLetter 1 (some .boolean) 1 [.int p0] SH RHO u (some (.int v), SH, RHO, u) :=
  ct_of (by decide) rfl (Nat.le_of_ble_eq_true rfl) (Nat.le_refl _) (Nat.le_refl _) (fun X hX hR => by
  unfold FX6_isLetter at h
  refine w_iload_n 0 0 hX rfl rfl dX6_isLetter_0 ?_
  refine w_bipush 97 1 hX ib_97 dX6_isLetter_1 ?_
  refine w_icmp_lt (tgt := 12) 3 hX dX6_isLetter_3 (by decide) (fun c1 => ?_) (fun c1 => ?_)
  · have h := it h c1
    exact bX6_isLetter_12 hX hR p0 h
  · have h := ie h c1
    refine w_iload_n 0 6 hX rfl rfl dX6_isLetter_6 ?_
    refine w_bipush 122 7 hX ib_122 dX6_isLetter_7 ?_
    refine w_icmp_le (tgt := 24) 9 hX dX6_isLetter_9 (by decide) (fun c2 => ?_) (fun c2 => ?_)
    · have h := it h c2
      refine w_iconst 1 24 hX ic_1 dX6_isLetter_24 ?_
      refine w_goto (tgt := 29) 25 hX (by decide) dX6_isLetter_25 ?_
      exact w_zret 29 hX hR (by decide) dX6_isLetter_29 (by cases h; rfl)
    · have h := ie h c2
      exact bX6_isLetter_12 hX hR p0 h)
def FX6_isDigit (p0 : Int32) : Option Int32 :=
  (if p0 < 48 then (some 0) else ((if 57 < p0 then (some 0) else (some 1))))
theorem CX6_isDigit {G : Gt} (p0 : Int32) (u : Mem) {v : Int32} (h : FX6_isDigit p0 = some v) : CT G yX6_isDigit cX6_isDigit 1 (some .boolean) 1 [.int p0] SH RHO u (some (.int v), SH, RHO, u) :=
  ct_of (by decide) rfl (Nat.le_of_ble_eq_true rfl) (Nat.le_refl _) (Nat.le_refl _) (fun X hX hR => by
  unfold FX6_isDigit at h
  refine w_iload_n 0 0 hX rfl rfl dX6_isDigit_0 ?_
  refine w_bipush 48 1 hX ib_48 dX6_isDigit_1 ?_
  refine w_icmp_lt (tgt := 16) 3 hX dX6_isDigit_3 (by decide) (fun c1 => ?_) (fun c1 => ?_)
  · have h := it h c1
    refine w_iconst 0 16 hX ic_0 dX6_isDigit_16 ?_
    exact w_zret 17 hX hR (by decide) dX6_isDigit_17 (by cases h; rfl)
  · have h := ie h c1
    refine w_iload_n 0 6 hX rfl rfl dX6_isDigit_6 ?_
    refine w_bipush 57 7 hX ib_57 dX6_isDigit_7 ?_
    refine w_icmp_gt (tgt := 16) 9 hX dX6_isDigit_9 (by decide) (fun c2 => ?_) (fun c2 => ?_)
    · have h := it h c2
      refine w_iconst 0 16 hX ic_0 dX6_isDigit_16 ?_
      exact w_zret 17 hX hR (by decide) dX6_isDigit_17 (by cases h; rfl)
    · have h := ie h c2
      refine w_iconst 1 12 hX ic_1 dX6_isDigit_12 ?_
      refine w_goto (tgt := 17) 13 hX (by decide) dX6_isDigit_13 ?_
      exact w_zret 17 hX hR (by decide) dX6_isDigit_17 (by cases h; rfl))
def FX6_endOfDigits_34_b36 (l3 : Int32) (u : Mem) : Option Int32 :=
  some l3
theorem bX6_endOfDigits_34_36 {G : Gt} {X : Xt} {v : Int32} {u : Mem} (hX : CxOk G X cX6_endOfDigits 4 RX6 (some (.int v), SH, RHO, u) 2) (hR : CxRet G X (some .int) (some (.int v), SH, RHO, u)) (l3 : Int32) (h : FX6_endOfDigits_34_b36 l3 u = some v) : WM G X 36 [(3, .int l3)] [] SH RHO u := by
  unfold FX6_endOfDigits_34_b36 at h
  refine w_iload_n 0 36 hX rfl rfl dX6_endOfDigits_36 ?_
  exact w_iret 37 hX hR dX6_endOfDigits_37 (by cases h; rfl)
def FX6_endOfDigits_34_b6 (k6 : Int32 → Int32 → Mem → Option Int32) (l2 l3 : Int32) (u : Mem) : Option Int32 :=
  (if l2 ≤ l3 then (FX6_endOfDigits_34_b36 l3 u) else ((if 400 ≤ l3 then (FX6_endOfDigits_34_b36 l3 u) else ((rdA u 35 400 l3).bind fun x3 => (FX6_isDigit x3).bind fun x4 => (if x4 = 0 then (FX6_endOfDigits_34_b36 l3 u) else (k6 l2 (l3 + 1) u))))))
theorem bX6_endOfDigits_34_6 {G : Gt} {X : Xt} {v : Int32} {u : Mem} (hX : CxOk G X cX6_endOfDigits 4 RX6 (some (.int v), SH, RHO, u) 2) (hR : CxRet G X (some .int) (some (.int v), SH, RHO, u)) {k6 : Int32 → Int32 → Mem → Option Int32} (hk6 : ∀ (l2 l3 : Int32), k6 l2 l3 u = some v → WM G X 6 [(0, .ref 34), (2, .int l2), (3, .int l3)] [] SH RHO u) (l2 l3 : Int32) (h : FX6_endOfDigits_34_b6 k6 l2 l3 u = some v) : WM G X 6 [(0, .ref 34), (2, .int l2), (3, .int l3)] [] SH RHO u := by
  unfold FX6_endOfDigits_34_b6 at h
  refine w_iload_n 2 6 hX rfl rfl dX6_endOfDigits_6 ?_
  refine w_iload_n 1 7 hX rfl rfl dX6_endOfDigits_7 ?_
  refine w_icmp_ge (tgt := 36) 8 hX dX6_endOfDigits_8 (by decide) (fun c1 => ?_) (fun c1 => ?_)
  · have h := it h c1
    exact w_sub [2] rfl (bX6_endOfDigits_34_36 hX hR l3 h)
  · have h := ie h c1
    refine w_iload_n 2 11 hX rfl rfl dX6_endOfDigits_11 ?_
    refine w_sipush 400 12 hX isp_400 dX6_endOfDigits_12 ?_
    refine w_icmp_ge (tgt := 36) 15 hX dX6_endOfDigits_15 (by decide) (fun c2 => ?_) (fun c2 => ?_)
    · have h := it h c2
      exact w_sub [2] rfl (bX6_endOfDigits_34_36 hX hR l3 h)
    · have h := ie h c2
      refine w_aload_n 0 18 hX rfl rfl dX6_endOfDigits_18 ?_
      refine w_getR 19 hX CI_6 s_34 rfl r_34_0 fl_X6_11 rfl dX6_endOfDigits_19 ?_
      refine w_iload_n 2 22 hX rfl rfl dX6_endOfDigits_22 ?_
      obtain ⟨x3, gx3, h⟩ := o_bind h
      refine w_iald 23 hX s_35 gx3 dX6_endOfDigits_23 ?_
      obtain ⟨x4, gx4, h⟩ := o_bind h
      refine w_invSi (av := [.int x3]) (st := []) 24 hX ms_yX6_isDigit mi_yX6_isDigit ml_X6_157 (CX6_isDigit x3 u gx4) rfl (by decide) (Nat.le_of_ble_eq_true rfl) (Nat.le_refl _) (Nat.le_refl _) dX6_endOfDigits_24 ?_
      refine w_if_eq (tgt := 36) 27 hX dX6_endOfDigits_27 (by decide) (fun c5 => ?_) (fun c5 => ?_)
      · have h := it h c5
        exact w_sub [2] rfl (bX6_endOfDigits_34_36 hX hR l3 h)
      · have h := ie h c5
        refine w_iinc (lv' := [(3, .int (l3 + 1)), (0, .ref 34), (2, .int l2)]) 30 2 hX dX6_endOfDigits_30 rfl (inc_1 _) (by decide) rfl ?_
        refine w_goto (tgt := 6) 33 hX (by decide) dX6_endOfDigits_33 ?_
        exact w_sub [1, 2, 0] rfl (hk6 l2 (l3 + 1) h)
def FX6_endOfDigits_34_L6 : Nat → Int32 → Int32 → Mem → Option Int32
  | 0, _, _, _ => none
  | n + 1, l2, l3, u => FX6_endOfDigits_34_b6 (FX6_endOfDigits_34_L6 n) l2 l3 u
theorem lX6_endOfDigits_34_6 {G : Gt} {X : Xt} {v : Int32} {u : Mem} (hX : CxOk G X cX6_endOfDigits 4 RX6 (some (.int v), SH, RHO, u) 2) (hR : CxRet G X (some .int) (some (.int v), SH, RHO, u)) : ∀ (n : Nat) (l2 l3 : Int32), FX6_endOfDigits_34_L6 n l2 l3 u = some v → WM G X 6 [(0, .ref 34), (2, .int l2), (3, .int l3)] [] SH RHO u := by
  intro n
  induction n with
  | zero =>
    intro l2 l3 h
    exact nn_ h
  | succ n ih =>
    intro l2 l3 h
    exact bX6_endOfDigits_34_6 hX hR ih l2 l3 h
def FX6_endOfDigits_34 (p1 p2 : Int32) (u : Mem) : Option Int32 :=
  FX6_endOfDigits_34_L6 FU p2 (if 0 < p1 then p1 else 0) u
theorem CX6_endOfDigits_34 {G : Gt} (p1 p2 : Int32) (u : Mem) {v : Int32} (h : FX6_endOfDigits_34 p1 p2 u = some v) : CT G yX6_endOfDigits cX6_endOfDigits 4 (some .int) 2 [.ref 34, .int p1, .int p2] SH RHO u (some (.int v), SH, RHO, u) :=
  ct_of (by decide) rfl (Nat.le_of_ble_eq_true rfl) (Nat.le_refl _) (Nat.le_refl _) (fun X hX hR => by
  unfold FX6_endOfDigits_34 at h
  refine w_iconst 0 0 hX ic_0 dX6_endOfDigits_0 ?_
  refine w_iload_n 1 1 hX rfl rfl dX6_endOfDigits_1 ?_
  refine w_max 2 hX ml_X6_174 jm_max_s jm_i jm_max_c (by decide) (Nat.le_of_ble_eq_true rfl) (Nat.le_refl _) (Nat.le_refl _) dX6_endOfDigits_2 ?_
  refine w_istore_n (lv' := [(3, .int (if 0 < p1 then p1 else 0)), (0, .ref 34), (1, .int p1), (2, .int p2)]) 5 hX rfl dX6_endOfDigits_5 (by decide) rfl ?_
  exact w_sub [1, 3, 0] rfl (lX6_endOfDigits_34_6 hX hR FU p2 (if 0 < p1 then p1 else 0) h))
def FX6_endOfWord_34_b36 (l3 : Int32) (u : Mem) : Option Int32 :=
  some l3
theorem bX6_endOfWord_34_36 {G : Gt} {X : Xt} {v : Int32} {u : Mem} (hX : CxOk G X cX6_endOfWord 4 RX6 (some (.int v), SH, RHO, u) 2) (hR : CxRet G X (some .int) (some (.int v), SH, RHO, u)) (l3 : Int32) (h : FX6_endOfWord_34_b36 l3 u = some v) : WM G X 36 [(3, .int l3)] [] SH RHO u := by
  unfold FX6_endOfWord_34_b36 at h
  refine w_iload_n 0 36 hX rfl rfl dX6_endOfWord_36 ?_
  exact w_iret 37 hX hR dX6_endOfWord_37 (by cases h; rfl)
def FX6_endOfWord_34_b6 (k6 : Int32 → Int32 → Mem → Option Int32) (l2 l3 : Int32) (u : Mem) : Option Int32 :=
  (if l2 ≤ l3 then (FX6_endOfWord_34_b36 l3 u) else ((if 400 ≤ l3 then (FX6_endOfWord_34_b36 l3 u) else ((rdA u 35 400 l3).bind fun x3 => (FX6_isLetter x3).bind fun x4 => (if x4 = 0 then (FX6_endOfWord_34_b36 l3 u) else (k6 l2 (l3 + 1) u))))))
theorem bX6_endOfWord_34_6 {G : Gt} {X : Xt} {v : Int32} {u : Mem} (hX : CxOk G X cX6_endOfWord 4 RX6 (some (.int v), SH, RHO, u) 2) (hR : CxRet G X (some .int) (some (.int v), SH, RHO, u)) {k6 : Int32 → Int32 → Mem → Option Int32} (hk6 : ∀ (l2 l3 : Int32), k6 l2 l3 u = some v → WM G X 6 [(0, .ref 34), (2, .int l2), (3, .int l3)] [] SH RHO u) (l2 l3 : Int32) (h : FX6_endOfWord_34_b6 k6 l2 l3 u = some v) : WM G X 6 [(0, .ref 34), (2, .int l2), (3, .int l3)] [] SH RHO u := by
  unfold FX6_endOfWord_34_b6 at h
  refine w_iload_n 2 6 hX rfl rfl dX6_endOfWord_6 ?_
  refine w_iload_n 1 7 hX rfl rfl dX6_endOfWord_7 ?_
  refine w_icmp_ge (tgt := 36) 8 hX dX6_endOfWord_8 (by decide) (fun c1 => ?_) (fun c1 => ?_)
  · have h := it h c1
    exact w_sub [2] rfl (bX6_endOfWord_34_36 hX hR l3 h)
  · have h := ie h c1
    refine w_iload_n 2 11 hX rfl rfl dX6_endOfWord_11 ?_
    refine w_sipush 400 12 hX isp_400 dX6_endOfWord_12 ?_
    refine w_icmp_ge (tgt := 36) 15 hX dX6_endOfWord_15 (by decide) (fun c2 => ?_) (fun c2 => ?_)
    · have h := it h c2
      exact w_sub [2] rfl (bX6_endOfWord_34_36 hX hR l3 h)
    · have h := ie h c2
      refine w_aload_n 0 18 hX rfl rfl dX6_endOfWord_18 ?_
      refine w_getR 19 hX CI_6 s_34 rfl r_34_0 fl_X6_11 rfl dX6_endOfWord_19 ?_
      refine w_iload_n 2 22 hX rfl rfl dX6_endOfWord_22 ?_
      obtain ⟨x3, gx3, h⟩ := o_bind h
      refine w_iald 23 hX s_35 gx3 dX6_endOfWord_23 ?_
      obtain ⟨x4, gx4, h⟩ := o_bind h
      refine w_invSi (av := [.int x3]) (st := []) 24 hX ms_yX6_isLetter mi_yX6_isLetter ml_X6_138 (CX6_isLetter x3 u gx4) rfl (by decide) (Nat.le_of_ble_eq_true rfl) (Nat.le_refl _) (Nat.le_refl _) dX6_endOfWord_24 ?_
      refine w_if_eq (tgt := 36) 27 hX dX6_endOfWord_27 (by decide) (fun c5 => ?_) (fun c5 => ?_)
      · have h := it h c5
        exact w_sub [2] rfl (bX6_endOfWord_34_36 hX hR l3 h)
      · have h := ie h c5
        refine w_iinc (lv' := [(3, .int (l3 + 1)), (0, .ref 34), (2, .int l2)]) 30 2 hX dX6_endOfWord_30 rfl (inc_1 _) (by decide) rfl ?_
        refine w_goto (tgt := 6) 33 hX (by decide) dX6_endOfWord_33 ?_
        exact w_sub [1, 2, 0] rfl (hk6 l2 (l3 + 1) h)
def FX6_endOfWord_34_L6 : Nat → Int32 → Int32 → Mem → Option Int32
  | 0, _, _, _ => none
  | n + 1, l2, l3, u => FX6_endOfWord_34_b6 (FX6_endOfWord_34_L6 n) l2 l3 u
theorem lX6_endOfWord_34_6 {G : Gt} {X : Xt} {v : Int32} {u : Mem} (hX : CxOk G X cX6_endOfWord 4 RX6 (some (.int v), SH, RHO, u) 2) (hR : CxRet G X (some .int) (some (.int v), SH, RHO, u)) : ∀ (n : Nat) (l2 l3 : Int32), FX6_endOfWord_34_L6 n l2 l3 u = some v → WM G X 6 [(0, .ref 34), (2, .int l2), (3, .int l3)] [] SH RHO u := by
  intro n
  induction n with
  | zero =>
    intro l2 l3 h
    exact nn_ h
  | succ n ih =>
    intro l2 l3 h
    exact bX6_endOfWord_34_6 hX hR ih l2 l3 h
def FX6_endOfWord_34 (p1 p2 : Int32) (u : Mem) : Option Int32 :=
  FX6_endOfWord_34_L6 FU p2 (if 0 < p1 then p1 else 0) u
theorem CX6_endOfWord_34 {G : Gt} (p1 p2 : Int32) (u : Mem) {v : Int32} (h : FX6_endOfWord_34 p1 p2 u = some v) : CT G yX6_endOfWord cX6_endOfWord 4 (some .int) 2 [.ref 34, .int p1, .int p2] SH RHO u (some (.int v), SH, RHO, u) :=
  ct_of (by decide) rfl (Nat.le_of_ble_eq_true rfl) (Nat.le_refl _) (Nat.le_refl _) (fun X hX hR => by
  unfold FX6_endOfWord_34 at h
  refine w_iconst 0 0 hX ic_0 dX6_endOfWord_0 ?_
  refine w_iload_n 1 1 hX rfl rfl dX6_endOfWord_1 ?_
  refine w_max 2 hX ml_X6_174 jm_max_s jm_i jm_max_c (by decide) (Nat.le_of_ble_eq_true rfl) (Nat.le_refl _) (Nat.le_refl _) dX6_endOfWord_2 ?_
  refine w_istore_n (lv' := [(3, .int (if 0 < p1 then p1 else 0)), (0, .ref 34), (1, .int p1), (2, .int p2)]) 5 hX rfl dX6_endOfWord_5 (by decide) rfl ?_
  exact w_sub [1, 3, 0] rfl (lX6_endOfWord_34_6 hX hR FU p2 (if 0 < p1 then p1 else 0) h))
def FX6_keywords (p0 : Int32) : Option Nat :=
  (if p0 = 0 then (some 5000) else ((if p0 = 1 then (some 5001) else ((if p0 = 2 then (some 5002) else (some 5003))))))
theorem CX6_keywords {G : Gt} (p0 : Int32) (u : Mem) {v : Nat} (h : FX6_keywords p0 = some v) : CT G yX6_keywords cX6_keywords 1 (some (.object "java/lang/String")) 1 [.int p0] SH RHO u (some (.ref v), SH, RHO, u) :=
  ct_of (by decide) rfl (Nat.le_of_ble_eq_true rfl) (Nat.le_refl _) (Nat.le_refl _) (fun X hX hR => by
  unfold FX6_keywords at h
  refine w_iload_n 0 0 hX rfl rfl dX6_keywords_0 ?_
  by_cases c1 : p0 = 0
  · have h := it h c1
    refine w_tabIn (tgt := 28) (off := 27) 1 hX dX6_keywords_1 (by rw [c1]; decide) (by rw [c1]; decide) (by rw [c1]; decide) (by decide) ?_
    refine w_ldcs 0 28 hX (by decide) rfl rfl dX6_keywords_28 ?_
    exact w_aret 30 hX hR (Or.inl ⟨_, rfl⟩) dX6_keywords_30 (by cases h; rfl)
  · have h := ie h c1
    by_cases c2 : p0 = 1
    · have h := it h c2
      refine w_tabIn (tgt := 31) (off := 30) 1 hX dX6_keywords_1 (by rw [c2]; decide) (by rw [c2]; decide) (by rw [c2]; decide) (by decide) ?_
      refine w_ldcs 1 31 hX (by decide) rfl rfl dX6_keywords_31 ?_
      exact w_aret 33 hX hR (Or.inl ⟨_, rfl⟩) dX6_keywords_33 (by cases h; rfl)
    · have h := ie h c2
      by_cases c3 : p0 = 2
      · have h := it h c3
        refine w_tabIn (tgt := 34) (off := 33) 1 hX dX6_keywords_1 (by rw [c3]; decide) (by rw [c3]; decide) (by rw [c3]; decide) (by decide) ?_
        refine w_ldcs 2 34 hX (by decide) rfl rfl dX6_keywords_34 ?_
        exact w_aret 36 hX hR (Or.inl ⟨_, rfl⟩) dX6_keywords_36 (by cases h; rfl)
      · have h := ie h c3
        have zc1 := lv_neT c1 (a := 0) (by decide)
        have zc2 := lv_neT c2 (a := 1) (by decide)
        have zc3 := lv_neT c3 (a := 2) (by decide)
        refine w_tabOut (tgt := 37) 1 hX dX6_keywords_1 (by omega) (by decide) ?_
        refine w_ldcs 3 37 hX (by decide) rfl rfl dX6_keywords_37 ?_
        exact w_aret 39 hX hR (Or.inl ⟨_, rfl⟩) dX6_keywords_39 (by cases h; rfl))
def FX6_same_34_5000_b38 (k3 : Int32 → Int32 → Int32 → Int32 → Mem → Option Int32) (l2 l3 l4 l5 t0 : Int32) (u : Mem) : Option Int32 :=
  (if t0 = 0 then (some 0) else ((S_chr 0 (l2 + l5)).bind fun x2 => (rdA u 35 400 (l3 + l5)).bind fun x3 => (if x2 = x3 then (k3 l2 l3 l4 (l5 + 1) u) else (some 0))))
theorem bX6_same_34_5000_38 {G : Gt} {X : Xt} {v : Int32} {u : Mem} (hX : CxOk G X cX6_same 7 RX6 (some (.int v), SH, RHO, u) 7) (hR : CxRet G X (some .boolean) (some (.int v), SH, RHO, u)) {k3 : Int32 → Int32 → Int32 → Int32 → Mem → Option Int32} (hk3 : ∀ (l2 l3 l4 l5 : Int32), k3 l2 l3 l4 l5 u = some v → WM G X 3 [(0, .ref 34), (1, .ref 5000), (2, .int l2), (3, .int l3), (4, .int l4), (5, .int l5)] [] SH RHO u) (l2 l3 l4 l5 t0 : Int32) (h : FX6_same_34_5000_b38 k3 l2 l3 l4 l5 t0 u = some v) : WM G X 38 [(0, .ref 34), (1, .ref 5000), (2, .int l2), (3, .int l3), (4, .int l4), (5, .int l5)] [.int t0] SH RHO u := by
  unfold FX6_same_34_5000_b38 at h
  refine w_istore (lv' := [(6, .int t0), (0, .ref 34), (1, .ref 5000), (2, .int l2), (3, .int l3), (4, .int l4), (5, .int l5)]) 38 hX dX6_same_38 (by decide) rfl ?_
  refine w_iload 0 40 hX rfl dX6_same_40 ?_
  refine w_if_eq (tgt := 65) 42 hX dX6_same_42 (by decide) (fun c1 => ?_) (fun c1 => ?_)
  · have h := it h c1
    refine w_iconst 0 65 hX ic_0 dX6_same_65 ?_
    exact w_zret 66 hX hR (by decide) dX6_same_66 (by cases h; rfl)
  · have h := ie h c1
    refine w_aload_n 2 45 hX rfl rfl dX6_same_45 ?_
    refine w_iload_n 3 46 hX rfl rfl dX6_same_46 ?_
    refine w_iload 6 47 hX rfl dX6_same_47 ?_
    refine w_iadd 49 hX dX6_same_49 ?_
    obtain ⟨x2, gx2, h⟩ := o_bind h
    refine w_S_chr (i := 0) (st := []) 50 hX ml_X6_180 gx2 (by decide) (by decide) (Nat.le_of_ble_eq_true rfl) dX6_same_50 ?_
    refine w_aload_n 1 53 hX rfl rfl dX6_same_53 ?_
    refine w_getR 54 hX CI_6 s_34 rfl r_34_0 fl_X6_11 rfl dX6_same_54 ?_
    refine w_iload_n 4 57 hX rfl rfl dX6_same_57 ?_
    refine w_iload 6 58 hX rfl dX6_same_58 ?_
    refine w_iadd 60 hX dX6_same_60 ?_
    obtain ⟨x3, gx3, h⟩ := o_bind h
    refine w_iald 61 hX s_35 gx3 dX6_same_61 ?_
    refine w_icmp_eq (tgt := 67) 62 hX dX6_same_62 (by decide) (fun c4 => ?_) (fun c4 => ?_)
    · have h := it h c4
      refine w_iinc (lv' := [(5, .int (l5 + 1)), (6, .int t0), (0, .ref 34), (1, .ref 5000), (2, .int l2), (3, .int l3), (4, .int l4)]) 67 6 hX dX6_same_67 rfl (inc_1 _) (by decide) rfl ?_
      refine w_goto (tgt := 3) 70 hX (by decide) dX6_same_70 ?_
      exact w_sub [2, 3, 4, 5, 6, 0] rfl (hk3 l2 l3 l4 (l5 + 1) h)
    · have h := ie h c4
      refine w_iconst 0 65 hX ic_0 dX6_same_65 ?_
      exact w_zret 66 hX hR (by decide) dX6_same_66 (by cases h; rfl)
def FX6_same_34_5000_b3 (k3 : Int32 → Int32 → Int32 → Int32 → Mem → Option Int32) (l2 l3 l4 l5 : Int32) (u : Mem) : Option Int32 :=
  (if l4 ≤ (l3 + l5) then (some 1) else ((S_len 0).bind fun x2 => (if x2 ≤ (l2 + l5) then (FX6_same_34_5000_b38 k3 l2 l3 l4 l5 0 u) else ((if 400 ≤ (l3 + l5) then (FX6_same_34_5000_b38 k3 l2 l3 l4 l5 0 u) else (FX6_same_34_5000_b38 k3 l2 l3 l4 l5 1 u))))))
theorem bX6_same_34_5000_3 {G : Gt} {X : Xt} {v : Int32} {u : Mem} (hX : CxOk G X cX6_same 7 RX6 (some (.int v), SH, RHO, u) 7) (hR : CxRet G X (some .boolean) (some (.int v), SH, RHO, u)) {k3 : Int32 → Int32 → Int32 → Int32 → Mem → Option Int32} (hk3 : ∀ (l2 l3 l4 l5 : Int32), k3 l2 l3 l4 l5 u = some v → WM G X 3 [(0, .ref 34), (1, .ref 5000), (2, .int l2), (3, .int l3), (4, .int l4), (5, .int l5)] [] SH RHO u) (l2 l3 l4 l5 : Int32) (h : FX6_same_34_5000_b3 k3 l2 l3 l4 l5 u = some v) : WM G X 3 [(0, .ref 34), (1, .ref 5000), (2, .int l2), (3, .int l3), (4, .int l4), (5, .int l5)] [] SH RHO u := by
  unfold FX6_same_34_5000_b3 at h
  refine w_iload_n 3 3 hX rfl rfl dX6_same_3 ?_
  refine w_iload 5 4 hX rfl dX6_same_4 ?_
  refine w_iadd 6 hX dX6_same_6 ?_
  refine w_iload 4 7 hX rfl dX6_same_7 ?_
  refine w_icmp_ge (tgt := 73) 9 hX dX6_same_9 (by decide) (fun c1 => ?_) (fun c1 => ?_)
  · have h := it h c1
    refine w_iconst 1 73 hX ic_1 dX6_same_73 ?_
    exact w_zret 74 hX hR (by decide) dX6_same_74 (by cases h; rfl)
  · have h := ie h c1
    refine w_iload_n 2 12 hX rfl rfl dX6_same_12 ?_
    refine w_iload 5 13 hX rfl dX6_same_13 ?_
    refine w_iadd 15 hX dX6_same_15 ?_
    refine w_aload_n 1 16 hX rfl rfl dX6_same_16 ?_
    obtain ⟨x2, gx2, h⟩ := o_bind h
    refine w_S_len (i := 0) (st := [.int (l2 + l5)]) 17 hX ml_X6_177 gx2 (by decide) (by decide) (Nat.le_of_ble_eq_true rfl) dX6_same_17 ?_
    refine w_icmp_ge (tgt := 37) 20 hX dX6_same_20 (by decide) (fun c3 => ?_) (fun c3 => ?_)
    · have h := it h c3
      refine w_iconst 0 37 hX ic_0 dX6_same_37 ?_
      exact bX6_same_34_5000_38 hX hR hk3 l2 l3 l4 l5 0 h
    · have h := ie h c3
      refine w_iload_n 3 23 hX rfl rfl dX6_same_23 ?_
      refine w_iload 5 24 hX rfl dX6_same_24 ?_
      refine w_iadd 26 hX dX6_same_26 ?_
      refine w_sipush 400 27 hX isp_400 dX6_same_27 ?_
      refine w_icmp_ge (tgt := 37) 30 hX dX6_same_30 (by decide) (fun c4 => ?_) (fun c4 => ?_)
      · have h := it h c4
        refine w_iconst 0 37 hX ic_0 dX6_same_37 ?_
        exact bX6_same_34_5000_38 hX hR hk3 l2 l3 l4 l5 0 h
      · have h := ie h c4
        refine w_iconst 1 33 hX ic_1 dX6_same_33 ?_
        refine w_goto (tgt := 38) 34 hX (by decide) dX6_same_34 ?_
        exact bX6_same_34_5000_38 hX hR hk3 l2 l3 l4 l5 1 h
def FX6_same_34_5000_L3 : Nat → Int32 → Int32 → Int32 → Int32 → Mem → Option Int32
  | 0, _, _, _, _, _ => none
  | n + 1, l2, l3, l4, l5, u => FX6_same_34_5000_b3 (FX6_same_34_5000_L3 n) l2 l3 l4 l5 u
theorem lX6_same_34_5000_3 {G : Gt} {X : Xt} {v : Int32} {u : Mem} (hX : CxOk G X cX6_same 7 RX6 (some (.int v), SH, RHO, u) 7) (hR : CxRet G X (some .boolean) (some (.int v), SH, RHO, u)) : ∀ (n : Nat) (l2 l3 l4 l5 : Int32), FX6_same_34_5000_L3 n l2 l3 l4 l5 u = some v → WM G X 3 [(0, .ref 34), (1, .ref 5000), (2, .int l2), (3, .int l3), (4, .int l4), (5, .int l5)] [] SH RHO u := by
  intro n
  induction n with
  | zero =>
    intro l2 l3 l4 l5 h
    exact nn_ h
  | succ n ih =>
    intro l2 l3 l4 l5 h
    exact bX6_same_34_5000_3 hX hR ih l2 l3 l4 l5 h
def FX6_same_34_5000 (p2 p3 p4 : Int32) (u : Mem) : Option Int32 :=
  FX6_same_34_5000_L3 FU p2 p3 p4 0 u
theorem CX6_same_34_5000 {G : Gt} (p2 p3 p4 : Int32) (u : Mem) {v : Int32} (h : FX6_same_34_5000 p2 p3 p4 u = some v) : CT G yX6_same cX6_same 7 (some .boolean) 7 [.ref 34, .ref 5000, .int p2, .int p3, .int p4] SH RHO u (some (.int v), SH, RHO, u) :=
  ct_of (by decide) rfl (Nat.le_of_ble_eq_true rfl) (Nat.le_refl _) (Nat.le_refl _) (fun X hX hR => by
  unfold FX6_same_34_5000 at h
  refine w_iconst 0 0 hX ic_0 dX6_same_0 ?_
  refine w_istore (lv' := [(5, .int 0), (0, .ref 34), (1, .ref 5000), (2, .int p2), (3, .int p3), (4, .int p4)]) 1 hX dX6_same_1 (by decide) rfl ?_
  exact w_sub [1, 2, 3, 4, 5, 0] rfl (lX6_same_34_5000_3 hX hR FU p2 p3 p4 0 h))
def FX6_keyword_34_5000_b73 (k9 : Int32 → Int32 → Int32 → Int32 → Int32 → Mem → Option Int32) (l2 l3 l4 l5 l6 : Int32) (u : Mem) : Option Int32 :=
  k9 l2 l3 l4 l5 (l6 + 1) u
theorem bX6_keyword_34_5000_73 {G : Gt} {X : Xt} {v : Int32} {u : Mem} (hX : CxOk G X cX6_keyword 7 RX6 (some (.int v), SH, RHO, u) 8) (hR : CxRet G X (some .int) (some (.int v), SH, RHO, u)) {k9 : Int32 → Int32 → Int32 → Int32 → Int32 → Mem → Option Int32} (hk9 : ∀ (l2 l3 l4 l5 l6 : Int32), k9 l2 l3 l4 l5 l6 u = some v → WM G X 9 [(0, .ref 34), (1, .ref 5000), (2, .int l2), (3, .int l3), (4, .int l4), (5, .int l5), (6, .int l6)] [] SH RHO u) (l2 l3 l4 l5 l6 : Int32) (h : FX6_keyword_34_5000_b73 k9 l2 l3 l4 l5 l6 u = some v) : WM G X 73 [(0, .ref 34), (1, .ref 5000), (2, .int l2), (3, .int l3), (4, .int l4), (5, .int l5), (6, .int l6)] [] SH RHO u := by
  unfold FX6_keyword_34_5000_b73 at h
  refine w_iinc (lv' := [(6, .int (l6 + 1)), (0, .ref 34), (1, .ref 5000), (2, .int l2), (3, .int l3), (4, .int l4), (5, .int l5)]) 73 6 hX dX6_keyword_73 rfl (inc_1 _) (by decide) rfl ?_
  refine w_goto (tgt := 9) 76 hX (by decide) dX6_keyword_76 ?_
  exact w_sub [1, 2, 3, 4, 5, 6, 0] rfl (hk9 l2 l3 l4 l5 (l6 + 1) h)
def FX6_keyword_34_5000_b64 (k9 : Int32 → Int32 → Int32 → Int32 → Int32 → Mem → Option Int32) (l2 l3 l4 l6 : Int32) (u : Mem) : Option Int32 :=
  FX6_keyword_34_5000_b73 k9 l2 l3 (l4 + 1) (l6 + 1) l6 u
theorem bX6_keyword_34_5000_64 {G : Gt} {X : Xt} {v : Int32} {u : Mem} (hX : CxOk G X cX6_keyword 7 RX6 (some (.int v), SH, RHO, u) 8) (hR : CxRet G X (some .int) (some (.int v), SH, RHO, u)) {k9 : Int32 → Int32 → Int32 → Int32 → Int32 → Mem → Option Int32} (hk9 : ∀ (l2 l3 l4 l5 l6 : Int32), k9 l2 l3 l4 l5 l6 u = some v → WM G X 9 [(0, .ref 34), (1, .ref 5000), (2, .int l2), (3, .int l3), (4, .int l4), (5, .int l5), (6, .int l6)] [] SH RHO u) (l2 l3 l4 l6 : Int32) (h : FX6_keyword_34_5000_b64 k9 l2 l3 l4 l6 u = some v) : WM G X 64 [(0, .ref 34), (1, .ref 5000), (2, .int l2), (3, .int l3), (4, .int l4), (6, .int l6)] [] SH RHO u := by
  unfold FX6_keyword_34_5000_b64 at h
  refine w_iinc (lv' := [(4, .int (l4 + 1)), (0, .ref 34), (1, .ref 5000), (2, .int l2), (3, .int l3), (6, .int l6)]) 64 4 hX dX6_keyword_64 rfl (inc_1 _) (by decide) rfl ?_
  refine w_iload 5 67 hX rfl dX6_keyword_67 ?_
  refine w_iconst 1 69 hX ic_1 dX6_keyword_69 ?_
  refine w_iadd 70 hX dX6_keyword_70 ?_
  refine w_istore (lv' := [(5, .int (l6 + 1)), (4, .int (l4 + 1)), (0, .ref 34), (1, .ref 5000), (2, .int l2), (3, .int l3), (6, .int l6)]) 71 hX dX6_keyword_71 (by decide) rfl ?_
  exact w_sub [2, 3, 4, 5, 1, 0, 6] rfl (bX6_keyword_34_5000_73 hX hR hk9 l2 l3 (l4 + 1) (l6 + 1) l6 h)
def FX6_keyword_34_5000_b38 (k9 : Int32 → Int32 → Int32 → Int32 → Int32 → Mem → Option Int32) (l2 l3 l4 l5 l6 : Int32) (u : Mem) : Option Int32 :=
  (if (l6 - l5) = (l3 - l2) then ((FX6_same_34_5000 l5 l2 l3 u).bind fun x2 => (if x2 = 0 then (FX6_keyword_34_5000_b64 k9 l2 l3 l4 l6 u) else (some l4))) else (FX6_keyword_34_5000_b64 k9 l2 l3 l4 l6 u))
theorem bX6_keyword_34_5000_38 {G : Gt} {X : Xt} {v : Int32} {u : Mem} (hX : CxOk G X cX6_keyword 7 RX6 (some (.int v), SH, RHO, u) 8) (hR : CxRet G X (some .int) (some (.int v), SH, RHO, u)) {k9 : Int32 → Int32 → Int32 → Int32 → Int32 → Mem → Option Int32} (hk9 : ∀ (l2 l3 l4 l5 l6 : Int32), k9 l2 l3 l4 l5 l6 u = some v → WM G X 9 [(0, .ref 34), (1, .ref 5000), (2, .int l2), (3, .int l3), (4, .int l4), (5, .int l5), (6, .int l6)] [] SH RHO u) (l2 l3 l4 l5 l6 : Int32) (h : FX6_keyword_34_5000_b38 k9 l2 l3 l4 l5 l6 u = some v) : WM G X 38 [(0, .ref 34), (1, .ref 5000), (2, .int l2), (3, .int l3), (4, .int l4), (5, .int l5), (6, .int l6)] [] SH RHO u := by
  unfold FX6_keyword_34_5000_b38 at h
  refine w_iload 6 38 hX rfl dX6_keyword_38 ?_
  refine w_iload 5 40 hX rfl dX6_keyword_40 ?_
  refine w_isub 42 hX dX6_keyword_42 ?_
  refine w_iload_n 3 43 hX rfl rfl dX6_keyword_43 ?_
  refine w_iload_n 2 44 hX rfl rfl dX6_keyword_44 ?_
  refine w_isub 45 hX dX6_keyword_45 ?_
  refine w_icmp_ne (tgt := 64) 46 hX dX6_keyword_46 (by decide) (fun c1 => ?_) (fun c1 => ?_)
  · have h := ie h c1
    exact w_sub [0, 1, 2, 3, 4, 6] rfl (bX6_keyword_34_5000_64 hX hR hk9 l2 l3 l4 l6 h)
  · have h := it h c1
    refine w_aload_n 0 49 hX rfl rfl dX6_keyword_49 ?_
    refine w_aload_n 1 50 hX rfl rfl dX6_keyword_50 ?_
    refine w_iload 5 51 hX rfl dX6_keyword_51 ?_
    refine w_iload_n 2 53 hX rfl rfl dX6_keyword_53 ?_
    refine w_iload_n 3 54 hX rfl rfl dX6_keyword_54 ?_
    obtain ⟨x2, gx2, h⟩ := o_bind h
    refine w_invVi (av := [.ref 5000, .int l5, .int l2, .int l3]) (st := []) 55 hX CI_6 s_34 rfl mv_yX6_same mi_yX6_same ml_X6_184 (CX6_same_34_5000 l5 l2 l3 u gx2) rfl (by decide) (Nat.le_of_ble_eq_true rfl) (Nat.le_refl _) (Nat.le_refl _) dX6_keyword_55 ?_
    refine w_if_eq (tgt := 64) 58 hX dX6_keyword_58 (by decide) (fun c3 => ?_) (fun c3 => ?_)
    · have h := it h c3
      exact w_sub [0, 1, 2, 3, 4, 6] rfl (bX6_keyword_34_5000_64 hX hR hk9 l2 l3 l4 l6 h)
    · have h := ie h c3
      refine w_iload 4 61 hX rfl dX6_keyword_61 ?_
      exact w_iret 63 hX hR dX6_keyword_63 (by cases h; rfl)
def FX6_keyword_34_5000_b9 (k9 : Int32 → Int32 → Int32 → Int32 → Int32 → Mem → Option Int32) (l2 l3 l4 l5 l6 : Int32) (u : Mem) : Option Int32 :=
  (S_len 0).bind fun x1 => (if x1 < l6 then (some (-1)) else ((S_len 0).bind fun x3 => (if l6 = x3 then (FX6_keyword_34_5000_b38 k9 l2 l3 l4 l5 l6 u) else ((S_chr 0 l6).bind fun x5 => (if x5 = 32 then (FX6_keyword_34_5000_b38 k9 l2 l3 l4 l5 l6 u) else (FX6_keyword_34_5000_b73 k9 l2 l3 l4 l5 l6 u))))))
theorem bX6_keyword_34_5000_9 {G : Gt} {X : Xt} {v : Int32} {u : Mem} (hX : CxOk G X cX6_keyword 7 RX6 (some (.int v), SH, RHO, u) 8) (hR : CxRet G X (some .int) (some (.int v), SH, RHO, u)) {k9 : Int32 → Int32 → Int32 → Int32 → Int32 → Mem → Option Int32} (hk9 : ∀ (l2 l3 l4 l5 l6 : Int32), k9 l2 l3 l4 l5 l6 u = some v → WM G X 9 [(0, .ref 34), (1, .ref 5000), (2, .int l2), (3, .int l3), (4, .int l4), (5, .int l5), (6, .int l6)] [] SH RHO u) (l2 l3 l4 l5 l6 : Int32) (h : FX6_keyword_34_5000_b9 k9 l2 l3 l4 l5 l6 u = some v) : WM G X 9 [(0, .ref 34), (1, .ref 5000), (2, .int l2), (3, .int l3), (4, .int l4), (5, .int l5), (6, .int l6)] [] SH RHO u := by
  unfold FX6_keyword_34_5000_b9 at h
  refine w_iload 6 9 hX rfl dX6_keyword_9 ?_
  refine w_aload_n 1 11 hX rfl rfl dX6_keyword_11 ?_
  obtain ⟨x1, gx1, h⟩ := o_bind h
  refine w_S_len (i := 0) (st := [.int l6]) 12 hX ml_X6_177 gx1 (by decide) (by decide) (Nat.le_of_ble_eq_true rfl) dX6_keyword_12 ?_
  refine w_icmp_gt (tgt := 79) 15 hX dX6_keyword_15 (by decide) (fun c2 => ?_) (fun c2 => ?_)
  · have h := it h c2
    refine w_iconst (-1) 79 hX ic_m1 dX6_keyword_79 ?_
    exact w_iret 80 hX hR dX6_keyword_80 (by cases h; rfl)
  · have h := ie h c2
    refine w_iload 6 18 hX rfl dX6_keyword_18 ?_
    refine w_aload_n 1 20 hX rfl rfl dX6_keyword_20 ?_
    obtain ⟨x3, gx3, h⟩ := o_bind h
    refine w_S_len (i := 0) (st := [.int l6]) 21 hX ml_X6_177 gx3 (by decide) (by decide) (Nat.le_of_ble_eq_true rfl) dX6_keyword_21 ?_
    refine w_icmp_eq (tgt := 38) 24 hX dX6_keyword_24 (by decide) (fun c4 => ?_) (fun c4 => ?_)
    · have h := it h c4
      exact bX6_keyword_34_5000_38 hX hR hk9 l2 l3 l4 l5 l6 h
    · have h := ie h c4
      refine w_aload_n 1 27 hX rfl rfl dX6_keyword_27 ?_
      refine w_iload 6 28 hX rfl dX6_keyword_28 ?_
      obtain ⟨x5, gx5, h⟩ := o_bind h
      refine w_S_chr (i := 0) (st := []) 30 hX ml_X6_180 gx5 (by decide) (by decide) (Nat.le_of_ble_eq_true rfl) dX6_keyword_30 ?_
      refine w_bipush 32 33 hX ib_32 dX6_keyword_33 ?_
      refine w_icmp_ne (tgt := 73) 35 hX dX6_keyword_35 (by decide) (fun c6 => ?_) (fun c6 => ?_)
      · have h := ie h c6
        exact bX6_keyword_34_5000_73 hX hR hk9 l2 l3 l4 l5 l6 h
      · have h := it h c6
        exact bX6_keyword_34_5000_38 hX hR hk9 l2 l3 l4 l5 l6 h
def FX6_keyword_34_5000_L9 : Nat → Int32 → Int32 → Int32 → Int32 → Int32 → Mem → Option Int32
  | 0, _, _, _, _, _, _ => none
  | n + 1, l2, l3, l4, l5, l6, u => FX6_keyword_34_5000_b9 (FX6_keyword_34_5000_L9 n) l2 l3 l4 l5 l6 u
theorem lX6_keyword_34_5000_9 {G : Gt} {X : Xt} {v : Int32} {u : Mem} (hX : CxOk G X cX6_keyword 7 RX6 (some (.int v), SH, RHO, u) 8) (hR : CxRet G X (some .int) (some (.int v), SH, RHO, u)) : ∀ (n : Nat) (l2 l3 l4 l5 l6 : Int32), FX6_keyword_34_5000_L9 n l2 l3 l4 l5 l6 u = some v → WM G X 9 [(0, .ref 34), (1, .ref 5000), (2, .int l2), (3, .int l3), (4, .int l4), (5, .int l5), (6, .int l6)] [] SH RHO u := by
  intro n
  induction n with
  | zero =>
    intro l2 l3 l4 l5 l6 h
    exact nn_ h
  | succ n ih =>
    intro l2 l3 l4 l5 l6 h
    exact bX6_keyword_34_5000_9 hX hR ih l2 l3 l4 l5 l6 h
def FX6_keyword_34_5000 (p2 p3 : Int32) (u : Mem) : Option Int32 :=
  FX6_keyword_34_5000_L9 FU p2 p3 0 0 0 u
theorem CX6_keyword_34_5000 {G : Gt} (p2 p3 : Int32) (u : Mem) {v : Int32} (h : FX6_keyword_34_5000 p2 p3 u = some v) : CT G yX6_keyword cX6_keyword 7 (some .int) 8 [.ref 34, .ref 5000, .int p2, .int p3] SH RHO u (some (.int v), SH, RHO, u) :=
  ct_of (by decide) rfl (Nat.le_of_ble_eq_true rfl) (Nat.le_refl _) (Nat.le_refl _) (fun X hX hR => by
  unfold FX6_keyword_34_5000 at h
  refine w_iconst 0 0 hX ic_0 dX6_keyword_0 ?_
  refine w_istore (lv' := [(4, .int 0), (0, .ref 34), (1, .ref 5000), (2, .int p2), (3, .int p3)]) 1 hX dX6_keyword_1 (by decide) rfl ?_
  refine w_iconst 0 3 hX ic_0 dX6_keyword_3 ?_
  refine w_istore (lv' := [(5, .int 0), (4, .int 0), (0, .ref 34), (1, .ref 5000), (2, .int p2), (3, .int p3)]) 4 hX dX6_keyword_4 (by decide) rfl ?_
  refine w_iconst 0 6 hX ic_0 dX6_keyword_6 ?_
  refine w_istore (lv' := [(6, .int 0), (5, .int 0), (4, .int 0), (0, .ref 34), (1, .ref 5000), (2, .int p2), (3, .int p3)]) 7 hX dX6_keyword_7 (by decide) rfl ?_
  exact w_sub [3, 4, 5, 6, 2, 1, 0] rfl (lX6_keyword_34_5000_9 hX hR FU p2 p3 0 0 0 h))
def FX6_token_34 (p1 p2 p3 : Int32) (u : Mem) : Option Mem :=
  (if (u 34 8) < 0 then (some u) else ((if 401 ≤ (u 34 8) then (some u) else ((wrA u 36 401 (u 34 8) p1).bind fun u3 => (wrA u3 37 401 (u3 34 8) p2).bind fun u4 => (wrA u4 38 401 (u4 34 8) p3).bind fun u5 => (some (mupd u5 34 8 ((u5 34 8) + 1))).bind fun u6 => some u6))))
theorem CX6_token_34 {G : Gt} (p1 p2 p3 : Int32) (u : Mem) {u' : Mem} (h : FX6_token_34 p1 p2 p3 u = some u') : CT G yX6_token cX6_token 4 none 1 [.ref 34, .int p1, .int p2, .int p3] SH RHO u (none, SH, RHO, u') :=
  ct_of (by decide) rfl (Nat.le_of_ble_eq_true rfl) (Nat.le_refl _) (Nat.le_refl _) (fun X hX hR => by
  unfold FX6_token_34 at h
  refine w_aload_n 0 0 hX rfl rfl dX6_token_0 ?_
  refine w_getI (j := 8) 1 hX CI_6 s_34 rfl fl_X6_135 rfl dX6_token_1 ?_
  refine w_if_lt (tgt := 59) 4 hX dX6_token_4 (by decide) (fun c1 => ?_) (fun c1 => ?_)
  · have h := it h c1
    exact w_vret 59 hX hR dX6_token_59 (by cases h; rfl)
  · have h := ie h c1
    refine w_aload_n 0 7 hX rfl rfl dX6_token_7 ?_
    refine w_getI (j := 8) 8 hX CI_6 s_34 rfl fl_X6_135 rfl dX6_token_8 ?_
    refine w_aload_n 0 11 hX rfl rfl dX6_token_11 ?_
    refine w_getR 12 hX CI_6 s_34 rfl r_34_1 fl_X6_15 rfl dX6_token_12 ?_
    refine w_alen 401 15 hX s_36 (by decide) dX6_token_15 ?_
    refine w_icmp_ge (tgt := 59) 16 hX dX6_token_16 (by decide) (fun c2 => ?_) (fun c2 => ?_)
    · have h := it h c2
      exact w_vret 59 hX hR dX6_token_59 (by cases h; rfl)
    · have h := ie h c2
      refine w_aload_n 0 19 hX rfl rfl dX6_token_19 ?_
      refine w_getR 20 hX CI_6 s_34 rfl r_34_1 fl_X6_15 rfl dX6_token_20 ?_
      refine w_aload_n 0 23 hX rfl rfl dX6_token_23 ?_
      refine w_getI (j := 8) 24 hX CI_6 s_34 rfl fl_X6_135 rfl dX6_token_24 ?_
      refine w_iload_n 1 27 hX rfl rfl dX6_token_27 ?_
      obtain ⟨u3, gu3, h⟩ := o_bind h
      refine w_iast 28 hX s_36 gu3 dX6_token_28 ?_
      refine w_aload_n 0 29 hX rfl rfl dX6_token_29 ?_
      refine w_getR 30 hX CI_6 s_34 rfl r_34_2 fl_X6_18 rfl dX6_token_30 ?_
      refine w_aload_n 0 33 hX rfl rfl dX6_token_33 ?_
      refine w_getI (j := 8) 34 hX CI_6 s_34 rfl fl_X6_135 rfl dX6_token_34 ?_
      refine w_iload_n 2 37 hX rfl rfl dX6_token_37 ?_
      obtain ⟨u4, gu4, h⟩ := o_bind h
      refine w_iast 38 hX s_37 gu4 dX6_token_38 ?_
      refine w_aload_n 0 39 hX rfl rfl dX6_token_39 ?_
      refine w_getR 40 hX CI_6 s_34 rfl r_34_3 fl_X6_21 rfl dX6_token_40 ?_
      refine w_aload_n 0 43 hX rfl rfl dX6_token_43 ?_
      refine w_getI (j := 8) 44 hX CI_6 s_34 rfl fl_X6_135 rfl dX6_token_44 ?_
      refine w_iload_n 3 47 hX rfl rfl dX6_token_47 ?_
      obtain ⟨u5, gu5, h⟩ := o_bind h
      refine w_iast 48 hX s_38 gu5 dX6_token_48 ?_
      refine w_aload_n 0 49 hX rfl rfl dX6_token_49 ?_
      refine w_dup 50 hX rfl dX6_token_50 ?_
      refine w_getI (j := 8) 51 hX CI_6 s_34 rfl fl_X6_135 rfl dX6_token_51 ?_
      refine w_iconst 1 54 hX ic_1 dX6_token_54 ?_
      refine w_iadd 55 hX dX6_token_55 ?_
      obtain ⟨u6, gu6, h⟩ := o_bind h
      refine w_putI (j := 8) 56 hX CI_6 s_34 rfl fl_X6_135 rfl rfl rfl rfl dX6_token_56 ?_
      rw [Option.some.inj gu6]
      exact w_vret 59 hX hR dX6_token_59 (by cases h; rfl))
def FX6_same_34_5001_b38 (k3 : Int32 → Int32 → Int32 → Int32 → Mem → Option Int32) (l2 l3 l4 l5 t0 : Int32) (u : Mem) : Option Int32 :=
  (if t0 = 0 then (some 0) else ((S_chr 1 (l2 + l5)).bind fun x2 => (rdA u 35 400 (l3 + l5)).bind fun x3 => (if x2 = x3 then (k3 l2 l3 l4 (l5 + 1) u) else (some 0))))
theorem bX6_same_34_5001_38 {G : Gt} {X : Xt} {v : Int32} {u : Mem} (hX : CxOk G X cX6_same 7 RX6 (some (.int v), SH, RHO, u) 7) (hR : CxRet G X (some .boolean) (some (.int v), SH, RHO, u)) {k3 : Int32 → Int32 → Int32 → Int32 → Mem → Option Int32} (hk3 : ∀ (l2 l3 l4 l5 : Int32), k3 l2 l3 l4 l5 u = some v → WM G X 3 [(0, .ref 34), (1, .ref 5001), (2, .int l2), (3, .int l3), (4, .int l4), (5, .int l5)] [] SH RHO u) (l2 l3 l4 l5 t0 : Int32) (h : FX6_same_34_5001_b38 k3 l2 l3 l4 l5 t0 u = some v) : WM G X 38 [(0, .ref 34), (1, .ref 5001), (2, .int l2), (3, .int l3), (4, .int l4), (5, .int l5)] [.int t0] SH RHO u := by
  unfold FX6_same_34_5001_b38 at h
  refine w_istore (lv' := [(6, .int t0), (0, .ref 34), (1, .ref 5001), (2, .int l2), (3, .int l3), (4, .int l4), (5, .int l5)]) 38 hX dX6_same_38 (by decide) rfl ?_
  refine w_iload 0 40 hX rfl dX6_same_40 ?_
  refine w_if_eq (tgt := 65) 42 hX dX6_same_42 (by decide) (fun c1 => ?_) (fun c1 => ?_)
  · have h := it h c1
    refine w_iconst 0 65 hX ic_0 dX6_same_65 ?_
    exact w_zret 66 hX hR (by decide) dX6_same_66 (by cases h; rfl)
  · have h := ie h c1
    refine w_aload_n 2 45 hX rfl rfl dX6_same_45 ?_
    refine w_iload_n 3 46 hX rfl rfl dX6_same_46 ?_
    refine w_iload 6 47 hX rfl dX6_same_47 ?_
    refine w_iadd 49 hX dX6_same_49 ?_
    obtain ⟨x2, gx2, h⟩ := o_bind h
    refine w_S_chr (i := 1) (st := []) 50 hX ml_X6_180 gx2 (by decide) (by decide) (Nat.le_of_ble_eq_true rfl) dX6_same_50 ?_
    refine w_aload_n 1 53 hX rfl rfl dX6_same_53 ?_
    refine w_getR 54 hX CI_6 s_34 rfl r_34_0 fl_X6_11 rfl dX6_same_54 ?_
    refine w_iload_n 4 57 hX rfl rfl dX6_same_57 ?_
    refine w_iload 6 58 hX rfl dX6_same_58 ?_
    refine w_iadd 60 hX dX6_same_60 ?_
    obtain ⟨x3, gx3, h⟩ := o_bind h
    refine w_iald 61 hX s_35 gx3 dX6_same_61 ?_
    refine w_icmp_eq (tgt := 67) 62 hX dX6_same_62 (by decide) (fun c4 => ?_) (fun c4 => ?_)
    · have h := it h c4
      refine w_iinc (lv' := [(5, .int (l5 + 1)), (6, .int t0), (0, .ref 34), (1, .ref 5001), (2, .int l2), (3, .int l3), (4, .int l4)]) 67 6 hX dX6_same_67 rfl (inc_1 _) (by decide) rfl ?_
      refine w_goto (tgt := 3) 70 hX (by decide) dX6_same_70 ?_
      exact w_sub [2, 3, 4, 5, 6, 0] rfl (hk3 l2 l3 l4 (l5 + 1) h)
    · have h := ie h c4
      refine w_iconst 0 65 hX ic_0 dX6_same_65 ?_
      exact w_zret 66 hX hR (by decide) dX6_same_66 (by cases h; rfl)
def FX6_same_34_5001_b3 (k3 : Int32 → Int32 → Int32 → Int32 → Mem → Option Int32) (l2 l3 l4 l5 : Int32) (u : Mem) : Option Int32 :=
  (if l4 ≤ (l3 + l5) then (some 1) else ((S_len 1).bind fun x2 => (if x2 ≤ (l2 + l5) then (FX6_same_34_5001_b38 k3 l2 l3 l4 l5 0 u) else ((if 400 ≤ (l3 + l5) then (FX6_same_34_5001_b38 k3 l2 l3 l4 l5 0 u) else (FX6_same_34_5001_b38 k3 l2 l3 l4 l5 1 u))))))
theorem bX6_same_34_5001_3 {G : Gt} {X : Xt} {v : Int32} {u : Mem} (hX : CxOk G X cX6_same 7 RX6 (some (.int v), SH, RHO, u) 7) (hR : CxRet G X (some .boolean) (some (.int v), SH, RHO, u)) {k3 : Int32 → Int32 → Int32 → Int32 → Mem → Option Int32} (hk3 : ∀ (l2 l3 l4 l5 : Int32), k3 l2 l3 l4 l5 u = some v → WM G X 3 [(0, .ref 34), (1, .ref 5001), (2, .int l2), (3, .int l3), (4, .int l4), (5, .int l5)] [] SH RHO u) (l2 l3 l4 l5 : Int32) (h : FX6_same_34_5001_b3 k3 l2 l3 l4 l5 u = some v) : WM G X 3 [(0, .ref 34), (1, .ref 5001), (2, .int l2), (3, .int l3), (4, .int l4), (5, .int l5)] [] SH RHO u := by
  unfold FX6_same_34_5001_b3 at h
  refine w_iload_n 3 3 hX rfl rfl dX6_same_3 ?_
  refine w_iload 5 4 hX rfl dX6_same_4 ?_
  refine w_iadd 6 hX dX6_same_6 ?_
  refine w_iload 4 7 hX rfl dX6_same_7 ?_
  refine w_icmp_ge (tgt := 73) 9 hX dX6_same_9 (by decide) (fun c1 => ?_) (fun c1 => ?_)
  · have h := it h c1
    refine w_iconst 1 73 hX ic_1 dX6_same_73 ?_
    exact w_zret 74 hX hR (by decide) dX6_same_74 (by cases h; rfl)
  · have h := ie h c1
    refine w_iload_n 2 12 hX rfl rfl dX6_same_12 ?_
    refine w_iload 5 13 hX rfl dX6_same_13 ?_
    refine w_iadd 15 hX dX6_same_15 ?_
    refine w_aload_n 1 16 hX rfl rfl dX6_same_16 ?_
    obtain ⟨x2, gx2, h⟩ := o_bind h
    refine w_S_len (i := 1) (st := [.int (l2 + l5)]) 17 hX ml_X6_177 gx2 (by decide) (by decide) (Nat.le_of_ble_eq_true rfl) dX6_same_17 ?_
    refine w_icmp_ge (tgt := 37) 20 hX dX6_same_20 (by decide) (fun c3 => ?_) (fun c3 => ?_)
    · have h := it h c3
      refine w_iconst 0 37 hX ic_0 dX6_same_37 ?_
      exact bX6_same_34_5001_38 hX hR hk3 l2 l3 l4 l5 0 h
    · have h := ie h c3
      refine w_iload_n 3 23 hX rfl rfl dX6_same_23 ?_
      refine w_iload 5 24 hX rfl dX6_same_24 ?_
      refine w_iadd 26 hX dX6_same_26 ?_
      refine w_sipush 400 27 hX isp_400 dX6_same_27 ?_
      refine w_icmp_ge (tgt := 37) 30 hX dX6_same_30 (by decide) (fun c4 => ?_) (fun c4 => ?_)
      · have h := it h c4
        refine w_iconst 0 37 hX ic_0 dX6_same_37 ?_
        exact bX6_same_34_5001_38 hX hR hk3 l2 l3 l4 l5 0 h
      · have h := ie h c4
        refine w_iconst 1 33 hX ic_1 dX6_same_33 ?_
        refine w_goto (tgt := 38) 34 hX (by decide) dX6_same_34 ?_
        exact bX6_same_34_5001_38 hX hR hk3 l2 l3 l4 l5 1 h
def FX6_same_34_5001_L3 : Nat → Int32 → Int32 → Int32 → Int32 → Mem → Option Int32
  | 0, _, _, _, _, _ => none
  | n + 1, l2, l3, l4, l5, u => FX6_same_34_5001_b3 (FX6_same_34_5001_L3 n) l2 l3 l4 l5 u
theorem lX6_same_34_5001_3 {G : Gt} {X : Xt} {v : Int32} {u : Mem} (hX : CxOk G X cX6_same 7 RX6 (some (.int v), SH, RHO, u) 7) (hR : CxRet G X (some .boolean) (some (.int v), SH, RHO, u)) : ∀ (n : Nat) (l2 l3 l4 l5 : Int32), FX6_same_34_5001_L3 n l2 l3 l4 l5 u = some v → WM G X 3 [(0, .ref 34), (1, .ref 5001), (2, .int l2), (3, .int l3), (4, .int l4), (5, .int l5)] [] SH RHO u := by
  intro n
  induction n with
  | zero =>
    intro l2 l3 l4 l5 h
    exact nn_ h
  | succ n ih =>
    intro l2 l3 l4 l5 h
    exact bX6_same_34_5001_3 hX hR ih l2 l3 l4 l5 h
def FX6_same_34_5001 (p2 p3 p4 : Int32) (u : Mem) : Option Int32 :=
  FX6_same_34_5001_L3 FU p2 p3 p4 0 u
theorem CX6_same_34_5001 {G : Gt} (p2 p3 p4 : Int32) (u : Mem) {v : Int32} (h : FX6_same_34_5001 p2 p3 p4 u = some v) : CT G yX6_same cX6_same 7 (some .boolean) 7 [.ref 34, .ref 5001, .int p2, .int p3, .int p4] SH RHO u (some (.int v), SH, RHO, u) :=
  ct_of (by decide) rfl (Nat.le_of_ble_eq_true rfl) (Nat.le_refl _) (Nat.le_refl _) (fun X hX hR => by
  unfold FX6_same_34_5001 at h
  refine w_iconst 0 0 hX ic_0 dX6_same_0 ?_
  refine w_istore (lv' := [(5, .int 0), (0, .ref 34), (1, .ref 5001), (2, .int p2), (3, .int p3), (4, .int p4)]) 1 hX dX6_same_1 (by decide) rfl ?_
  exact w_sub [1, 2, 3, 4, 5, 0] rfl (lX6_same_34_5001_3 hX hR FU p2 p3 p4 0 h))
def FX6_keyword_34_5001_b73 (k9 : Int32 → Int32 → Int32 → Int32 → Int32 → Mem → Option Int32) (l2 l3 l4 l5 l6 : Int32) (u : Mem) : Option Int32 :=
  k9 l2 l3 l4 l5 (l6 + 1) u
theorem bX6_keyword_34_5001_73 {G : Gt} {X : Xt} {v : Int32} {u : Mem} (hX : CxOk G X cX6_keyword 7 RX6 (some (.int v), SH, RHO, u) 8) (hR : CxRet G X (some .int) (some (.int v), SH, RHO, u)) {k9 : Int32 → Int32 → Int32 → Int32 → Int32 → Mem → Option Int32} (hk9 : ∀ (l2 l3 l4 l5 l6 : Int32), k9 l2 l3 l4 l5 l6 u = some v → WM G X 9 [(0, .ref 34), (1, .ref 5001), (2, .int l2), (3, .int l3), (4, .int l4), (5, .int l5), (6, .int l6)] [] SH RHO u) (l2 l3 l4 l5 l6 : Int32) (h : FX6_keyword_34_5001_b73 k9 l2 l3 l4 l5 l6 u = some v) : WM G X 73 [(0, .ref 34), (1, .ref 5001), (2, .int l2), (3, .int l3), (4, .int l4), (5, .int l5), (6, .int l6)] [] SH RHO u := by
  unfold FX6_keyword_34_5001_b73 at h
  refine w_iinc (lv' := [(6, .int (l6 + 1)), (0, .ref 34), (1, .ref 5001), (2, .int l2), (3, .int l3), (4, .int l4), (5, .int l5)]) 73 6 hX dX6_keyword_73 rfl (inc_1 _) (by decide) rfl ?_
  refine w_goto (tgt := 9) 76 hX (by decide) dX6_keyword_76 ?_
  exact w_sub [1, 2, 3, 4, 5, 6, 0] rfl (hk9 l2 l3 l4 l5 (l6 + 1) h)
def FX6_keyword_34_5001_b64 (k9 : Int32 → Int32 → Int32 → Int32 → Int32 → Mem → Option Int32) (l2 l3 l4 l6 : Int32) (u : Mem) : Option Int32 :=
  FX6_keyword_34_5001_b73 k9 l2 l3 (l4 + 1) (l6 + 1) l6 u
theorem bX6_keyword_34_5001_64 {G : Gt} {X : Xt} {v : Int32} {u : Mem} (hX : CxOk G X cX6_keyword 7 RX6 (some (.int v), SH, RHO, u) 8) (hR : CxRet G X (some .int) (some (.int v), SH, RHO, u)) {k9 : Int32 → Int32 → Int32 → Int32 → Int32 → Mem → Option Int32} (hk9 : ∀ (l2 l3 l4 l5 l6 : Int32), k9 l2 l3 l4 l5 l6 u = some v → WM G X 9 [(0, .ref 34), (1, .ref 5001), (2, .int l2), (3, .int l3), (4, .int l4), (5, .int l5), (6, .int l6)] [] SH RHO u) (l2 l3 l4 l6 : Int32) (h : FX6_keyword_34_5001_b64 k9 l2 l3 l4 l6 u = some v) : WM G X 64 [(0, .ref 34), (1, .ref 5001), (2, .int l2), (3, .int l3), (4, .int l4), (6, .int l6)] [] SH RHO u := by
  unfold FX6_keyword_34_5001_b64 at h
  refine w_iinc (lv' := [(4, .int (l4 + 1)), (0, .ref 34), (1, .ref 5001), (2, .int l2), (3, .int l3), (6, .int l6)]) 64 4 hX dX6_keyword_64 rfl (inc_1 _) (by decide) rfl ?_
  refine w_iload 5 67 hX rfl dX6_keyword_67 ?_
  refine w_iconst 1 69 hX ic_1 dX6_keyword_69 ?_
  refine w_iadd 70 hX dX6_keyword_70 ?_
  refine w_istore (lv' := [(5, .int (l6 + 1)), (4, .int (l4 + 1)), (0, .ref 34), (1, .ref 5001), (2, .int l2), (3, .int l3), (6, .int l6)]) 71 hX dX6_keyword_71 (by decide) rfl ?_
  exact w_sub [2, 3, 4, 5, 1, 0, 6] rfl (bX6_keyword_34_5001_73 hX hR hk9 l2 l3 (l4 + 1) (l6 + 1) l6 h)
def FX6_keyword_34_5001_b38 (k9 : Int32 → Int32 → Int32 → Int32 → Int32 → Mem → Option Int32) (l2 l3 l4 l5 l6 : Int32) (u : Mem) : Option Int32 :=
  (if (l6 - l5) = (l3 - l2) then ((FX6_same_34_5001 l5 l2 l3 u).bind fun x2 => (if x2 = 0 then (FX6_keyword_34_5001_b64 k9 l2 l3 l4 l6 u) else (some l4))) else (FX6_keyword_34_5001_b64 k9 l2 l3 l4 l6 u))
theorem bX6_keyword_34_5001_38 {G : Gt} {X : Xt} {v : Int32} {u : Mem} (hX : CxOk G X cX6_keyword 7 RX6 (some (.int v), SH, RHO, u) 8) (hR : CxRet G X (some .int) (some (.int v), SH, RHO, u)) {k9 : Int32 → Int32 → Int32 → Int32 → Int32 → Mem → Option Int32} (hk9 : ∀ (l2 l3 l4 l5 l6 : Int32), k9 l2 l3 l4 l5 l6 u = some v → WM G X 9 [(0, .ref 34), (1, .ref 5001), (2, .int l2), (3, .int l3), (4, .int l4), (5, .int l5), (6, .int l6)] [] SH RHO u) (l2 l3 l4 l5 l6 : Int32) (h : FX6_keyword_34_5001_b38 k9 l2 l3 l4 l5 l6 u = some v) : WM G X 38 [(0, .ref 34), (1, .ref 5001), (2, .int l2), (3, .int l3), (4, .int l4), (5, .int l5), (6, .int l6)] [] SH RHO u := by
  unfold FX6_keyword_34_5001_b38 at h
  refine w_iload 6 38 hX rfl dX6_keyword_38 ?_
  refine w_iload 5 40 hX rfl dX6_keyword_40 ?_
  refine w_isub 42 hX dX6_keyword_42 ?_
  refine w_iload_n 3 43 hX rfl rfl dX6_keyword_43 ?_
  refine w_iload_n 2 44 hX rfl rfl dX6_keyword_44 ?_
  refine w_isub 45 hX dX6_keyword_45 ?_
  refine w_icmp_ne (tgt := 64) 46 hX dX6_keyword_46 (by decide) (fun c1 => ?_) (fun c1 => ?_)
  · have h := ie h c1
    exact w_sub [0, 1, 2, 3, 4, 6] rfl (bX6_keyword_34_5001_64 hX hR hk9 l2 l3 l4 l6 h)
  · have h := it h c1
    refine w_aload_n 0 49 hX rfl rfl dX6_keyword_49 ?_
    refine w_aload_n 1 50 hX rfl rfl dX6_keyword_50 ?_
    refine w_iload 5 51 hX rfl dX6_keyword_51 ?_
    refine w_iload_n 2 53 hX rfl rfl dX6_keyword_53 ?_
    refine w_iload_n 3 54 hX rfl rfl dX6_keyword_54 ?_
    obtain ⟨x2, gx2, h⟩ := o_bind h
    refine w_invVi (av := [.ref 5001, .int l5, .int l2, .int l3]) (st := []) 55 hX CI_6 s_34 rfl mv_yX6_same mi_yX6_same ml_X6_184 (CX6_same_34_5001 l5 l2 l3 u gx2) rfl (by decide) (Nat.le_of_ble_eq_true rfl) (Nat.le_refl _) (Nat.le_refl _) dX6_keyword_55 ?_
    refine w_if_eq (tgt := 64) 58 hX dX6_keyword_58 (by decide) (fun c3 => ?_) (fun c3 => ?_)
    · have h := it h c3
      exact w_sub [0, 1, 2, 3, 4, 6] rfl (bX6_keyword_34_5001_64 hX hR hk9 l2 l3 l4 l6 h)
    · have h := ie h c3
      refine w_iload 4 61 hX rfl dX6_keyword_61 ?_
      exact w_iret 63 hX hR dX6_keyword_63 (by cases h; rfl)
def FX6_keyword_34_5001_b9 (k9 : Int32 → Int32 → Int32 → Int32 → Int32 → Mem → Option Int32) (l2 l3 l4 l5 l6 : Int32) (u : Mem) : Option Int32 :=
  (S_len 1).bind fun x1 => (if x1 < l6 then (some (-1)) else ((S_len 1).bind fun x3 => (if l6 = x3 then (FX6_keyword_34_5001_b38 k9 l2 l3 l4 l5 l6 u) else ((S_chr 1 l6).bind fun x5 => (if x5 = 32 then (FX6_keyword_34_5001_b38 k9 l2 l3 l4 l5 l6 u) else (FX6_keyword_34_5001_b73 k9 l2 l3 l4 l5 l6 u))))))
theorem bX6_keyword_34_5001_9 {G : Gt} {X : Xt} {v : Int32} {u : Mem} (hX : CxOk G X cX6_keyword 7 RX6 (some (.int v), SH, RHO, u) 8) (hR : CxRet G X (some .int) (some (.int v), SH, RHO, u)) {k9 : Int32 → Int32 → Int32 → Int32 → Int32 → Mem → Option Int32} (hk9 : ∀ (l2 l3 l4 l5 l6 : Int32), k9 l2 l3 l4 l5 l6 u = some v → WM G X 9 [(0, .ref 34), (1, .ref 5001), (2, .int l2), (3, .int l3), (4, .int l4), (5, .int l5), (6, .int l6)] [] SH RHO u) (l2 l3 l4 l5 l6 : Int32) (h : FX6_keyword_34_5001_b9 k9 l2 l3 l4 l5 l6 u = some v) : WM G X 9 [(0, .ref 34), (1, .ref 5001), (2, .int l2), (3, .int l3), (4, .int l4), (5, .int l5), (6, .int l6)] [] SH RHO u := by
  unfold FX6_keyword_34_5001_b9 at h
  refine w_iload 6 9 hX rfl dX6_keyword_9 ?_
  refine w_aload_n 1 11 hX rfl rfl dX6_keyword_11 ?_
  obtain ⟨x1, gx1, h⟩ := o_bind h
  refine w_S_len (i := 1) (st := [.int l6]) 12 hX ml_X6_177 gx1 (by decide) (by decide) (Nat.le_of_ble_eq_true rfl) dX6_keyword_12 ?_
  refine w_icmp_gt (tgt := 79) 15 hX dX6_keyword_15 (by decide) (fun c2 => ?_) (fun c2 => ?_)
  · have h := it h c2
    refine w_iconst (-1) 79 hX ic_m1 dX6_keyword_79 ?_
    exact w_iret 80 hX hR dX6_keyword_80 (by cases h; rfl)
  · have h := ie h c2
    refine w_iload 6 18 hX rfl dX6_keyword_18 ?_
    refine w_aload_n 1 20 hX rfl rfl dX6_keyword_20 ?_
    obtain ⟨x3, gx3, h⟩ := o_bind h
    refine w_S_len (i := 1) (st := [.int l6]) 21 hX ml_X6_177 gx3 (by decide) (by decide) (Nat.le_of_ble_eq_true rfl) dX6_keyword_21 ?_
    refine w_icmp_eq (tgt := 38) 24 hX dX6_keyword_24 (by decide) (fun c4 => ?_) (fun c4 => ?_)
    · have h := it h c4
      exact bX6_keyword_34_5001_38 hX hR hk9 l2 l3 l4 l5 l6 h
    · have h := ie h c4
      refine w_aload_n 1 27 hX rfl rfl dX6_keyword_27 ?_
      refine w_iload 6 28 hX rfl dX6_keyword_28 ?_
      obtain ⟨x5, gx5, h⟩ := o_bind h
      refine w_S_chr (i := 1) (st := []) 30 hX ml_X6_180 gx5 (by decide) (by decide) (Nat.le_of_ble_eq_true rfl) dX6_keyword_30 ?_
      refine w_bipush 32 33 hX ib_32 dX6_keyword_33 ?_
      refine w_icmp_ne (tgt := 73) 35 hX dX6_keyword_35 (by decide) (fun c6 => ?_) (fun c6 => ?_)
      · have h := ie h c6
        exact bX6_keyword_34_5001_73 hX hR hk9 l2 l3 l4 l5 l6 h
      · have h := it h c6
        exact bX6_keyword_34_5001_38 hX hR hk9 l2 l3 l4 l5 l6 h
def FX6_keyword_34_5001_L9 : Nat → Int32 → Int32 → Int32 → Int32 → Int32 → Mem → Option Int32
  | 0, _, _, _, _, _, _ => none
  | n + 1, l2, l3, l4, l5, l6, u => FX6_keyword_34_5001_b9 (FX6_keyword_34_5001_L9 n) l2 l3 l4 l5 l6 u
theorem lX6_keyword_34_5001_9 {G : Gt} {X : Xt} {v : Int32} {u : Mem} (hX : CxOk G X cX6_keyword 7 RX6 (some (.int v), SH, RHO, u) 8) (hR : CxRet G X (some .int) (some (.int v), SH, RHO, u)) : ∀ (n : Nat) (l2 l3 l4 l5 l6 : Int32), FX6_keyword_34_5001_L9 n l2 l3 l4 l5 l6 u = some v → WM G X 9 [(0, .ref 34), (1, .ref 5001), (2, .int l2), (3, .int l3), (4, .int l4), (5, .int l5), (6, .int l6)] [] SH RHO u := by
  intro n
  induction n with
  | zero =>
    intro l2 l3 l4 l5 l6 h
    exact nn_ h
  | succ n ih =>
    intro l2 l3 l4 l5 l6 h
    exact bX6_keyword_34_5001_9 hX hR ih l2 l3 l4 l5 l6 h
def FX6_keyword_34_5001 (p2 p3 : Int32) (u : Mem) : Option Int32 :=
  FX6_keyword_34_5001_L9 FU p2 p3 0 0 0 u
theorem CX6_keyword_34_5001 {G : Gt} (p2 p3 : Int32) (u : Mem) {v : Int32} (h : FX6_keyword_34_5001 p2 p3 u = some v) : CT G yX6_keyword cX6_keyword 7 (some .int) 8 [.ref 34, .ref 5001, .int p2, .int p3] SH RHO u (some (.int v), SH, RHO, u) :=
  ct_of (by decide) rfl (Nat.le_of_ble_eq_true rfl) (Nat.le_refl _) (Nat.le_refl _) (fun X hX hR => by
  unfold FX6_keyword_34_5001 at h
  refine w_iconst 0 0 hX ic_0 dX6_keyword_0 ?_
  refine w_istore (lv' := [(4, .int 0), (0, .ref 34), (1, .ref 5001), (2, .int p2), (3, .int p3)]) 1 hX dX6_keyword_1 (by decide) rfl ?_
  refine w_iconst 0 3 hX ic_0 dX6_keyword_3 ?_
  refine w_istore (lv' := [(5, .int 0), (4, .int 0), (0, .ref 34), (1, .ref 5001), (2, .int p2), (3, .int p3)]) 4 hX dX6_keyword_4 (by decide) rfl ?_
  refine w_iconst 0 6 hX ic_0 dX6_keyword_6 ?_
  refine w_istore (lv' := [(6, .int 0), (5, .int 0), (4, .int 0), (0, .ref 34), (1, .ref 5001), (2, .int p2), (3, .int p3)]) 7 hX dX6_keyword_7 (by decide) rfl ?_
  exact w_sub [3, 4, 5, 6, 2, 1, 0] rfl (lX6_keyword_34_5001_9 hX hR FU p2 p3 0 0 0 h))
def FX6_same_34_5002_b38 (k3 : Int32 → Int32 → Int32 → Int32 → Mem → Option Int32) (l2 l3 l4 l5 t0 : Int32) (u : Mem) : Option Int32 :=
  (if t0 = 0 then (some 0) else ((S_chr 2 (l2 + l5)).bind fun x2 => (rdA u 35 400 (l3 + l5)).bind fun x3 => (if x2 = x3 then (k3 l2 l3 l4 (l5 + 1) u) else (some 0))))
theorem bX6_same_34_5002_38 {G : Gt} {X : Xt} {v : Int32} {u : Mem} (hX : CxOk G X cX6_same 7 RX6 (some (.int v), SH, RHO, u) 7) (hR : CxRet G X (some .boolean) (some (.int v), SH, RHO, u)) {k3 : Int32 → Int32 → Int32 → Int32 → Mem → Option Int32} (hk3 : ∀ (l2 l3 l4 l5 : Int32), k3 l2 l3 l4 l5 u = some v → WM G X 3 [(0, .ref 34), (1, .ref 5002), (2, .int l2), (3, .int l3), (4, .int l4), (5, .int l5)] [] SH RHO u) (l2 l3 l4 l5 t0 : Int32) (h : FX6_same_34_5002_b38 k3 l2 l3 l4 l5 t0 u = some v) : WM G X 38 [(0, .ref 34), (1, .ref 5002), (2, .int l2), (3, .int l3), (4, .int l4), (5, .int l5)] [.int t0] SH RHO u := by
  unfold FX6_same_34_5002_b38 at h
  refine w_istore (lv' := [(6, .int t0), (0, .ref 34), (1, .ref 5002), (2, .int l2), (3, .int l3), (4, .int l4), (5, .int l5)]) 38 hX dX6_same_38 (by decide) rfl ?_
  refine w_iload 0 40 hX rfl dX6_same_40 ?_
  refine w_if_eq (tgt := 65) 42 hX dX6_same_42 (by decide) (fun c1 => ?_) (fun c1 => ?_)
  · have h := it h c1
    refine w_iconst 0 65 hX ic_0 dX6_same_65 ?_
    exact w_zret 66 hX hR (by decide) dX6_same_66 (by cases h; rfl)
  · have h := ie h c1
    refine w_aload_n 2 45 hX rfl rfl dX6_same_45 ?_
    refine w_iload_n 3 46 hX rfl rfl dX6_same_46 ?_
    refine w_iload 6 47 hX rfl dX6_same_47 ?_
    refine w_iadd 49 hX dX6_same_49 ?_
    obtain ⟨x2, gx2, h⟩ := o_bind h
    refine w_S_chr (i := 2) (st := []) 50 hX ml_X6_180 gx2 (by decide) (by decide) (Nat.le_of_ble_eq_true rfl) dX6_same_50 ?_
    refine w_aload_n 1 53 hX rfl rfl dX6_same_53 ?_
    refine w_getR 54 hX CI_6 s_34 rfl r_34_0 fl_X6_11 rfl dX6_same_54 ?_
    refine w_iload_n 4 57 hX rfl rfl dX6_same_57 ?_
    refine w_iload 6 58 hX rfl dX6_same_58 ?_
    refine w_iadd 60 hX dX6_same_60 ?_
    obtain ⟨x3, gx3, h⟩ := o_bind h
    refine w_iald 61 hX s_35 gx3 dX6_same_61 ?_
    refine w_icmp_eq (tgt := 67) 62 hX dX6_same_62 (by decide) (fun c4 => ?_) (fun c4 => ?_)
    · have h := it h c4
      refine w_iinc (lv' := [(5, .int (l5 + 1)), (6, .int t0), (0, .ref 34), (1, .ref 5002), (2, .int l2), (3, .int l3), (4, .int l4)]) 67 6 hX dX6_same_67 rfl (inc_1 _) (by decide) rfl ?_
      refine w_goto (tgt := 3) 70 hX (by decide) dX6_same_70 ?_
      exact w_sub [2, 3, 4, 5, 6, 0] rfl (hk3 l2 l3 l4 (l5 + 1) h)
    · have h := ie h c4
      refine w_iconst 0 65 hX ic_0 dX6_same_65 ?_
      exact w_zret 66 hX hR (by decide) dX6_same_66 (by cases h; rfl)
def FX6_same_34_5002_b3 (k3 : Int32 → Int32 → Int32 → Int32 → Mem → Option Int32) (l2 l3 l4 l5 : Int32) (u : Mem) : Option Int32 :=
  (if l4 ≤ (l3 + l5) then (some 1) else ((S_len 2).bind fun x2 => (if x2 ≤ (l2 + l5) then (FX6_same_34_5002_b38 k3 l2 l3 l4 l5 0 u) else ((if 400 ≤ (l3 + l5) then (FX6_same_34_5002_b38 k3 l2 l3 l4 l5 0 u) else (FX6_same_34_5002_b38 k3 l2 l3 l4 l5 1 u))))))
theorem bX6_same_34_5002_3 {G : Gt} {X : Xt} {v : Int32} {u : Mem} (hX : CxOk G X cX6_same 7 RX6 (some (.int v), SH, RHO, u) 7) (hR : CxRet G X (some .boolean) (some (.int v), SH, RHO, u)) {k3 : Int32 → Int32 → Int32 → Int32 → Mem → Option Int32} (hk3 : ∀ (l2 l3 l4 l5 : Int32), k3 l2 l3 l4 l5 u = some v → WM G X 3 [(0, .ref 34), (1, .ref 5002), (2, .int l2), (3, .int l3), (4, .int l4), (5, .int l5)] [] SH RHO u) (l2 l3 l4 l5 : Int32) (h : FX6_same_34_5002_b3 k3 l2 l3 l4 l5 u = some v) : WM G X 3 [(0, .ref 34), (1, .ref 5002), (2, .int l2), (3, .int l3), (4, .int l4), (5, .int l5)] [] SH RHO u := by
  unfold FX6_same_34_5002_b3 at h
  refine w_iload_n 3 3 hX rfl rfl dX6_same_3 ?_
  refine w_iload 5 4 hX rfl dX6_same_4 ?_
  refine w_iadd 6 hX dX6_same_6 ?_
  refine w_iload 4 7 hX rfl dX6_same_7 ?_
  refine w_icmp_ge (tgt := 73) 9 hX dX6_same_9 (by decide) (fun c1 => ?_) (fun c1 => ?_)
  · have h := it h c1
    refine w_iconst 1 73 hX ic_1 dX6_same_73 ?_
    exact w_zret 74 hX hR (by decide) dX6_same_74 (by cases h; rfl)
  · have h := ie h c1
    refine w_iload_n 2 12 hX rfl rfl dX6_same_12 ?_
    refine w_iload 5 13 hX rfl dX6_same_13 ?_
    refine w_iadd 15 hX dX6_same_15 ?_
    refine w_aload_n 1 16 hX rfl rfl dX6_same_16 ?_
    obtain ⟨x2, gx2, h⟩ := o_bind h
    refine w_S_len (i := 2) (st := [.int (l2 + l5)]) 17 hX ml_X6_177 gx2 (by decide) (by decide) (Nat.le_of_ble_eq_true rfl) dX6_same_17 ?_
    refine w_icmp_ge (tgt := 37) 20 hX dX6_same_20 (by decide) (fun c3 => ?_) (fun c3 => ?_)
    · have h := it h c3
      refine w_iconst 0 37 hX ic_0 dX6_same_37 ?_
      exact bX6_same_34_5002_38 hX hR hk3 l2 l3 l4 l5 0 h
    · have h := ie h c3
      refine w_iload_n 3 23 hX rfl rfl dX6_same_23 ?_
      refine w_iload 5 24 hX rfl dX6_same_24 ?_
      refine w_iadd 26 hX dX6_same_26 ?_
      refine w_sipush 400 27 hX isp_400 dX6_same_27 ?_
      refine w_icmp_ge (tgt := 37) 30 hX dX6_same_30 (by decide) (fun c4 => ?_) (fun c4 => ?_)
      · have h := it h c4
        refine w_iconst 0 37 hX ic_0 dX6_same_37 ?_
        exact bX6_same_34_5002_38 hX hR hk3 l2 l3 l4 l5 0 h
      · have h := ie h c4
        refine w_iconst 1 33 hX ic_1 dX6_same_33 ?_
        refine w_goto (tgt := 38) 34 hX (by decide) dX6_same_34 ?_
        exact bX6_same_34_5002_38 hX hR hk3 l2 l3 l4 l5 1 h
def FX6_same_34_5002_L3 : Nat → Int32 → Int32 → Int32 → Int32 → Mem → Option Int32
  | 0, _, _, _, _, _ => none
  | n + 1, l2, l3, l4, l5, u => FX6_same_34_5002_b3 (FX6_same_34_5002_L3 n) l2 l3 l4 l5 u
theorem lX6_same_34_5002_3 {G : Gt} {X : Xt} {v : Int32} {u : Mem} (hX : CxOk G X cX6_same 7 RX6 (some (.int v), SH, RHO, u) 7) (hR : CxRet G X (some .boolean) (some (.int v), SH, RHO, u)) : ∀ (n : Nat) (l2 l3 l4 l5 : Int32), FX6_same_34_5002_L3 n l2 l3 l4 l5 u = some v → WM G X 3 [(0, .ref 34), (1, .ref 5002), (2, .int l2), (3, .int l3), (4, .int l4), (5, .int l5)] [] SH RHO u := by
  intro n
  induction n with
  | zero =>
    intro l2 l3 l4 l5 h
    exact nn_ h
  | succ n ih =>
    intro l2 l3 l4 l5 h
    exact bX6_same_34_5002_3 hX hR ih l2 l3 l4 l5 h
def FX6_same_34_5002 (p2 p3 p4 : Int32) (u : Mem) : Option Int32 :=
  FX6_same_34_5002_L3 FU p2 p3 p4 0 u
theorem CX6_same_34_5002 {G : Gt} (p2 p3 p4 : Int32) (u : Mem) {v : Int32} (h : FX6_same_34_5002 p2 p3 p4 u = some v) : CT G yX6_same cX6_same 7 (some .boolean) 7 [.ref 34, .ref 5002, .int p2, .int p3, .int p4] SH RHO u (some (.int v), SH, RHO, u) :=
  ct_of (by decide) rfl (Nat.le_of_ble_eq_true rfl) (Nat.le_refl _) (Nat.le_refl _) (fun X hX hR => by
  unfold FX6_same_34_5002 at h
  refine w_iconst 0 0 hX ic_0 dX6_same_0 ?_
  refine w_istore (lv' := [(5, .int 0), (0, .ref 34), (1, .ref 5002), (2, .int p2), (3, .int p3), (4, .int p4)]) 1 hX dX6_same_1 (by decide) rfl ?_
  exact w_sub [1, 2, 3, 4, 5, 0] rfl (lX6_same_34_5002_3 hX hR FU p2 p3 p4 0 h))
def FX6_keyword_34_5002_b73 (k9 : Int32 → Int32 → Int32 → Int32 → Int32 → Mem → Option Int32) (l2 l3 l4 l5 l6 : Int32) (u : Mem) : Option Int32 :=
  k9 l2 l3 l4 l5 (l6 + 1) u
theorem bX6_keyword_34_5002_73 {G : Gt} {X : Xt} {v : Int32} {u : Mem} (hX : CxOk G X cX6_keyword 7 RX6 (some (.int v), SH, RHO, u) 8) (hR : CxRet G X (some .int) (some (.int v), SH, RHO, u)) {k9 : Int32 → Int32 → Int32 → Int32 → Int32 → Mem → Option Int32} (hk9 : ∀ (l2 l3 l4 l5 l6 : Int32), k9 l2 l3 l4 l5 l6 u = some v → WM G X 9 [(0, .ref 34), (1, .ref 5002), (2, .int l2), (3, .int l3), (4, .int l4), (5, .int l5), (6, .int l6)] [] SH RHO u) (l2 l3 l4 l5 l6 : Int32) (h : FX6_keyword_34_5002_b73 k9 l2 l3 l4 l5 l6 u = some v) : WM G X 73 [(0, .ref 34), (1, .ref 5002), (2, .int l2), (3, .int l3), (4, .int l4), (5, .int l5), (6, .int l6)] [] SH RHO u := by
  unfold FX6_keyword_34_5002_b73 at h
  refine w_iinc (lv' := [(6, .int (l6 + 1)), (0, .ref 34), (1, .ref 5002), (2, .int l2), (3, .int l3), (4, .int l4), (5, .int l5)]) 73 6 hX dX6_keyword_73 rfl (inc_1 _) (by decide) rfl ?_
  refine w_goto (tgt := 9) 76 hX (by decide) dX6_keyword_76 ?_
  exact w_sub [1, 2, 3, 4, 5, 6, 0] rfl (hk9 l2 l3 l4 l5 (l6 + 1) h)
def FX6_keyword_34_5002_b64 (k9 : Int32 → Int32 → Int32 → Int32 → Int32 → Mem → Option Int32) (l2 l3 l4 l6 : Int32) (u : Mem) : Option Int32 :=
  FX6_keyword_34_5002_b73 k9 l2 l3 (l4 + 1) (l6 + 1) l6 u
theorem bX6_keyword_34_5002_64 {G : Gt} {X : Xt} {v : Int32} {u : Mem} (hX : CxOk G X cX6_keyword 7 RX6 (some (.int v), SH, RHO, u) 8) (hR : CxRet G X (some .int) (some (.int v), SH, RHO, u)) {k9 : Int32 → Int32 → Int32 → Int32 → Int32 → Mem → Option Int32} (hk9 : ∀ (l2 l3 l4 l5 l6 : Int32), k9 l2 l3 l4 l5 l6 u = some v → WM G X 9 [(0, .ref 34), (1, .ref 5002), (2, .int l2), (3, .int l3), (4, .int l4), (5, .int l5), (6, .int l6)] [] SH RHO u) (l2 l3 l4 l6 : Int32) (h : FX6_keyword_34_5002_b64 k9 l2 l3 l4 l6 u = some v) : WM G X 64 [(0, .ref 34), (1, .ref 5002), (2, .int l2), (3, .int l3), (4, .int l4), (6, .int l6)] [] SH RHO u := by
  unfold FX6_keyword_34_5002_b64 at h
  refine w_iinc (lv' := [(4, .int (l4 + 1)), (0, .ref 34), (1, .ref 5002), (2, .int l2), (3, .int l3), (6, .int l6)]) 64 4 hX dX6_keyword_64 rfl (inc_1 _) (by decide) rfl ?_
  refine w_iload 5 67 hX rfl dX6_keyword_67 ?_
  refine w_iconst 1 69 hX ic_1 dX6_keyword_69 ?_
  refine w_iadd 70 hX dX6_keyword_70 ?_
  refine w_istore (lv' := [(5, .int (l6 + 1)), (4, .int (l4 + 1)), (0, .ref 34), (1, .ref 5002), (2, .int l2), (3, .int l3), (6, .int l6)]) 71 hX dX6_keyword_71 (by decide) rfl ?_
  exact w_sub [2, 3, 4, 5, 1, 0, 6] rfl (bX6_keyword_34_5002_73 hX hR hk9 l2 l3 (l4 + 1) (l6 + 1) l6 h)
def FX6_keyword_34_5002_b38 (k9 : Int32 → Int32 → Int32 → Int32 → Int32 → Mem → Option Int32) (l2 l3 l4 l5 l6 : Int32) (u : Mem) : Option Int32 :=
  (if (l6 - l5) = (l3 - l2) then ((FX6_same_34_5002 l5 l2 l3 u).bind fun x2 => (if x2 = 0 then (FX6_keyword_34_5002_b64 k9 l2 l3 l4 l6 u) else (some l4))) else (FX6_keyword_34_5002_b64 k9 l2 l3 l4 l6 u))
theorem bX6_keyword_34_5002_38 {G : Gt} {X : Xt} {v : Int32} {u : Mem} (hX : CxOk G X cX6_keyword 7 RX6 (some (.int v), SH, RHO, u) 8) (hR : CxRet G X (some .int) (some (.int v), SH, RHO, u)) {k9 : Int32 → Int32 → Int32 → Int32 → Int32 → Mem → Option Int32} (hk9 : ∀ (l2 l3 l4 l5 l6 : Int32), k9 l2 l3 l4 l5 l6 u = some v → WM G X 9 [(0, .ref 34), (1, .ref 5002), (2, .int l2), (3, .int l3), (4, .int l4), (5, .int l5), (6, .int l6)] [] SH RHO u) (l2 l3 l4 l5 l6 : Int32) (h : FX6_keyword_34_5002_b38 k9 l2 l3 l4 l5 l6 u = some v) : WM G X 38 [(0, .ref 34), (1, .ref 5002), (2, .int l2), (3, .int l3), (4, .int l4), (5, .int l5), (6, .int l6)] [] SH RHO u := by
  unfold FX6_keyword_34_5002_b38 at h
  refine w_iload 6 38 hX rfl dX6_keyword_38 ?_
  refine w_iload 5 40 hX rfl dX6_keyword_40 ?_
  refine w_isub 42 hX dX6_keyword_42 ?_
  refine w_iload_n 3 43 hX rfl rfl dX6_keyword_43 ?_
  refine w_iload_n 2 44 hX rfl rfl dX6_keyword_44 ?_
  refine w_isub 45 hX dX6_keyword_45 ?_
  refine w_icmp_ne (tgt := 64) 46 hX dX6_keyword_46 (by decide) (fun c1 => ?_) (fun c1 => ?_)
  · have h := ie h c1
    exact w_sub [0, 1, 2, 3, 4, 6] rfl (bX6_keyword_34_5002_64 hX hR hk9 l2 l3 l4 l6 h)
  · have h := it h c1
    refine w_aload_n 0 49 hX rfl rfl dX6_keyword_49 ?_
    refine w_aload_n 1 50 hX rfl rfl dX6_keyword_50 ?_
    refine w_iload 5 51 hX rfl dX6_keyword_51 ?_
    refine w_iload_n 2 53 hX rfl rfl dX6_keyword_53 ?_
    refine w_iload_n 3 54 hX rfl rfl dX6_keyword_54 ?_
    obtain ⟨x2, gx2, h⟩ := o_bind h
    refine w_invVi (av := [.ref 5002, .int l5, .int l2, .int l3]) (st := []) 55 hX CI_6 s_34 rfl mv_yX6_same mi_yX6_same ml_X6_184 (CX6_same_34_5002 l5 l2 l3 u gx2) rfl (by decide) (Nat.le_of_ble_eq_true rfl) (Nat.le_refl _) (Nat.le_refl _) dX6_keyword_55 ?_
    refine w_if_eq (tgt := 64) 58 hX dX6_keyword_58 (by decide) (fun c3 => ?_) (fun c3 => ?_)
    · have h := it h c3
      exact w_sub [0, 1, 2, 3, 4, 6] rfl (bX6_keyword_34_5002_64 hX hR hk9 l2 l3 l4 l6 h)
    · have h := ie h c3
      refine w_iload 4 61 hX rfl dX6_keyword_61 ?_
      exact w_iret 63 hX hR dX6_keyword_63 (by cases h; rfl)
def FX6_keyword_34_5002_b9 (k9 : Int32 → Int32 → Int32 → Int32 → Int32 → Mem → Option Int32) (l2 l3 l4 l5 l6 : Int32) (u : Mem) : Option Int32 :=
  (S_len 2).bind fun x1 => (if x1 < l6 then (some (-1)) else ((S_len 2).bind fun x3 => (if l6 = x3 then (FX6_keyword_34_5002_b38 k9 l2 l3 l4 l5 l6 u) else ((S_chr 2 l6).bind fun x5 => (if x5 = 32 then (FX6_keyword_34_5002_b38 k9 l2 l3 l4 l5 l6 u) else (FX6_keyword_34_5002_b73 k9 l2 l3 l4 l5 l6 u))))))
theorem bX6_keyword_34_5002_9 {G : Gt} {X : Xt} {v : Int32} {u : Mem} (hX : CxOk G X cX6_keyword 7 RX6 (some (.int v), SH, RHO, u) 8) (hR : CxRet G X (some .int) (some (.int v), SH, RHO, u)) {k9 : Int32 → Int32 → Int32 → Int32 → Int32 → Mem → Option Int32} (hk9 : ∀ (l2 l3 l4 l5 l6 : Int32), k9 l2 l3 l4 l5 l6 u = some v → WM G X 9 [(0, .ref 34), (1, .ref 5002), (2, .int l2), (3, .int l3), (4, .int l4), (5, .int l5), (6, .int l6)] [] SH RHO u) (l2 l3 l4 l5 l6 : Int32) (h : FX6_keyword_34_5002_b9 k9 l2 l3 l4 l5 l6 u = some v) : WM G X 9 [(0, .ref 34), (1, .ref 5002), (2, .int l2), (3, .int l3), (4, .int l4), (5, .int l5), (6, .int l6)] [] SH RHO u := by
  unfold FX6_keyword_34_5002_b9 at h
  refine w_iload 6 9 hX rfl dX6_keyword_9 ?_
  refine w_aload_n 1 11 hX rfl rfl dX6_keyword_11 ?_
  obtain ⟨x1, gx1, h⟩ := o_bind h
  refine w_S_len (i := 2) (st := [.int l6]) 12 hX ml_X6_177 gx1 (by decide) (by decide) (Nat.le_of_ble_eq_true rfl) dX6_keyword_12 ?_
  refine w_icmp_gt (tgt := 79) 15 hX dX6_keyword_15 (by decide) (fun c2 => ?_) (fun c2 => ?_)
  · have h := it h c2
    refine w_iconst (-1) 79 hX ic_m1 dX6_keyword_79 ?_
    exact w_iret 80 hX hR dX6_keyword_80 (by cases h; rfl)
  · have h := ie h c2
    refine w_iload 6 18 hX rfl dX6_keyword_18 ?_
    refine w_aload_n 1 20 hX rfl rfl dX6_keyword_20 ?_
    obtain ⟨x3, gx3, h⟩ := o_bind h
    refine w_S_len (i := 2) (st := [.int l6]) 21 hX ml_X6_177 gx3 (by decide) (by decide) (Nat.le_of_ble_eq_true rfl) dX6_keyword_21 ?_
    refine w_icmp_eq (tgt := 38) 24 hX dX6_keyword_24 (by decide) (fun c4 => ?_) (fun c4 => ?_)
    · have h := it h c4
      exact bX6_keyword_34_5002_38 hX hR hk9 l2 l3 l4 l5 l6 h
    · have h := ie h c4
      refine w_aload_n 1 27 hX rfl rfl dX6_keyword_27 ?_
      refine w_iload 6 28 hX rfl dX6_keyword_28 ?_
      obtain ⟨x5, gx5, h⟩ := o_bind h
      refine w_S_chr (i := 2) (st := []) 30 hX ml_X6_180 gx5 (by decide) (by decide) (Nat.le_of_ble_eq_true rfl) dX6_keyword_30 ?_
      refine w_bipush 32 33 hX ib_32 dX6_keyword_33 ?_
      refine w_icmp_ne (tgt := 73) 35 hX dX6_keyword_35 (by decide) (fun c6 => ?_) (fun c6 => ?_)
      · have h := ie h c6
        exact bX6_keyword_34_5002_73 hX hR hk9 l2 l3 l4 l5 l6 h
      · have h := it h c6
        exact bX6_keyword_34_5002_38 hX hR hk9 l2 l3 l4 l5 l6 h
def FX6_keyword_34_5002_L9 : Nat → Int32 → Int32 → Int32 → Int32 → Int32 → Mem → Option Int32
  | 0, _, _, _, _, _, _ => none
  | n + 1, l2, l3, l4, l5, l6, u => FX6_keyword_34_5002_b9 (FX6_keyword_34_5002_L9 n) l2 l3 l4 l5 l6 u
theorem lX6_keyword_34_5002_9 {G : Gt} {X : Xt} {v : Int32} {u : Mem} (hX : CxOk G X cX6_keyword 7 RX6 (some (.int v), SH, RHO, u) 8) (hR : CxRet G X (some .int) (some (.int v), SH, RHO, u)) : ∀ (n : Nat) (l2 l3 l4 l5 l6 : Int32), FX6_keyword_34_5002_L9 n l2 l3 l4 l5 l6 u = some v → WM G X 9 [(0, .ref 34), (1, .ref 5002), (2, .int l2), (3, .int l3), (4, .int l4), (5, .int l5), (6, .int l6)] [] SH RHO u := by
  intro n
  induction n with
  | zero =>
    intro l2 l3 l4 l5 l6 h
    exact nn_ h
  | succ n ih =>
    intro l2 l3 l4 l5 l6 h
    exact bX6_keyword_34_5002_9 hX hR ih l2 l3 l4 l5 l6 h
def FX6_keyword_34_5002 (p2 p3 : Int32) (u : Mem) : Option Int32 :=
  FX6_keyword_34_5002_L9 FU p2 p3 0 0 0 u
theorem CX6_keyword_34_5002 {G : Gt} (p2 p3 : Int32) (u : Mem) {v : Int32} (h : FX6_keyword_34_5002 p2 p3 u = some v) : CT G yX6_keyword cX6_keyword 7 (some .int) 8 [.ref 34, .ref 5002, .int p2, .int p3] SH RHO u (some (.int v), SH, RHO, u) :=
  ct_of (by decide) rfl (Nat.le_of_ble_eq_true rfl) (Nat.le_refl _) (Nat.le_refl _) (fun X hX hR => by
  unfold FX6_keyword_34_5002 at h
  refine w_iconst 0 0 hX ic_0 dX6_keyword_0 ?_
  refine w_istore (lv' := [(4, .int 0), (0, .ref 34), (1, .ref 5002), (2, .int p2), (3, .int p3)]) 1 hX dX6_keyword_1 (by decide) rfl ?_
  refine w_iconst 0 3 hX ic_0 dX6_keyword_3 ?_
  refine w_istore (lv' := [(5, .int 0), (4, .int 0), (0, .ref 34), (1, .ref 5002), (2, .int p2), (3, .int p3)]) 4 hX dX6_keyword_4 (by decide) rfl ?_
  refine w_iconst 0 6 hX ic_0 dX6_keyword_6 ?_
  refine w_istore (lv' := [(6, .int 0), (5, .int 0), (4, .int 0), (0, .ref 34), (1, .ref 5002), (2, .int p2), (3, .int p3)]) 7 hX dX6_keyword_7 (by decide) rfl ?_
  exact w_sub [3, 4, 5, 6, 2, 1, 0] rfl (lX6_keyword_34_5002_9 hX hR FU p2 p3 0 0 0 h))
