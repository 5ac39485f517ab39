def FX12_couldLeave_146_b81 (k2 : Int32 → Int32 → Mem → Option Int32) (l1 l2 : Int32) (u : Mem) : Option Int32 :=
  k2 l1 (l2 + 1) u
theorem bX12_couldLeave_146_81 {G : Gt} {X : Xt} {v : Int32} {u : Mem} (hX : CxOk G X cX12_couldLeave 4 RX12 (some (.int v), SH, RHO, u) 1) (hR : CxRet G X (some .boolean) (some (.int v), SH, RHO, u)) {k2 : Int32 → Int32 → Mem → Option Int32} (hk2 : ∀ (l1 l2 : Int32), k2 l1 l2 u = some v → WM G X 2 [(0, .ref 146), (1, .int l1), (2, .int l2)] [] SH RHO u) (l1 l2 : Int32) (h : FX12_couldLeave_146_b81 k2 l1 l2 u = some v) : WM G X 81 [(0, .ref 146), (1, .int l1), (2, .int l2)] [] SH RHO u := by
  unfold FX12_couldLeave_146_b81 at h
  refine w_iinc (lv' := [(2, .int (l2 + 1)), (0, .ref 146), (1, .int l1)]) 81 2 hX dX12_couldLeave_81 rfl (inc_1 _) (by decide) rfl ?_
  refine w_goto (tgt := 2) 84 hX (by decide) dX12_couldLeave_84 ?_
  exact w_sub [1, 2, 0] rfl (hk2 l1 (l2 + 1) h)
def FX12_couldLeave_146_b2 (k2 : Int32 → Int32 → Mem → Option Int32) (l1 l2 : Int32) (u : Mem) : Option Int32 :=
  (if (u 147 88) ≤ l2 then (some 1) else ((rdA u 147 1786 ((270 + (3 * l2)) + 1)).bind fun x2 => (rdA u 147 1786 (114 + l1)).bind fun x3 => (rdA u 147 1786 (270 + (3 * l2))).bind fun x4 => (if (x3 * x4) < x2 then (some 0) else ((rdA u 147 1786 ((270 + (3 * l2)) + 2)).bind fun x6 => (if x6 ≤ 0 then (FX12_couldLeave_146_b81 k2 l1 l2 u) else ((rdA u 147 1786 ((270 + (3 * l2)) + 2)).bind fun x8 => (rdA u 147 1786 (114 + l1)).bind fun x9 => (if x8 = x9 then (FX12_couldLeave_146_b81 k2 l1 l2 u) else (some 0))))))))
theorem bX12_couldLeave_146_2 {G : Gt} {X : Xt} {v : Int32} {u : Mem} (hX : CxOk G X cX12_couldLeave 4 RX12 (some (.int v), SH, RHO, u) 1) (hR : CxRet G X (some .boolean) (some (.int v), SH, RHO, u)) {k2 : Int32 → Int32 → Mem → Option Int32} (hk2 : ∀ (l1 l2 : Int32), k2 l1 l2 u = some v → WM G X 2 [(0, .ref 146), (1, .int l1), (2, .int l2)] [] SH RHO u) (l1 l2 : Int32) (h : FX12_couldLeave_146_b2 k2 l1 l2 u = some v) : WM G X 2 [(0, .ref 146), (1, .int l1), (2, .int l2)] [] SH RHO u := by
  unfold FX12_couldLeave_146_b2 at h
  refine w_iload_n 2 2 hX rfl rfl dX12_couldLeave_2 ?_
  refine w_aload_n 0 3 hX rfl rfl dX12_couldLeave_3 ?_
  refine w_getR 4 hX CI_12 s_146 rfl r_146_0 fl_X12_7 rfl dX12_couldLeave_4 ?_
  refine w_bipush 88 7 hX ib_88 dX12_couldLeave_7 ?_
  refine w_iald 9 hX s_147 (rdK 88 88 n_88 (by decide) (by decide)) dX12_couldLeave_9 ?_
  refine w_icmp_ge (tgt := 87) 10 hX dX12_couldLeave_10 (by decide) (fun c1 => ?_) (fun c1 => ?_)
  · have h := it h c1
    refine w_iconst 1 87 hX ic_1 dX12_couldLeave_87 ?_
    exact w_zret 88 hX hR (by decide) dX12_couldLeave_88 (by cases h; rfl)
  · have h := ie h c1
    refine w_sipush 270 13 hX isp_270 dX12_couldLeave_13 ?_
    refine w_iconst 3 16 hX ic_3 dX12_couldLeave_16 ?_
    refine w_iload_n 2 17 hX rfl rfl dX12_couldLeave_17 ?_
    refine w_imul 18 hX dX12_couldLeave_18 ?_
    refine w_iadd 19 hX dX12_couldLeave_19 ?_
    refine w_istore_n (lv' := [(3, .int (270 + (3 * l2))), (0, .ref 146), (1, .int l1), (2, .int l2)]) 20 hX rfl dX12_couldLeave_20 (by decide) rfl ?_
    refine w_aload_n 1 21 hX rfl rfl dX12_couldLeave_21 ?_
    refine w_getR 22 hX CI_12 s_146 rfl r_146_0 fl_X12_7 rfl dX12_couldLeave_22 ?_
    refine w_iload_n 0 25 hX rfl rfl dX12_couldLeave_25 ?_
    refine w_iconst 1 26 hX ic_1 dX12_couldLeave_26 ?_
    refine w_iadd 27 hX dX12_couldLeave_27 ?_
    obtain ⟨x2, gx2, h⟩ := o_bind h
    refine w_iald 28 hX s_147 gx2 dX12_couldLeave_28 ?_
    refine w_aload_n 1 29 hX rfl rfl dX12_couldLeave_29 ?_
    refine w_getR 30 hX CI_12 s_146 rfl r_146_0 fl_X12_7 rfl dX12_couldLeave_30 ?_
    refine w_bipush 114 33 hX ib_114 dX12_couldLeave_33 ?_
    refine w_iload_n 2 35 hX rfl rfl dX12_couldLeave_35 ?_
    refine w_iadd 36 hX dX12_couldLeave_36 ?_
    obtain ⟨x3, gx3, h⟩ := o_bind h
    refine w_iald 37 hX s_147 gx3 dX12_couldLeave_37 ?_
    refine w_aload_n 1 38 hX rfl rfl dX12_couldLeave_38 ?_
    refine w_getR 39 hX CI_12 s_146 rfl r_146_0 fl_X12_7 rfl dX12_couldLeave_39 ?_
    refine w_iload_n 0 42 hX rfl rfl dX12_couldLeave_42 ?_
    obtain ⟨x4, gx4, h⟩ := o_bind h
    refine w_iald 43 hX s_147 gx4 dX12_couldLeave_43 ?_
    refine w_imul 44 hX dX12_couldLeave_44 ?_
    refine w_icmp_gt (tgt := 79) 45 hX dX12_couldLeave_45 (by decide) (fun c5 => ?_) (fun c5 => ?_)
    · have h := it h c5
      refine w_iconst 0 79 hX ic_0 dX12_couldLeave_79 ?_
      exact w_zret 80 hX hR (by decide) dX12_couldLeave_80 (by cases h; rfl)
    · have h := ie h c5
      refine w_aload_n 1 48 hX rfl rfl dX12_couldLeave_48 ?_
      refine w_getR 49 hX CI_12 s_146 rfl r_146_0 fl_X12_7 rfl dX12_couldLeave_49 ?_
      refine w_iload_n 0 52 hX rfl rfl dX12_couldLeave_52 ?_
      refine w_iconst 2 53 hX ic_2 dX12_couldLeave_53 ?_
      refine w_iadd 54 hX dX12_couldLeave_54 ?_
      obtain ⟨x6, gx6, h⟩ := o_bind h
      refine w_iald 55 hX s_147 gx6 dX12_couldLeave_55 ?_
      refine w_if_le (tgt := 81) 56 hX dX12_couldLeave_56 (by decide) (fun c7 => ?_) (fun c7 => ?_)
      · have h := it h c7
        exact w_sub [1, 2, 3] rfl (bX12_couldLeave_146_81 hX hR hk2 l1 l2 h)
      · have h := ie h c7
        refine w_aload_n 1 59 hX rfl rfl dX12_couldLeave_59 ?_
        refine w_getR 60 hX CI_12 s_146 rfl r_146_0 fl_X12_7 rfl dX12_couldLeave_60 ?_
        refine w_iload_n 0 63 hX rfl rfl dX12_couldLeave_63 ?_
        refine w_iconst 2 64 hX ic_2 dX12_couldLeave_64 ?_
        refine w_iadd 65 hX dX12_couldLeave_65 ?_
        obtain ⟨x8, gx8, h⟩ := o_bind h
        refine w_iald 66 hX s_147 gx8 dX12_couldLeave_66 ?_
        refine w_aload_n 1 67 hX rfl rfl dX12_couldLeave_67 ?_
        refine w_getR 68 hX CI_12 s_146 rfl r_146_0 fl_X12_7 rfl dX12_couldLeave_68 ?_
        refine w_bipush 114 71 hX ib_114 dX12_couldLeave_71 ?_
        refine w_iload_n 2 73 hX rfl rfl dX12_couldLeave_73 ?_
        refine w_iadd 74 hX dX12_couldLeave_74 ?_
        obtain ⟨x9, gx9, h⟩ := o_bind h
        refine w_iald 75 hX s_147 gx9 dX12_couldLeave_75 ?_
        refine w_icmp_eq (tgt := 81) 76 hX dX12_couldLeave_76 (by decide) (fun c10 => ?_) (fun c10 => ?_)
        · have h := it h c10
          exact w_sub [1, 2, 3] rfl (bX12_couldLeave_146_81 hX hR hk2 l1 l2 h)
        · have h := ie h c10
          refine w_iconst 0 79 hX ic_0 dX12_couldLeave_79 ?_
          exact w_zret 80 hX hR (by decide) dX12_couldLeave_80 (by cases h; rfl)
def FX12_couldLeave_146_L2 : Nat → Int32 → Int32 → Mem → Option Int32
  | 0, _, _, _ => none
  | n + 1, l1, l2, u => FX12_couldLeave_146_b2 (FX12_couldLeave_146_L2 n) l1 l2 u
theorem lX12_couldLeave_146_2 {G : Gt} {X : Xt} {v : Int32} {u : Mem} (hX : CxOk G X cX12_couldLeave 4 RX12 (some (.int v), SH, RHO, u) 1) (hR : CxRet G X (some .boolean) (some (.int v), SH, RHO, u)) : ∀ (n : Nat) (l1 l2 : Int32), FX12_couldLeave_146_L2 n l1 l2 u = some v → WM G X 2 [(0, .ref 146), (1, .int l1), (2, .int l2)] [] SH RHO u := by
  intro n
  induction n with
  | zero =>
    intro l1 l2 h
    exact nn_ h
  | succ n ih =>
    intro l1 l2 h
    exact bX12_couldLeave_146_2 hX hR ih l1 l2 h
def FX12_couldLeave_146 (p1 : Int32) (u : Mem) : Option Int32 :=
  FX12_couldLeave_146_L2 FU p1 0 u
theorem CX12_couldLeave_146 {G : Gt} (p1 : Int32) (u : Mem) {v : Int32} (h : FX12_couldLeave_146 p1 u = some v) : CT G yX12_couldLeave cX12_couldLeave 4 (some .boolean) 1 [.ref 146, .int p1] SH RHO u (some (.int v), SH, RHO, u) :=
  ct_of (by decide) rfl (Nat.le_of_ble_eq_true rfl) (Nat.le_refl _) (Nat.le_refl _) (fun X hX hR => by
  unfold FX12_couldLeave_146 at h
  refine w_iconst 0 0 hX ic_0 dX12_couldLeave_0 ?_
  refine w_istore_n (lv' := [(2, .int 0), (0, .ref 146), (1, .int p1)]) 1 hX rfl dX12_couldLeave_1 (by decide) rfl ?_
  exact w_sub [1, 2, 0] rfl (lX12_couldLeave_146_2 hX hR FU p1 0 h))
def FX12_left_146_b31 (k4 : Int32 → Int32 → Mem → Option Int32) (l2 t0 t1 : Int32) (u : Mem) : Option Int32 :=
  k4 (t0 ||| t1) (l2 + 1) u
theorem bX12_left_146_31 {G : Gt} {X : Xt} {v : Int32} {u : Mem} (hX : CxOk G X cX12_left 3 RX12 (some (.int v), SH, RHO, u) 2) (hR : CxRet G X (some .int) (some (.int v), SH, RHO, u)) {k4 : Int32 → Int32 → Mem → Option Int32} (hk4 : ∀ (l1 l2 : Int32), k4 l1 l2 u = some v → WM G X 4 [(0, .ref 146), (1, .int l1), (2, .int l2)] [] SH RHO u) (l2 t0 t1 : Int32) (h : FX12_left_146_b31 k4 l2 t0 t1 u = some v) : WM G X 31 [(0, .ref 146), (2, .int l2)] [.int t1, .int t0] SH RHO u := by
  unfold FX12_left_146_b31 at h
  refine w_ior 31 hX dX12_left_31 ?_
  refine w_istore_n (lv' := [(1, .int (t0 ||| t1)), (0, .ref 146), (2, .int l2)]) 32 hX rfl dX12_left_32 (by decide) rfl ?_
  refine w_iinc (lv' := [(2, .int (l2 + 1)), (1, .int (t0 ||| t1)), (0, .ref 146)]) 33 2 hX dX12_left_33 rfl (inc_1 _) (by decide) rfl ?_
  refine w_goto (tgt := 4) 36 hX (by decide) dX12_left_36 ?_
  exact w_sub [2, 1, 0] rfl (hk4 (t0 ||| t1) (l2 + 1) h)
def FX12_left_146_b4 (k4 : Int32 → Int32 → Mem → Option Int32) (l1 l2 : Int32) (u : Mem) : Option Int32 :=
  (if (u 147 78) ≤ l2 then (some l1) else ((FX12_couldLeave_146 l2 u).bind fun x2 => (if x2 = 0 then (FX12_left_146_b31 k4 l2 l1 0 u) else (FX12_left_146_b31 k4 l2 l1 ((1 : Int32) <<< (l2 &&& 31)) u))))
theorem bX12_left_146_4 {G : Gt} {X : Xt} {v : Int32} {u : Mem} (hX : CxOk G X cX12_left 3 RX12 (some (.int v), SH, RHO, u) 2) (hR : CxRet G X (some .int) (some (.int v), SH, RHO, u)) {k4 : Int32 → Int32 → Mem → Option Int32} (hk4 : ∀ (l1 l2 : Int32), k4 l1 l2 u = some v → WM G X 4 [(0, .ref 146), (1, .int l1), (2, .int l2)] [] SH RHO u) (l1 l2 : Int32) (h : FX12_left_146_b4 k4 l1 l2 u = some v) : WM G X 4 [(0, .ref 146), (1, .int l1), (2, .int l2)] [] SH RHO u := by
  unfold FX12_left_146_b4 at h
  refine w_iload_n 2 4 hX rfl rfl dX12_left_4 ?_
  refine w_aload_n 0 5 hX rfl rfl dX12_left_5 ?_
  refine w_getR 6 hX CI_12 s_146 rfl r_146_0 fl_X12_7 rfl dX12_left_6 ?_
  refine w_bipush 78 9 hX ib_78 dX12_left_9 ?_
  refine w_iald 11 hX s_147 (rdK 78 78 n_78 (by decide) (by decide)) dX12_left_11 ?_
  refine w_icmp_ge (tgt := 39) 12 hX dX12_left_12 (by decide) (fun c1 => ?_) (fun c1 => ?_)
  · have h := it h c1
    refine w_iload_n 1 39 hX rfl rfl dX12_left_39 ?_
    exact w_iret 40 hX hR dX12_left_40 (by cases h; rfl)
  · have h := ie h c1
    refine w_iload_n 1 15 hX rfl rfl dX12_left_15 ?_
    refine w_aload_n 0 16 hX rfl rfl dX12_left_16 ?_
    refine w_iload_n 2 17 hX rfl rfl dX12_left_17 ?_
    obtain ⟨x2, gx2, h⟩ := o_bind h
    refine w_invVi (av := [.int l2]) (st := [.int l1]) 18 hX CI_12 s_146 rfl mv_yX12_couldLeave mi_yX12_couldLeave ml_X12_445 (CX12_couldLeave_146 l2 u gx2) rfl (by decide) (Nat.le_of_ble_eq_true rfl) (Nat.le_refl _) (Nat.le_refl _) dX12_left_18 ?_
    refine w_if_eq (tgt := 30) 21 hX dX12_left_21 (by decide) (fun c3 => ?_) (fun c3 => ?_)
    · have h := it h c3
      refine w_iconst 0 30 hX ic_0 dX12_left_30 ?_
      exact w_sub [0, 2] rfl (bX12_left_146_31 hX hR hk4 l2 l1 0 h)
    · have h := ie h c3
      refine w_iconst 1 24 hX ic_1 dX12_left_24 ?_
      refine w_iload_n 2 25 hX rfl rfl dX12_left_25 ?_
      refine w_ishl 26 hX dX12_left_26 ?_
      refine w_goto (tgt := 31) 27 hX (by decide) dX12_left_27 ?_
      exact w_sub [0, 2] rfl (bX12_left_146_31 hX hR hk4 l2 l1 ((1 : Int32) <<< (l2 &&& 31)) h)
def FX12_left_146_L4 : Nat → Int32 → Int32 → Mem → Option Int32
  | 0, _, _, _ => none
  | n + 1, l1, l2, u => FX12_left_146_b4 (FX12_left_146_L4 n) l1 l2 u
theorem lX12_left_146_4 {G : Gt} {X : Xt} {v : Int32} {u : Mem} (hX : CxOk G X cX12_left 3 RX12 (some (.int v), SH, RHO, u) 2) (hR : CxRet G X (some .int) (some (.int v), SH, RHO, u)) : ∀ (n : Nat) (l1 l2 : Int32), FX12_left_146_L4 n l1 l2 u = some v → WM G X 4 [(0, .ref 146), (1, .int l1), (2, .int l2)] [] SH RHO u := by
  intro n
  induction n with
  | zero =>
    intro l1 l2 h
    exact nn_ h
  | succ n ih =>
    intro l1 l2 h
    exact bX12_left_146_4 hX hR ih l1 l2 h
def FX12_left_146 (u : Mem) : Option Int32 :=
  FX12_left_146_L4 FU 0 0 u
theorem CX12_left_146 {G : Gt} (u : Mem) {v : Int32} (h : FX12_left_146 u = some v) : CT G yX12_left cX12_left 3 (some .int) 2 [.ref 146] SH RHO u (some (.int v), SH, RHO, u) :=
  ct_of (by decide) rfl (Nat.le_of_ble_eq_true rfl) (Nat.le_refl _) (Nat.le_refl _) (fun X hX hR => by
  unfold FX12_left_146 at h
  refine w_iconst 0 0 hX ic_0 dX12_left_0 ?_
  refine w_istore_n (lv' := [(1, .int 0), (0, .ref 146)]) 1 hX rfl dX12_left_1 (by decide) rfl ?_
  refine w_iconst 0 2 hX ic_0 dX12_left_2 ?_
  refine w_istore_n (lv' := [(2, .int 0), (1, .int 0), (0, .ref 146)]) 3 hX rfl dX12_left_3 (by decide) rfl ?_
  exact w_sub [2, 1, 0] rfl (lX12_left_146_4 hX hR FU 0 0 h))
def FX7_firstAsked_106_b116 (k18 : Int32 → Int32 → Int32 → Int32 → Mem → Option Int32) (l1 l2 l3 l4 : Int32) (u : Mem) : Option Int32 :=
  k18 l1 l2 l3 (l4 + 1) u
theorem bX7_firstAsked_106_116 {G : Gt} {X : Xt} {v : Int32} {u : Mem} (hX : CxOk G X cX7_firstAsked 7 RX7 (some (.int v), SH, RHO, u) 2) (hR : CxRet G X (some .int) (some (.int v), SH, RHO, u)) {k18 : Int32 → Int32 → Int32 → Int32 → Mem → Option Int32} (hk18 : ∀ (l1 l2 l3 l4 : Int32), k18 l1 l2 l3 l4 u = some v → WM G X 18 [(0, .ref 106), (1, .int l1), (2, .int l2), (3, .int l3), (4, .int l4)] [] SH RHO u) (l1 l2 l3 l4 : Int32) (h : FX7_firstAsked_106_b116 k18 l1 l2 l3 l4 u = some v) : WM G X 116 [(0, .ref 106), (1, .int l1), (2, .int l2), (3, .int l3), (4, .int l4)] [] SH RHO u := by
  unfold FX7_firstAsked_106_b116 at h
  refine w_iinc (lv' := [(4, .int (l4 + 1)), (0, .ref 106), (1, .int l1), (2, .int l2), (3, .int l3)]) 116 4 hX dX7_firstAsked_116 rfl (inc_1 _) (by decide) rfl ?_
  refine w_goto (tgt := 18) 119 hX (by decide) dX7_firstAsked_119 ?_
  exact w_sub [1, 2, 3, 4, 0] rfl (hk18 l1 l2 l3 (l4 + 1) h)
def FX7_firstAsked_106_b90 (k18 : Int32 → Int32 → Int32 → Int32 → Mem → Option Int32) (l1 l2 l3 l4 l5 : Int32) (u : Mem) : Option Int32 :=
  (FJ6_bitCount_0f7a4 l1).bind fun x1 => (if l3 ≤ (if l5 < (x1 - l5) then (x1 - l5) else l5) then (FX7_firstAsked_106_b116 k18 l1 l2 l3 l4 u) else (FX7_firstAsked_106_b116 k18 l1 l4 (if l5 < (x1 - l5) then (x1 - l5) else l5) l4 u))
theorem bX7_firstAsked_106_90 {G : Gt} {X : Xt} {v : Int32} {u : Mem} (hX : CxOk G X cX7_firstAsked 7 RX7 (some (.int v), SH, RHO, u) 2) (hR : CxRet G X (some .int) (some (.int v), SH, RHO, u)) {k18 : Int32 → Int32 → Int32 → Int32 → Mem → Option Int32} (hk18 : ∀ (l1 l2 l3 l4 : Int32), k18 l1 l2 l3 l4 u = some v → WM G X 18 [(0, .ref 106), (1, .int l1), (2, .int l2), (3, .int l3), (4, .int l4)] [] SH RHO u) (l1 l2 l3 l4 l5 : Int32) (h : FX7_firstAsked_106_b90 k18 l1 l2 l3 l4 l5 u = some v) : WM G X 90 [(0, .ref 106), (1, .int l1), (2, .int l2), (3, .int l3), (4, .int l4), (5, .int l5)] [] SH RHO u := by
  unfold FX7_firstAsked_106_b90 at h
  refine w_iload 5 90 hX rfl dX7_firstAsked_90 ?_
  refine w_iload_n 1 92 hX rfl rfl dX7_firstAsked_92 ?_
  obtain ⟨x1, gx1, h⟩ := o_bind h
  refine w_invSi (av := [.int l1]) (st := [.int l5]) 93 hX ms_yJ6_bitCount_0f7a4 mi_yJ6_bitCount_0f7a4 ml_X7_84 (CJ6_bitCount_0f7a4 l1 u gx1) rfl (by decide) (Nat.le_of_ble_eq_true rfl) (Nat.le_refl _) (Nat.le_refl _) dX7_firstAsked_93 ?_
  refine w_iload 5 96 hX rfl dX7_firstAsked_96 ?_
  refine w_isub 98 hX dX7_firstAsked_98 ?_
  refine w_max 99 hX ml_X7_135 jm_max_s jm_i jm_max_c (by decide) (Nat.le_of_ble_eq_true rfl) (Nat.le_refl _) (Nat.le_refl _) dX7_firstAsked_99 ?_
  refine w_istore (lv' := [(6, .int (if l5 < (x1 - l5) then (x1 - l5) else l5)), (0, .ref 106), (1, .int l1), (2, .int l2), (3, .int l3), (4, .int l4), (5, .int l5)]) 102 hX dX7_firstAsked_102 (by decide) rfl ?_
  refine w_iload 0 104 hX rfl dX7_firstAsked_104 ?_
  refine w_iload_n 4 106 hX rfl rfl dX7_firstAsked_106 ?_
  refine w_icmp_ge (tgt := 116) 107 hX dX7_firstAsked_107 (by decide) (fun c2 => ?_) (fun c2 => ?_)
  · have h := it h c2
    exact w_sub [1, 2, 3, 4, 5] rfl (bX7_firstAsked_106_116 hX hR hk18 l1 l2 l3 l4 h)
  · have h := ie h c2
    refine w_iload 5 110 hX rfl dX7_firstAsked_110 ?_
    refine w_istore_n (lv' := [(2, .int l4), (6, .int (if l5 < (x1 - l5) then (x1 - l5) else l5)), (0, .ref 106), (1, .int l1), (3, .int l3), (4, .int l4), (5, .int l5)]) 112 hX rfl dX7_firstAsked_112 (by decide) rfl ?_
    refine w_iload 1 113 hX rfl dX7_firstAsked_113 ?_
    refine w_istore_n (lv' := [(3, .int (if l5 < (x1 - l5) then (x1 - l5) else l5)), (2, .int l4), (6, .int (if l5 < (x1 - l5) then (x1 - l5) else l5)), (0, .ref 106), (1, .int l1), (4, .int l4), (5, .int l5)]) 115 hX rfl dX7_firstAsked_115 (by decide) rfl ?_
    exact w_sub [3, 4, 1, 0, 5] rfl (bX7_firstAsked_106_116 hX hR hk18 l1 l4 (if l5 < (x1 - l5) then (x1 - l5) else l5) l4 h)
def FX7_firstAsked_106_b81 (k31 : Int32 → Int32 → Int32 → Int32 → Int32 → Int32 → Mem → Option Int32) (l1 l2 l3 l4 l6 t0 t1 : Int32) (u : Mem) : Option Int32 :=
  k31 l1 l2 l3 l4 (t0 + t1) (l6 + 1) u
theorem bX7_firstAsked_106_81 {G : Gt} {X : Xt} {v : Int32} {u : Mem} (hX : CxOk G X cX7_firstAsked 7 RX7 (some (.int v), SH, RHO, u) 2) (hR : CxRet G X (some .int) (some (.int v), SH, RHO, u)) {k31 : Int32 → Int32 → Int32 → Int32 → Int32 → Int32 → Mem → Option Int32} (hk31 : ∀ (l1 l2 l3 l4 l5 l6 : Int32), k31 l1 l2 l3 l4 l5 l6 u = some v → WM G X 31 [(0, .ref 106), (1, .int l1), (2, .int l2), (3, .int l3), (4, .int l4), (5, .int l5), (6, .int l6)] [] SH RHO u) (l1 l2 l3 l4 l6 t0 t1 : Int32) (h : FX7_firstAsked_106_b81 k31 l1 l2 l3 l4 l6 t0 t1 u = some v) : WM G X 81 [(0, .ref 106), (1, .int l1), (2, .int l2), (3, .int l3), (4, .int l4), (6, .int l6)] [.int t1, .int t0] SH RHO u := by
  unfold FX7_firstAsked_106_b81 at h
  refine w_iadd 81 hX dX7_firstAsked_81 ?_
  refine w_istore (lv' := [(5, .int (t0 + t1)), (0, .ref 106), (1, .int l1), (2, .int l2), (3, .int l3), (4, .int l4), (6, .int l6)]) 82 hX dX7_firstAsked_82 (by decide) rfl ?_
  refine w_iinc (lv' := [(6, .int (l6 + 1)), (5, .int (t0 + t1)), (0, .ref 106), (1, .int l1), (2, .int l2), (3, .int l3), (4, .int l4)]) 84 6 hX dX7_firstAsked_84 rfl (inc_1 _) (by decide) rfl ?_
  refine w_goto (tgt := 31) 87 hX (by decide) dX7_firstAsked_87 ?_
  exact w_sub [2, 3, 4, 5, 6, 1, 0] rfl (hk31 l1 l2 l3 l4 (t0 + t1) (l6 + 1) h)
def FX7_firstAsked_106_b31 (k18 : Int32 → Int32 → Int32 → Int32 → Mem → Option Int32) (k31 : Int32 → Int32 → Int32 → Int32 → Int32 → Int32 → Mem → Option Int32) (l1 l2 l3 l4 l5 l6 : Int32) (u : Mem) : Option Int32 :=
  (if 12 ≤ l6 then (FX7_firstAsked_106_b90 k18 l1 l2 l3 l4 l5 u) else ((if (u 1 0) ≤ l6 then (FX7_firstAsked_106_b90 k18 l1 l2 l3 l4 l5 u) else ((FX11_holds l1 l6).bind fun x3 => (if x3 = 0 then (FX7_firstAsked_106_b81 k31 l1 l2 l3 l4 l6 l5 0 u) else ((rdA u 4 12 l6).bind fun x5 => (if l4 < x5 then (FX7_firstAsked_106_b81 k31 l1 l2 l3 l4 l6 l5 0 u) else (FX7_firstAsked_106_b81 k31 l1 l2 l3 l4 l6 l5 1 u))))))))
theorem bX7_firstAsked_106_31 {G : Gt} {X : Xt} {v : Int32} {u : Mem} (hX : CxOk G X cX7_firstAsked 7 RX7 (some (.int v), SH, RHO, u) 2) (hR : CxRet G X (some .int) (some (.int v), SH, RHO, u)) {k18 : Int32 → Int32 → Int32 → Int32 → Mem → Option Int32} (hk18 : ∀ (l1 l2 l3 l4 : Int32), k18 l1 l2 l3 l4 u = some v → WM G X 18 [(0, .ref 106), (1, .int l1), (2, .int l2), (3, .int l3), (4, .int l4)] [] SH RHO u) {k31 : Int32 → Int32 → Int32 → Int32 → Int32 → Int32 → Mem → Option Int32} (hk31 : ∀ (l1 l2 l3 l4 l5 l6 : Int32), k31 l1 l2 l3 l4 l5 l6 u = some v → WM G X 31 [(0, .ref 106), (1, .int l1), (2, .int l2), (3, .int l3), (4, .int l4), (5, .int l5), (6, .int l6)] [] SH RHO u) (l1 l2 l3 l4 l5 l6 : Int32) (h : FX7_firstAsked_106_b31 k18 k31 l1 l2 l3 l4 l5 l6 u = some v) : WM G X 31 [(0, .ref 106), (1, .int l1), (2, .int l2), (3, .int l3), (4, .int l4), (5, .int l5), (6, .int l6)] [] SH RHO u := by
  unfold FX7_firstAsked_106_b31 at h
  refine w_iload 6 31 hX rfl dX7_firstAsked_31 ?_
  refine w_bipush 12 33 hX ib_12 dX7_firstAsked_33 ?_
  refine w_icmp_ge (tgt := 90) 35 hX dX7_firstAsked_35 (by decide) (fun c1 => ?_) (fun c1 => ?_)
  · have h := it h c1
    exact w_sub [0, 1, 2, 3, 4, 5] rfl (bX7_firstAsked_106_90 hX hR hk18 l1 l2 l3 l4 l5 h)
  · have h := ie h c1
    refine w_iload 6 38 hX rfl dX7_firstAsked_38 ?_
    refine w_aload_n 0 40 hX rfl rfl dX7_firstAsked_40 ?_
    refine w_getR 41 hX CI_7 s_106 rfl r_106_0 fl_X7_36 rfl dX7_firstAsked_41 ?_
    refine w_getI (j := 0) 44 hX CI_9 s_1 rfl fl_X7_48 rfl dX7_firstAsked_44 ?_
    refine w_icmp_ge (tgt := 90) 47 hX dX7_firstAsked_47 (by decide) (fun c2 => ?_) (fun c2 => ?_)
    · have h := it h c2
      exact w_sub [0, 1, 2, 3, 4, 5] rfl (bX7_firstAsked_106_90 hX hR hk18 l1 l2 l3 l4 l5 h)
    · have h := ie h c2
      refine w_iload 5 50 hX rfl dX7_firstAsked_50 ?_
      refine w_iload_n 1 52 hX rfl rfl dX7_firstAsked_52 ?_
      refine w_iload 6 53 hX rfl dX7_firstAsked_53 ?_
      obtain ⟨x3, gx3, h⟩ := o_bind h
      refine w_invSNi (av := [.int l1, .int l6]) (st := [.int l5]) 55 hX ms_yX11_holds mi_yX11_holds ml_X7_59 (CX11_holds l1 l6 u gx3) rfl (by decide) (Nat.le_of_ble_eq_true rfl) (Nat.le_refl _) (Nat.le_refl _) dX7_firstAsked_55 ?_
      refine w_if_eq (tgt := 80) 58 hX dX7_firstAsked_58 (by decide) (fun c4 => ?_) (fun c4 => ?_)
      · have h := it h c4
        refine w_iconst 0 80 hX ic_0 dX7_firstAsked_80 ?_
        exact w_sub [0, 1, 2, 3, 4, 6] rfl (bX7_firstAsked_106_81 hX hR hk31 l1 l2 l3 l4 l6 l5 0 h)
      · have h := ie h c4
        refine w_aload_n 0 61 hX rfl rfl dX7_firstAsked_61 ?_
        refine w_getR 62 hX CI_7 s_106 rfl r_106_0 fl_X7_36 rfl dX7_firstAsked_62 ?_
        refine w_getR 65 hX CI_9 s_1 rfl r_1_3 fl_X7_81 rfl dX7_firstAsked_65 ?_
        refine w_iload 6 68 hX rfl dX7_firstAsked_68 ?_
        obtain ⟨x5, gx5, h⟩ := o_bind h
        refine w_iald 70 hX s_4 gx5 dX7_firstAsked_70 ?_
        refine w_iload 4 71 hX rfl dX7_firstAsked_71 ?_
        refine w_icmp_gt (tgt := 80) 73 hX dX7_firstAsked_73 (by decide) (fun c6 => ?_) (fun c6 => ?_)
        · have h := it h c6
          refine w_iconst 0 80 hX ic_0 dX7_firstAsked_80 ?_
          exact w_sub [0, 1, 2, 3, 4, 6] rfl (bX7_firstAsked_106_81 hX hR hk31 l1 l2 l3 l4 l6 l5 0 h)
        · have h := ie h c6
          refine w_iconst 1 76 hX ic_1 dX7_firstAsked_76 ?_
          refine w_goto (tgt := 81) 77 hX (by decide) dX7_firstAsked_77 ?_
          exact w_sub [0, 1, 2, 3, 4, 6] rfl (bX7_firstAsked_106_81 hX hR hk31 l1 l2 l3 l4 l6 l5 1 h)
def FX7_firstAsked_106_L31 (k18 : Int32 → Int32 → Int32 → Int32 → Mem → Option Int32) : Nat → Int32 → Int32 → Int32 → Int32 → Int32 → Int32 → Mem → Option Int32
  | 0, _, _, _, _, _, _, _ => none
  | n + 1, l1, l2, l3, l4, l5, l6, u => FX7_firstAsked_106_b31 k18 (FX7_firstAsked_106_L31 k18 n) l1 l2 l3 l4 l5 l6 u
theorem lX7_firstAsked_106_31 {G : Gt} {X : Xt} {v : Int32} {u : Mem} (hX : CxOk G X cX7_firstAsked 7 RX7 (some (.int v), SH, RHO, u) 2) (hR : CxRet G X (some .int) (some (.int v), SH, RHO, u)) {k18 : Int32 → Int32 → Int32 → Int32 → Mem → Option Int32} (hk18 : ∀ (l1 l2 l3 l4 : Int32), k18 l1 l2 l3 l4 u = some v → WM G X 18 [(0, .ref 106), (1, .int l1), (2, .int l2), (3, .int l3), (4, .int l4)] [] SH RHO u) : ∀ (n : Nat) (l1 l2 l3 l4 l5 l6 : Int32), FX7_firstAsked_106_L31 k18 n l1 l2 l3 l4 l5 l6 u = some v → WM G X 31 [(0, .ref 106), (1, .int l1), (2, .int l2), (3, .int l3), (4, .int l4), (5, .int l5), (6, .int l6)] [] SH RHO u := by
  intro n
  induction n with
  | zero =>
    intro l1 l2 l3 l4 l5 l6 h
    exact nn_ h
  | succ n ih =>
    intro l1 l2 l3 l4 l5 l6 h
    exact bX7_firstAsked_106_31 hX hR hk18 ih l1 l2 l3 l4 l5 l6 h
def FX7_firstAsked_106_b18 (k18 : Int32 → Int32 → Int32 → Int32 → Mem → Option Int32) (l1 l2 l3 l4 : Int32) (u : Mem) : Option Int32 :=
  (if 9 < l4 then (some l2) else (FX7_firstAsked_106_L31 k18 FU l1 l2 l3 l4 0 0 u))
theorem bX7_firstAsked_106_18 {G : Gt} {X : Xt} {v : Int32} {u : Mem} (hX : CxOk G X cX7_firstAsked 7 RX7 (some (.int v), SH, RHO, u) 2) (hR : CxRet G X (some .int) (some (.int v), SH, RHO, u)) {k18 : Int32 → Int32 → Int32 → Int32 → Mem → Option Int32} (hk18 : ∀ (l1 l2 l3 l4 : Int32), k18 l1 l2 l3 l4 u = some v → WM G X 18 [(0, .ref 106), (1, .int l1), (2, .int l2), (3, .int l3), (4, .int l4)] [] SH RHO u) (l1 l2 l3 l4 : Int32) (h : FX7_firstAsked_106_b18 k18 l1 l2 l3 l4 u = some v) : WM G X 18 [(0, .ref 106), (1, .int l1), (2, .int l2), (3, .int l3), (4, .int l4)] [] SH RHO u := by
  unfold FX7_firstAsked_106_b18 at h
  refine w_iload 4 18 hX rfl dX7_firstAsked_18 ?_
  refine w_bipush 9 20 hX ib_9 dX7_firstAsked_20 ?_
  refine w_icmp_gt (tgt := 122) 22 hX dX7_firstAsked_22 (by decide) (fun c1 => ?_) (fun c1 => ?_)
  · have h := it h c1
    refine w_iload_n 2 122 hX rfl rfl dX7_firstAsked_122 ?_
    exact w_iret 123 hX hR dX7_firstAsked_123 (by cases h; rfl)
  · have h := ie h c1
    refine w_iconst 0 25 hX ic_0 dX7_firstAsked_25 ?_
    refine w_istore (lv' := [(5, .int 0), (0, .ref 106), (1, .int l1), (2, .int l2), (3, .int l3), (4, .int l4)]) 26 hX dX7_firstAsked_26 (by decide) rfl ?_
    refine w_iconst 0 28 hX ic_0 dX7_firstAsked_28 ?_
    refine w_istore (lv' := [(6, .int 0), (5, .int 0), (0, .ref 106), (1, .int l1), (2, .int l2), (3, .int l3), (4, .int l4)]) 29 hX dX7_firstAsked_29 (by decide) rfl ?_
    exact w_sub [2, 3, 4, 5, 6, 1, 0] rfl (lX7_firstAsked_106_31 hX hR hk18 FU l1 l2 l3 l4 0 0 h)
def FX7_firstAsked_106_L18 : Nat → Int32 → Int32 → Int32 → Int32 → Mem → Option Int32
  | 0, _, _, _, _, _ => none
  | n + 1, l1, l2, l3, l4, u => FX7_firstAsked_106_b18 (FX7_firstAsked_106_L18 n) l1 l2 l3 l4 u
theorem lX7_firstAsked_106_18 {G : Gt} {X : Xt} {v : Int32} {u : Mem} (hX : CxOk G X cX7_firstAsked 7 RX7 (some (.int v), SH, RHO, u) 2) (hR : CxRet G X (some .int) (some (.int v), SH, RHO, u)) : ∀ (n : Nat) (l1 l2 l3 l4 : Int32), FX7_firstAsked_106_L18 n l1 l2 l3 l4 u = some v → WM G X 18 [(0, .ref 106), (1, .int l1), (2, .int l2), (3, .int l3), (4, .int l4)] [] SH RHO u := by
  intro n
  induction n with
  | zero =>
    intro l1 l2 l3 l4 h
    exact nn_ h
  | succ n ih =>
    intro l1 l2 l3 l4 h
    exact bX7_firstAsked_106_18 hX hR ih l1 l2 l3 l4 h
def FX7_firstAsked_106 (p1 : Int32) (u : Mem) : Option Int32 :=
  (FJ6_bitCount_0f7a4 p1).bind fun x1 => (if 2 ≤ x1 then (FX7_firstAsked_106_L18 FU p1 (-1) 13 1 u) else (some (-1)))
theorem CX7_firstAsked_106 {G : Gt} (p1 : Int32) (u : Mem) {v : Int32} (h : FX7_firstAsked_106 p1 u = some v) : CT G yX7_firstAsked cX7_firstAsked 7 (some .int) 2 [.ref 106, .int p1] SH RHO u (some (.int v), SH, RHO, u) :=
  ct_of (by decide) rfl (Nat.le_of_ble_eq_true rfl) (Nat.le_refl _) (Nat.le_refl _) (fun X hX hR => by
  unfold FX7_firstAsked_106 at h
  refine w_iload_n 1 0 hX rfl rfl dX7_firstAsked_0 ?_
  obtain ⟨x1, gx1, h⟩ := o_bind h
  refine w_invSi (av := [.int p1]) (st := []) 1 hX ms_yJ6_bitCount_0f7a4 mi_yJ6_bitCount_0f7a4 ml_X7_84 (CJ6_bitCount_0f7a4 p1 u gx1) rfl (by decide) (Nat.le_of_ble_eq_true rfl) (Nat.le_refl _) (Nat.le_refl _) dX7_firstAsked_1 ?_
  refine w_iconst 2 4 hX ic_2 dX7_firstAsked_4 ?_
  refine w_icmp_ge (tgt := 10) 5 hX dX7_firstAsked_5 (by decide) (fun c2 => ?_) (fun c2 => ?_)
  · have h := it h c2
    refine w_iconst (-1) 10 hX ic_m1 dX7_firstAsked_10 ?_
    refine w_istore_n (lv' := [(2, .int (-1)), (0, .ref 106), (1, .int p1)]) 11 hX rfl dX7_firstAsked_11 (by decide) rfl ?_
    refine w_bipush 13 12 hX ib_13 dX7_firstAsked_12 ?_
    refine w_istore_n (lv' := [(3, .int 13), (2, .int (-1)), (0, .ref 106), (1, .int p1)]) 14 hX rfl dX7_firstAsked_14 (by decide) rfl ?_
    refine w_iconst 1 15 hX ic_1 dX7_firstAsked_15 ?_
    refine w_istore (lv' := [(4, .int 1), (3, .int 13), (2, .int (-1)), (0, .ref 106), (1, .int p1)]) 16 hX dX7_firstAsked_16 (by decide) rfl ?_
    exact w_sub [3, 4, 2, 1, 0] rfl (lX7_firstAsked_106_18 hX hR FU p1 (-1) 13 1 h)
  · have h := ie h c2
    refine w_iconst (-1) 8 hX ic_m1 dX7_firstAsked_8 ?_
    exact w_iret 9 hX hR dX7_firstAsked_9 (by cases h; rfl))
def FX11_ask_0 (u : Mem) : Option Int32 :=
  (FX9_couldHaveLeft_1 u).bind fun x1 => (FX7_firstAsked_106 x1 u).bind fun x2 => some x2
theorem CX11_ask_0 {G : Gt} (u : Mem) {v : Int32} (h : FX11_ask_0 u = some v) : CT G yX11_ask cX11_ask 1 (some .int) 3 [.ref 0] SH RHO u (some (.int v), SH, RHO, u) :=
  ct_of (by decide) rfl (Nat.le_of_ble_eq_true rfl) (Nat.le_refl _) (Nat.le_refl _) (fun X hX hR => by
  unfold FX11_ask_0 at h
  refine w_aload_n 0 0 hX rfl rfl dX11_ask_0 ?_
  refine w_getR 1 hX CI_11 s_0 rfl r_0_7 fl_X11_67 rfl dX11_ask_1 ?_
  refine w_aload_n 0 4 hX rfl rfl dX11_ask_4 ?_
  refine w_getR 5 hX CI_11 s_0 rfl r_0_0 fl_X11_10 rfl dX11_ask_5 ?_
  obtain ⟨x1, gx1, h⟩ := o_bind h
  refine w_invVi (av := []) (st := [.ref 106]) 8 hX CI_9 s_1 rfl mv_yX9_couldHaveLeft mi_yX9_couldHaveLeft ml_X11_251 (CX9_couldHaveLeft_1 u gx1) rfl (by decide) (Nat.le_of_ble_eq_true rfl) (Nat.le_refl _) (Nat.le_refl _) dX11_ask_8 ?_
  obtain ⟨x2, gx2, h⟩ := o_bind h
  refine w_invVi (av := [.int x1]) (st := []) 11 hX CI_7 s_106 rfl mv_yX7_firstAsked mi_yX7_firstAsked ml_X11_255 (CX7_firstAsked_106 x1 u gx2) rfl (by decide) (Nat.le_of_ble_eq_true rfl) (Nat.le_refl _) (Nat.le_refl _) dX11_ask_11 ?_
  exact w_iret 14 hX hR dX11_ask_14 (by cases h; rfl))
def FX12_greaterBy_146_b47 (k5 : Int32 → Int32 → Int32 → Int32 → Mem → Option Int32) (l1 l2 l4 t0 t1 : Int32) (u : Mem) : Option Int32 :=
  k5 l1 l2 (t0 + t1) (l4 + 1) u
theorem bX12_greaterBy_146_47 {G : Gt} {X : Xt} {v : Int32} {u : Mem} (hX : CxOk G X cX12_greaterBy 5 RX12 (some (.int v), SH, RHO, u) 2) (hR : CxRet G X (some .int) (some (.int v), SH, RHO, u)) {k5 : Int32 → Int32 → Int32 → Int32 → Mem → Option Int32} (hk5 : ∀ (l1 l2 l3 l4 : Int32), k5 l1 l2 l3 l4 u = some v → WM G X 5 [(0, .ref 146), (1, .int l1), (2, .int l2), (3, .int l3), (4, .int l4)] [] SH RHO u) (l1 l2 l4 t0 t1 : Int32) (h : FX12_greaterBy_146_b47 k5 l1 l2 l4 t0 t1 u = some v) : WM G X 47 [(0, .ref 146), (1, .int l1), (2, .int l2), (4, .int l4)] [.int t1, .int t0] SH RHO u := by
  unfold FX12_greaterBy_146_b47 at h
  refine w_iadd 47 hX dX12_greaterBy_47 ?_
  refine w_istore_n (lv' := [(3, .int (t0 + t1)), (0, .ref 146), (1, .int l1), (2, .int l2), (4, .int l4)]) 48 hX rfl dX12_greaterBy_48 (by decide) rfl ?_
  refine w_iinc (lv' := [(4, .int (l4 + 1)), (3, .int (t0 + t1)), (0, .ref 146), (1, .int l1), (2, .int l2)]) 49 4 hX dX12_greaterBy_49 rfl (inc_1 _) (by decide) rfl ?_
  refine w_goto (tgt := 5) 52 hX (by decide) dX12_greaterBy_52 ?_
  exact w_sub [2, 3, 4, 1, 0] rfl (hk5 l1 l2 (t0 + t1) (l4 + 1) h)
def FX12_greaterBy_146_b5 (k5 : Int32 → Int32 → Int32 → Int32 → Mem → Option Int32) (l1 l2 l3 l4 : Int32) (u : Mem) : Option Int32 :=
  (if (u 147 78) ≤ l4 then ((FX12_count l2).bind fun x2 => (FX12_greater l3 (x2 - l3)).bind fun x3 => some x3) else ((if ((l2 >>> (l4 &&& 31)) &&& 1) = 1 then ((rdA u 147 1786 (114 + l4)).bind fun x5 => (if l1 < x5 then (FX12_greaterBy_146_b47 k5 l1 l2 l4 l3 0 u) else (FX12_greaterBy_146_b47 k5 l1 l2 l4 l3 1 u))) else (FX12_greaterBy_146_b47 k5 l1 l2 l4 l3 0 u))))
theorem bX12_greaterBy_146_5 {G : Gt} {X : Xt} {v : Int32} {u : Mem} (hX : CxOk G X cX12_greaterBy 5 RX12 (some (.int v), SH, RHO, u) 2) (hR : CxRet G X (some .int) (some (.int v), SH, RHO, u)) {k5 : Int32 → Int32 → Int32 → Int32 → Mem → Option Int32} (hk5 : ∀ (l1 l2 l3 l4 : Int32), k5 l1 l2 l3 l4 u = some v → WM G X 5 [(0, .ref 146), (1, .int l1), (2, .int l2), (3, .int l3), (4, .int l4)] [] SH RHO u) (l1 l2 l3 l4 : Int32) (h : FX12_greaterBy_146_b5 k5 l1 l2 l3 l4 u = some v) : WM G X 5 [(0, .ref 146), (1, .int l1), (2, .int l2), (3, .int l3), (4, .int l4)] [] SH RHO u := by
  unfold FX12_greaterBy_146_b5 at h
  refine w_iload 4 5 hX rfl dX12_greaterBy_5 ?_
  refine w_aload_n 0 7 hX rfl rfl dX12_greaterBy_7 ?_
  refine w_getR 8 hX CI_12 s_146 rfl r_146_0 fl_X12_7 rfl dX12_greaterBy_8 ?_
  refine w_bipush 78 11 hX ib_78 dX12_greaterBy_11 ?_
  refine w_iald 13 hX s_147 (rdK 78 78 n_78 (by decide) (by decide)) dX12_greaterBy_13 ?_
  refine w_icmp_ge (tgt := 55) 14 hX dX12_greaterBy_14 (by decide) (fun c1 => ?_) (fun c1 => ?_)
  · have h := it h c1
    refine w_iload_n 3 55 hX rfl rfl dX12_greaterBy_55 ?_
    refine w_iload_n 2 56 hX rfl rfl dX12_greaterBy_56 ?_
    obtain ⟨x2, gx2, h⟩ := o_bind h
    refine w_invSi (av := [.int l2]) (st := [.int l3]) 57 hX ms_yX12_count mi_yX12_count ml_X12_291 (CX12_count l2 u gx2) rfl (by decide) (Nat.le_of_ble_eq_true rfl) (Nat.le_refl _) (Nat.le_refl _) dX12_greaterBy_57 ?_
    refine w_iload_n 3 60 hX rfl rfl dX12_greaterBy_60 ?_
    refine w_isub 61 hX dX12_greaterBy_61 ?_
    obtain ⟨x3, gx3, h⟩ := o_bind h
    refine w_invSi (av := [.int l3, .int (x2 - l3)]) (st := []) 62 hX ms_yX12_greater mi_yX12_greater ml_X12_300 (CX12_greater l3 (x2 - l3) u gx3) rfl (by decide) (Nat.le_of_ble_eq_true rfl) (Nat.le_refl _) (Nat.le_refl _) dX12_greaterBy_62 ?_
    exact w_iret 65 hX hR dX12_greaterBy_65 (by cases h; rfl)
  · have h := ie h c1
    refine w_iload_n 3 17 hX rfl rfl dX12_greaterBy_17 ?_
    refine w_iload_n 2 18 hX rfl rfl dX12_greaterBy_18 ?_
    refine w_iload 4 19 hX rfl dX12_greaterBy_19 ?_
    refine w_ishr 21 hX dX12_greaterBy_21 ?_
    refine w_iconst 1 22 hX ic_1 dX12_greaterBy_22 ?_
    refine w_iand 23 hX dX12_greaterBy_23 ?_
    refine w_iconst 1 24 hX ic_1 dX12_greaterBy_24 ?_
    refine w_icmp_ne (tgt := 46) 25 hX dX12_greaterBy_25 (by decide) (fun c4 => ?_) (fun c4 => ?_)
    · have h := ie h c4
      refine w_iconst 0 46 hX ic_0 dX12_greaterBy_46 ?_
      exact w_sub [0, 1, 2, 4] rfl (bX12_greaterBy_146_47 hX hR hk5 l1 l2 l4 l3 0 h)
    · have h := it h c4
      refine w_aload_n 0 28 hX rfl rfl dX12_greaterBy_28 ?_
      refine w_getR 29 hX CI_12 s_146 rfl r_146_0 fl_X12_7 rfl dX12_greaterBy_29 ?_
      refine w_bipush 114 32 hX ib_114 dX12_greaterBy_32 ?_
      refine w_iload 4 34 hX rfl dX12_greaterBy_34 ?_
      refine w_iadd 36 hX dX12_greaterBy_36 ?_
      obtain ⟨x5, gx5, h⟩ := o_bind h
      refine w_iald 37 hX s_147 gx5 dX12_greaterBy_37 ?_
      refine w_iload_n 1 38 hX rfl rfl dX12_greaterBy_38 ?_
      refine w_icmp_gt (tgt := 46) 39 hX dX12_greaterBy_39 (by decide) (fun c6 => ?_) (fun c6 => ?_)
      · have h := it h c6
        refine w_iconst 0 46 hX ic_0 dX12_greaterBy_46 ?_
        exact w_sub [0, 1, 2, 4] rfl (bX12_greaterBy_146_47 hX hR hk5 l1 l2 l4 l3 0 h)
      · have h := ie h c6
        refine w_iconst 1 42 hX ic_1 dX12_greaterBy_42 ?_
        refine w_goto (tgt := 47) 43 hX (by decide) dX12_greaterBy_43 ?_
        exact w_sub [0, 1, 2, 4] rfl (bX12_greaterBy_146_47 hX hR hk5 l1 l2 l4 l3 1 h)
def FX12_greaterBy_146_L5 : Nat → Int32 → Int32 → Int32 → Int32 → Mem → Option Int32
  | 0, _, _, _, _, _ => none
  | n + 1, l1, l2, l3, l4, u => FX12_greaterBy_146_b5 (FX12_greaterBy_146_L5 n) l1 l2 l3 l4 u
theorem lX12_greaterBy_146_5 {G : Gt} {X : Xt} {v : Int32} {u : Mem} (hX : CxOk G X cX12_greaterBy 5 RX12 (some (.int v), SH, RHO, u) 2) (hR : CxRet G X (some .int) (some (.int v), SH, RHO, u)) : ∀ (n : Nat) (l1 l2 l3 l4 : Int32), FX12_greaterBy_146_L5 n l1 l2 l3 l4 u = some v → WM G X 5 [(0, .ref 146), (1, .int l1), (2, .int l2), (3, .int l3), (4, .int l4)] [] SH RHO u := by
  intro n
  induction n with
  | zero =>
    intro l1 l2 l3 l4 h
    exact nn_ h
  | succ n ih =>
    intro l1 l2 l3 l4 h
    exact bX12_greaterBy_146_5 hX hR ih l1 l2 l3 l4 h
def FX12_greaterBy_146 (p1 p2 : Int32) (u : Mem) : Option Int32 :=
  FX12_greaterBy_146_L5 FU p1 p2 0 0 u
theorem CX12_greaterBy_146 {G : Gt} (p1 p2 : Int32) (u : Mem) {v : Int32} (h : FX12_greaterBy_146 p1 p2 u = some v) : CT G yX12_greaterBy cX12_greaterBy 5 (some .int) 2 [.ref 146, .int p1, .int p2] SH RHO u (some (.int v), SH, RHO, u) :=
  ct_of (by decide) rfl (Nat.le_of_ble_eq_true rfl) (Nat.le_refl _) (Nat.le_refl _) (fun X hX hR => by
  unfold FX12_greaterBy_146 at h
  refine w_iconst 0 0 hX ic_0 dX12_greaterBy_0 ?_
  refine w_istore_n (lv' := [(3, .int 0), (0, .ref 146), (1, .int p1), (2, .int p2)]) 1 hX rfl dX12_greaterBy_1 (by decide) rfl ?_
  refine w_iconst 0 2 hX ic_0 dX12_greaterBy_2 ?_
  refine w_istore (lv' := [(4, .int 0), (3, .int 0), (0, .ref 146), (1, .int p1), (2, .int p2)]) 3 hX dX12_greaterBy_3 (by decide) rfl ?_
  exact w_sub [2, 3, 4, 1, 0] rfl (lX12_greaterBy_146_5 hX hR FU p1 p2 0 0 h))
def FX12_ask_146_b42 (k19 : Int32 → Int32 → Int32 → Mem → Option Int32) (l1 l2 l3 : Int32) (u : Mem) : Option Int32 :=
  k19 l1 l2 (l3 + 1) u
theorem bX12_ask_146_42 {G : Gt} {X : Xt} {v : Int32} {u : Mem} (hX : CxOk G X cX12_ask 4 RX12 (some (.int v), SH, RHO, u) 3) (hR : CxRet G X (some .int) (some (.int v), SH, RHO, u)) {k19 : Int32 → Int32 → Int32 → Mem → Option Int32} (hk19 : ∀ (l1 l2 l3 : Int32), k19 l1 l2 l3 u = some v → WM G X 19 [(0, .ref 146), (1, .int l1), (2, .int l2), (3, .int l3)] [] SH RHO u) (l1 l2 l3 : Int32) (h : FX12_ask_146_b42 k19 l1 l2 l3 u = some v) : WM G X 42 [(0, .ref 146), (1, .int l1), (2, .int l2), (3, .int l3)] [] SH RHO u := by
  unfold FX12_ask_146_b42 at h
  refine w_iinc (lv' := [(3, .int (l3 + 1)), (0, .ref 146), (1, .int l1), (2, .int l2)]) 42 3 hX dX12_ask_42 rfl (inc_1 _) (by decide) rfl ?_
  refine w_goto (tgt := 19) 45 hX (by decide) dX12_ask_45 ?_
  exact w_sub [1, 2, 3, 0] rfl (hk19 l1 l2 (l3 + 1) h)
def FX12_ask_146_b19 (k19 : Int32 → Int32 → Int32 → Mem → Option Int32) (l1 l2 l3 : Int32) (u : Mem) : Option Int32 :=
  (if 9 < l3 then (some l2) else ((FX12_greaterBy_146 l3 l1 u).bind fun x2 => (FX12_greaterBy_146 l2 l1 u).bind fun x3 => (if x3 ≤ x2 then (FX12_ask_146_b42 k19 l1 l2 l3 u) else (FX12_ask_146_b42 k19 l1 l3 l3 u))))
theorem bX12_ask_146_19 {G : Gt} {X : Xt} {v : Int32} {u : Mem} (hX : CxOk G X cX12_ask 4 RX12 (some (.int v), SH, RHO, u) 3) (hR : CxRet G X (some .int) (some (.int v), SH, RHO, u)) {k19 : Int32 → Int32 → Int32 → Mem → Option Int32} (hk19 : ∀ (l1 l2 l3 : Int32), k19 l1 l2 l3 u = some v → WM G X 19 [(0, .ref 146), (1, .int l1), (2, .int l2), (3, .int l3)] [] SH RHO u) (l1 l2 l3 : Int32) (h : FX12_ask_146_b19 k19 l1 l2 l3 u = some v) : WM G X 19 [(0, .ref 146), (1, .int l1), (2, .int l2), (3, .int l3)] [] SH RHO u := by
  unfold FX12_ask_146_b19 at h
  refine w_iload_n 3 19 hX rfl rfl dX12_ask_19 ?_
  refine w_bipush 9 20 hX ib_9 dX12_ask_20 ?_
  refine w_icmp_gt (tgt := 48) 22 hX dX12_ask_22 (by decide) (fun c1 => ?_) (fun c1 => ?_)
  · have h := it h c1
    refine w_iload_n 2 48 hX rfl rfl dX12_ask_48 ?_
    exact w_iret 49 hX hR dX12_ask_49 (by cases h; rfl)
  · have h := ie h c1
    refine w_aload_n 0 25 hX rfl rfl dX12_ask_25 ?_
    refine w_iload_n 3 26 hX rfl rfl dX12_ask_26 ?_
    refine w_iload_n 1 27 hX rfl rfl dX12_ask_27 ?_
    obtain ⟨x2, gx2, h⟩ := o_bind h
    refine w_invVi (av := [.int l3, .int l1]) (st := []) 28 hX CI_12 s_146 rfl mv_yX12_greaterBy mi_yX12_greaterBy ml_X12_451 (CX12_greaterBy_146 l3 l1 u gx2) rfl (by decide) (Nat.le_of_ble_eq_true rfl) (Nat.le_refl _) (Nat.le_refl _) dX12_ask_28 ?_
    refine w_aload_n 0 31 hX rfl rfl dX12_ask_31 ?_
    refine w_iload_n 2 32 hX rfl rfl dX12_ask_32 ?_
    refine w_iload_n 1 33 hX rfl rfl dX12_ask_33 ?_
    obtain ⟨x3, gx3, h⟩ := o_bind h
    refine w_invVi (av := [.int l2, .int l1]) (st := [.int x2]) 34 hX CI_12 s_146 rfl mv_yX12_greaterBy mi_yX12_greaterBy ml_X12_451 (CX12_greaterBy_146 l2 l1 u gx3) rfl (by decide) (Nat.le_of_ble_eq_true rfl) (Nat.le_refl _) (Nat.le_refl _) dX12_ask_34 ?_
    refine w_icmp_ge (tgt := 42) 37 hX dX12_ask_37 (by decide) (fun c4 => ?_) (fun c4 => ?_)
    · have h := it h c4
      exact bX12_ask_146_42 hX hR hk19 l1 l2 l3 h
    · have h := ie h c4
      refine w_iload_n 3 40 hX rfl rfl dX12_ask_40 ?_
      refine w_istore_n (lv' := [(2, .int l3), (0, .ref 146), (1, .int l1), (3, .int l3)]) 41 hX rfl dX12_ask_41 (by decide) rfl ?_
      exact w_sub [1, 2, 0, 3] rfl (bX12_ask_146_42 hX hR hk19 l1 l3 l3 h)
def FX12_ask_146_L19 : Nat → Int32 → Int32 → Int32 → Mem → Option Int32
  | 0, _, _, _, _ => none
  | n + 1, l1, l2, l3, u => FX12_ask_146_b19 (FX12_ask_146_L19 n) l1 l2 l3 u
theorem lX12_ask_146_19 {G : Gt} {X : Xt} {v : Int32} {u : Mem} (hX : CxOk G X cX12_ask 4 RX12 (some (.int v), SH, RHO, u) 3) (hR : CxRet G X (some .int) (some (.int v), SH, RHO, u)) : ∀ (n : Nat) (l1 l2 l3 : Int32), FX12_ask_146_L19 n l1 l2 l3 u = some v → WM G X 19 [(0, .ref 146), (1, .int l1), (2, .int l2), (3, .int l3)] [] SH RHO u := by
  intro n
  induction n with
  | zero =>
    intro l1 l2 l3 h
    exact nn_ h
  | succ n ih =>
    intro l1 l2 l3 h
    exact bX12_ask_146_19 hX hR ih l1 l2 l3 h
def FX12_ask_146 (u : Mem) : Option Int32 :=
  (FX12_left_146 u).bind fun x1 => (FX12_count x1).bind fun x2 => (if 2 ≤ x2 then (FX12_ask_146_L19 FU x1 1 2 u) else (some (-1)))
theorem CX12_ask_146 {G : Gt} (u : Mem) {v : Int32} (h : FX12_ask_146 u = some v) : CT G yX12_ask cX12_ask 4 (some .int) 3 [.ref 146] SH RHO u (some (.int v), SH, RHO, u) :=
  ct_of (by decide) rfl (Nat.le_of_ble_eq_true rfl) (Nat.le_refl _) (Nat.le_refl _) (fun X hX hR => by
  unfold FX12_ask_146 at h
  refine w_aload_n 0 0 hX rfl rfl dX12_ask_0 ?_
  obtain ⟨x1, gx1, h⟩ := o_bind h
  refine w_invVi (av := []) (st := []) 1 hX CI_12 s_146 rfl mv_yX12_left mi_yX12_left ml_X12_448 (CX12_left_146 u gx1) rfl (by decide) (Nat.le_of_ble_eq_true rfl) (Nat.le_refl _) (Nat.le_refl _) dX12_ask_1 ?_
  refine w_istore_n (lv' := [(1, .int x1), (0, .ref 146)]) 4 hX rfl dX12_ask_4 (by decide) rfl ?_
  refine w_iload_n 0 5 hX rfl rfl dX12_ask_5 ?_
  obtain ⟨x2, gx2, h⟩ := o_bind h
  refine w_invSi (av := [.int x1]) (st := []) 6 hX ms_yX12_count mi_yX12_count ml_X12_291 (CX12_count x1 u gx2) rfl (by decide) (Nat.le_of_ble_eq_true rfl) (Nat.le_refl _) (Nat.le_refl _) dX12_ask_6 ?_
  refine w_iconst 2 9 hX ic_2 dX12_ask_9 ?_
  refine w_icmp_ge (tgt := 15) 10 hX dX12_ask_10 (by decide) (fun c3 => ?_) (fun c3 => ?_)
  · have h := it h c3
    refine w_iconst 1 15 hX ic_1 dX12_ask_15 ?_
    refine w_istore_n (lv' := [(2, .int 1), (1, .int x1), (0, .ref 146)]) 16 hX rfl dX12_ask_16 (by decide) rfl ?_
    refine w_iconst 2 17 hX ic_2 dX12_ask_17 ?_
    refine w_istore_n (lv' := [(3, .int 2), (2, .int 1), (1, .int x1), (0, .ref 146)]) 18 hX rfl dX12_ask_18 (by decide) rfl ?_
    exact w_sub [3, 2, 1, 0] rfl (lX12_ask_146_19 hX hR FU x1 1 2 h)
  · have h := ie h c3
    refine w_iconst (-1) 13 hX ic_m1 dX12_ask_13 ?_
    exact w_iret 14 hX hR dX12_ask_14 (by cases h; rfl))
def FJ7_fill_53178_114_b5 (k5 : Int32 → Int32 → Int32 → Mem → Option Mem) (l1 l2 l3 : Int32) (u : Mem) : Option Mem :=
  (if l3 ≤ l2 then (some u) else ((wrA u 114 9 l2 l1).bind fun u2 => k5 l1 (l2 + 1) l3 u2))
theorem bJ7_fill_53178_114_5 {G : Gt} {X : Xt} {u' : Mem} (hX : CxOk G X cJ7_fill_53178 4 RJ7 (none, SH, RHO, u') 1) (hR : CxRet G X none (none, SH, RHO, u')) {k5 : Int32 → Int32 → Int32 → Mem → Option Mem} (hk5 : ∀ (l1 l2 l3 : Int32) (u : Mem), k5 l1 l2 l3 u = some u' → WM G X 5 [(0, .ref 114), (1, .int l1), (2, .int l2), (3, .int l3)] [] SH RHO u) (l1 l2 l3 : Int32) (u : Mem) (h : FJ7_fill_53178_114_b5 k5 l1 l2 l3 u = some u') : WM G X 5 [(0, .ref 114), (1, .int l1), (2, .int l2), (3, .int l3)] [] SH RHO u := by
  unfold FJ7_fill_53178_114_b5 at h
  refine w_iload_n 2 5 hX rfl rfl dJ7_fill_53178_5 ?_
  refine w_iload_n 3 6 hX rfl rfl dJ7_fill_53178_6 ?_
  refine w_icmp_ge (tgt := 20) 7 hX dJ7_fill_53178_7 (by decide) (fun c1 => ?_) (fun c1 => ?_)
  · have h := it h c1
    exact w_vret 20 hX hR dJ7_fill_53178_20 (by cases h; rfl)
  · have h := ie h c1
    refine w_aload_n 0 10 hX rfl rfl dJ7_fill_53178_10 ?_
    refine w_iload_n 2 11 hX rfl rfl dJ7_fill_53178_11 ?_
    refine w_iload_n 1 12 hX rfl rfl dJ7_fill_53178_12 ?_
    obtain ⟨u2, gu2, h⟩ := o_bind h
    refine w_iast 13 hX s_114 gu2 dJ7_fill_53178_13 ?_
    refine w_iinc (lv' := [(2, .int (l2 + 1)), (0, .ref 114), (1, .int l1), (3, .int l3)]) 14 2 hX dJ7_fill_53178_14 rfl (inc_1 _) (by decide) rfl ?_
    refine w_goto (tgt := 5) 17 hX (by decide) dJ7_fill_53178_17 ?_
    exact w_sub [1, 2, 0, 3] rfl (hk5 l1 (l2 + 1) l3 u2 h)
def FJ7_fill_53178_114_L5 : Nat → Int32 → Int32 → Int32 → Mem → Option Mem
  | 0, _, _, _, _ => none
  | n + 1, l1, l2, l3, u => FJ7_fill_53178_114_b5 (FJ7_fill_53178_114_L5 n) l1 l2 l3 u
theorem lJ7_fill_53178_114_5 {G : Gt} {X : Xt} {u' : Mem} (hX : CxOk G X cJ7_fill_53178 4 RJ7 (none, SH, RHO, u') 1) (hR : CxRet G X none (none, SH, RHO, u')) : ∀ (n : Nat) (l1 l2 l3 : Int32) (u : Mem), FJ7_fill_53178_114_L5 n l1 l2 l3 u = some u' → WM G X 5 [(0, .ref 114), (1, .int l1), (2, .int l2), (3, .int l3)] [] SH RHO u := by
  intro n
  induction n with
  | zero =>
    intro l1 l2 l3 u h
    exact nn_ h
  | succ n ih =>
    intro l1 l2 l3 u h
    exact bJ7_fill_53178_114_5 hX hR ih l1 l2 l3 u h
def FJ7_fill_53178_114 (p1 : Int32) (u : Mem) : Option Mem :=
  FJ7_fill_53178_114_L5 FU p1 0 9 u
theorem CJ7_fill_53178_114 {G : Gt} (p1 : Int32) (u : Mem) {u' : Mem} (h : FJ7_fill_53178_114 p1 u = some u') : CT G yJ7_fill_53178 cJ7_fill_53178 4 none 1 [.ref 114, .int p1] SH RHO u (none, SH, RHO, u') :=
  ct_of (by decide) rfl (Nat.le_of_ble_eq_true rfl) (Nat.le_refl _) (Nat.le_refl _) (fun X hX hR => by
  unfold FJ7_fill_53178_114 at h
  refine w_iconst 0 0 hX ic_0 dJ7_fill_53178_0 ?_
  refine w_istore_n (lv' := [(2, .int 0), (0, .ref 114), (1, .int p1)]) 1 hX rfl dJ7_fill_53178_1 (by decide) rfl ?_
  refine w_aload_n 1 2 hX rfl rfl dJ7_fill_53178_2 ?_
  refine w_alen 9 3 hX s_114 (by decide) dJ7_fill_53178_3 ?_
  refine w_istore_n (lv' := [(3, .int 9), (2, .int 0), (0, .ref 114), (1, .int p1)]) 4 hX rfl dJ7_fill_53178_4 (by decide) rfl ?_
  exact w_sub [2, 3, 1, 0] rfl (lJ7_fill_53178_114_5 hX hR FU p1 0 9 u h))
def FX7_forgotten_106_b71 (k62 : Int32 → Int32 → Int32 → Mem → Option (Int32 × Mem)) (k71 : Int32 → Int32 → Int32 → Int32 → Mem → Option (Int32 × Mem)) (l2 l3 l5 l6 : Int32) (u : Mem) : Option (Int32 × Mem) :=
  (if 8 < l6 then (k62 l2 l3 (l5 + 1) u) else ((rdA u 114 9 l6).bind fun x2 => (dvI (x2 * l3) 1000).bind fun x3 => (rdA u 114 9 l6).bind fun x4 => (wrA u 114 9 l6 (x4 - x3)).bind fun u5 => (rdA u5 114 9 (l6 - 1)).bind fun x6 => (wrA u5 114 9 (l6 - 1) (x6 + x3)).bind fun u7 => k71 l2 l3 l5 (l6 + 1) u7))
theorem bX7_forgotten_106_71 {G : Gt} {X : Xt} {v : Int32} {u' : Mem} (hX : CxOk G X cX7_forgotten 8 RX7 (some (.int v), SH, RHO, u') 4) (hR : CxRet G X (some .int) (some (.int v), SH, RHO, u')) {k62 : Int32 → Int32 → Int32 → Mem → Option (Int32 × Mem)} (hk62 : ∀ (l2 l3 l5 : Int32) (u : Mem), k62 l2 l3 l5 u = some (v, u') → WM G X 62 [(0, .ref 106), (2, .int l2), (3, .int l3), (5, .int l5)] [] SH RHO u) {k71 : Int32 → Int32 → Int32 → Int32 → Mem → Option (Int32 × Mem)} (hk71 : ∀ (l2 l3 l5 l6 : Int32) (u : Mem), k71 l2 l3 l5 l6 u = some (v, u') → WM G X 71 [(0, .ref 106), (2, .int l2), (3, .int l3), (5, .int l5), (6, .int l6)] [] SH RHO u) (l2 l3 l5 l6 : Int32) (u : Mem) (h : FX7_forgotten_106_b71 k62 k71 l2 l3 l5 l6 u = some (v, u')) : WM G X 71 [(0, .ref 106), (2, .int l2), (3, .int l3), (5, .int l5), (6, .int l6)] [] SH RHO u := by
  unfold FX7_forgotten_106_b71 at h
  refine w_iload 4 71 hX rfl dX7_forgotten_71 ?_
  refine w_bipush 8 73 hX ib_8 dX7_forgotten_73 ?_
  refine w_icmp_gt (tgt := 125) 75 hX dX7_forgotten_75 (by decide) (fun c1 => ?_) (fun c1 => ?_)
  · have h := it h c1
    refine w_iinc (lv' := [(5, .int (l5 + 1)), (0, .ref 106), (2, .int l2), (3, .int l3), (6, .int l6)]) 125 3 hX dX7_forgotten_125 rfl (inc_1 _) (by decide) rfl ?_
    refine w_goto (tgt := 62) 128 hX (by decide) dX7_forgotten_128 ?_
    exact w_sub [1, 2, 3, 0] rfl (hk62 l2 l3 (l5 + 1) u h)
  · have h := ie h c1
    refine w_aload_n 0 78 hX rfl rfl dX7_forgotten_78 ?_
    refine w_getR 79 hX CI_7 s_106 rfl r_106_10 fl_X7_33 rfl dX7_forgotten_79 ?_
    refine w_iload 4 82 hX rfl dX7_forgotten_82 ?_
    obtain ⟨x2, gx2, h⟩ := o_bind h
    refine w_iald 84 hX s_114 gx2 dX7_forgotten_84 ?_
    refine w_iload_n 2 85 hX rfl rfl dX7_forgotten_85 ?_
    refine w_imul 86 hX dX7_forgotten_86 ?_
    refine w_sipush 1000 87 hX isp_1000 dX7_forgotten_87 ?_
    obtain ⟨x3, gx3, h⟩ := o_bind h
    obtain ⟨qx3, jx3⟩ := dvI_ok gx3
    refine w_idiv 90 hX qx3 dX7_forgotten_90 ?_
    rw [jx3]
    refine w_istore (lv' := [(7, .int x3), (0, .ref 106), (2, .int l2), (3, .int l3), (5, .int l5), (6, .int l6)]) 91 hX dX7_forgotten_91 (by decide) rfl ?_
    refine w_aload_n 1 93 hX rfl rfl dX7_forgotten_93 ?_
    refine w_getR 94 hX CI_7 s_106 rfl r_106_10 fl_X7_33 rfl dX7_forgotten_94 ?_
    refine w_iload 5 97 hX rfl dX7_forgotten_97 ?_
    refine w_dup2 99 hX rfl rfl dX7_forgotten_99 ?_
    obtain ⟨x4, gx4, h⟩ := o_bind h
    refine w_iald 100 hX s_114 gx4 dX7_forgotten_100 ?_
    refine w_iload 0 101 hX rfl dX7_forgotten_101 ?_
    refine w_isub 103 hX dX7_forgotten_103 ?_
    obtain ⟨u5, gu5, h⟩ := o_bind h
    refine w_iast 104 hX s_114 gu5 dX7_forgotten_104 ?_
    refine w_aload_n 1 105 hX rfl rfl dX7_forgotten_105 ?_
    refine w_getR 106 hX CI_7 s_106 rfl r_106_10 fl_X7_33 rfl dX7_forgotten_106 ?_
    refine w_iload 5 109 hX rfl dX7_forgotten_109 ?_
    refine w_iconst 1 111 hX ic_1 dX7_forgotten_111 ?_
    refine w_isub 112 hX dX7_forgotten_112 ?_
    refine w_dup2 113 hX rfl rfl dX7_forgotten_113 ?_
    obtain ⟨x6, gx6, h⟩ := o_bind h
    refine w_iald 114 hX s_114 gx6 dX7_forgotten_114 ?_
    refine w_iload 0 115 hX rfl dX7_forgotten_115 ?_
    refine w_iadd 117 hX dX7_forgotten_117 ?_
    obtain ⟨u7, gu7, h⟩ := o_bind h
    refine w_iast 118 hX s_114 gu7 dX7_forgotten_118 ?_
    refine w_iinc (lv' := [(6, .int (l6 + 1)), (7, .int x3), (0, .ref 106), (2, .int l2), (3, .int l3), (5, .int l5)]) 119 5 hX dX7_forgotten_119 rfl (inc_1 _) (by decide) rfl ?_
    refine w_goto (tgt := 71) 122 hX (by decide) dX7_forgotten_122 ?_
    exact w_sub [2, 3, 4, 5, 0] rfl (hk71 l2 l3 l5 (l6 + 1) u7 h)
def FX7_forgotten_106_L71 (k62 : Int32 → Int32 → Int32 → Mem → Option (Int32 × Mem)) : Nat → Int32 → Int32 → Int32 → Int32 → Mem → Option (Int32 × Mem)
  | 0, _, _, _, _, _ => none
  | n + 1, l2, l3, l5, l6, u => FX7_forgotten_106_b71 k62 (FX7_forgotten_106_L71 k62 n) l2 l3 l5 l6 u
theorem lX7_forgotten_106_71 {G : Gt} {X : Xt} {v : Int32} {u' : Mem} (hX : CxOk G X cX7_forgotten 8 RX7 (some (.int v), SH, RHO, u') 4) (hR : CxRet G X (some .int) (some (.int v), SH, RHO, u')) {k62 : Int32 → Int32 → Int32 → Mem → Option (Int32 × Mem)} (hk62 : ∀ (l2 l3 l5 : Int32) (u : Mem), k62 l2 l3 l5 u = some (v, u') → WM G X 62 [(0, .ref 106), (2, .int l2), (3, .int l3), (5, .int l5)] [] SH RHO u) : ∀ (n : Nat) (l2 l3 l5 l6 : Int32) (u : Mem), FX7_forgotten_106_L71 k62 n l2 l3 l5 l6 u = some (v, u') → WM G X 71 [(0, .ref 106), (2, .int l2), (3, .int l3), (5, .int l5), (6, .int l6)] [] SH RHO u := by
  intro n
  induction n with
  | zero =>
    intro l2 l3 l5 l6 u h
    exact nn_ h
  | succ n ih =>
    intro l2 l3 l5 l6 u h
    exact bX7_forgotten_106_71 hX hR hk62 ih l2 l3 l5 l6 u h
def FX7_forgotten_106_b62 (k62 : Int32 → Int32 → Int32 → Mem → Option (Int32 × Mem)) (l2 l3 l5 : Int32) (u : Mem) : Option (Int32 × Mem) :=
  (if l2 ≤ l5 then (some (u 114 0, u)) else (FX7_forgotten_106_L71 k62 FU l2 l3 l5 1 u))
theorem bX7_forgotten_106_62 {G : Gt} {X : Xt} {v : Int32} {u' : Mem} (hX : CxOk G X cX7_forgotten 8 RX7 (some (.int v), SH, RHO, u') 4) (hR : CxRet G X (some .int) (some (.int v), SH, RHO, u')) {k62 : Int32 → Int32 → Int32 → Mem → Option (Int32 × Mem)} (hk62 : ∀ (l2 l3 l5 : Int32) (u : Mem), k62 l2 l3 l5 u = some (v, u') → WM G X 62 [(0, .ref 106), (2, .int l2), (3, .int l3), (5, .int l5)] [] SH RHO u) (l2 l3 l5 : Int32) (u : Mem) (h : FX7_forgotten_106_b62 k62 l2 l3 l5 u = some (v, u')) : WM G X 62 [(0, .ref 106), (2, .int l2), (3, .int l3), (5, .int l5)] [] SH RHO u := by
  unfold FX7_forgotten_106_b62 at h
  refine w_iload 3 62 hX rfl dX7_forgotten_62 ?_
  refine w_iload_n 1 64 hX rfl rfl dX7_forgotten_64 ?_
  refine w_icmp_ge (tgt := 131) 65 hX dX7_forgotten_65 (by decide) (fun c1 => ?_) (fun c1 => ?_)
  · have h := it h c1
    refine w_aload_n 0 131 hX rfl rfl dX7_forgotten_131 ?_
    refine w_getR 132 hX CI_7 s_106 rfl r_106_10 fl_X7_33 rfl dX7_forgotten_132 ?_
    refine w_iconst 0 135 hX ic_0 dX7_forgotten_135 ?_
    refine w_iald 136 hX s_114 (rdK 0 0 n_0 (by decide) (by decide)) dX7_forgotten_136 ?_
    exact w_iret 137 hX hR dX7_forgotten_137 (by cases h; rfl)
  · have h := ie h c1
    refine w_iconst 1 68 hX ic_1 dX7_forgotten_68 ?_
    refine w_istore (lv' := [(6, .int 1), (0, .ref 106), (2, .int l2), (3, .int l3), (5, .int l5)]) 69 hX dX7_forgotten_69 (by decide) rfl ?_
    exact w_sub [1, 2, 3, 4, 0] rfl (lX7_forgotten_106_71 hX hR hk62 FU l2 l3 l5 1 u h)
def FX7_forgotten_106_L62 : Nat → Int32 → Int32 → Int32 → Mem → Option (Int32 × Mem)
  | 0, _, _, _, _ => none
  | n + 1, l2, l3, l5, u => FX7_forgotten_106_b62 (FX7_forgotten_106_L62 n) l2 l3 l5 u
theorem lX7_forgotten_106_62 {G : Gt} {X : Xt} {v : Int32} {u' : Mem} (hX : CxOk G X cX7_forgotten 8 RX7 (some (.int v), SH, RHO, u') 4) (hR : CxRet G X (some .int) (some (.int v), SH, RHO, u')) : ∀ (n : Nat) (l2 l3 l5 : Int32) (u : Mem), FX7_forgotten_106_L62 n l2 l3 l5 u = some (v, u') → WM G X 62 [(0, .ref 106), (2, .int l2), (3, .int l3), (5, .int l5)] [] SH RHO u := by
  intro n
  induction n with
  | zero =>
    intro l2 l3 l5 u h
    exact nn_ h
  | succ n ih =>
    intro l2 l3 l5 u h
    exact bX7_forgotten_106_62 hX hR ih l2 l3 l5 u h
def FX7_forgotten_106 (p1 p2 : Int32) (u : Mem) : Option (Int32 × Mem) :=
  (FX9_hasMan_1 p1 u).bind fun x1 => (if x1 = 0 then (some ((-1), u)) else (bnd2 (FX3_asked_32 p1 3 u) fun x3 u4 => (rdA u4 25 12 p1).bind fun x5 => (FJ6_bitCount_0f7a4 x5).bind fun x6 => (FJ7_fill_53178_114 0 u4).bind fun u8 => (wrA u8 114 9 (if x6 < 8 then x6 else 8) 1000000).bind fun u9 => FX7_forgotten_106_L62 FU p2 x3 0 u9))
theorem CX7_forgotten_106 {G : Gt} (p1 p2 : Int32) (u : Mem) {v : Int32} {u' : Mem} (h : FX7_forgotten_106 p1 p2 u = some (v, u')) : CT G yX7_forgotten cX7_forgotten 8 (some .int) 4 [.ref 106, .int p1, .int p2] SH RHO u (some (.int v), SH, RHO, u') :=
  ct_of (by decide) rfl (Nat.le_of_ble_eq_true rfl) (Nat.le_refl _) (Nat.le_refl _) (fun X hX hR => by
  unfold FX7_forgotten_106 at h
  refine w_aload_n 0 0 hX rfl rfl dX7_forgotten_0 ?_
  refine w_getR 1 hX CI_7 s_106 rfl r_106_0 fl_X7_36 rfl dX7_forgotten_1 ?_
  refine w_iload_n 1 4 hX rfl rfl dX7_forgotten_4 ?_
  obtain ⟨x1, gx1, h⟩ := o_bind h
  refine w_invVi (av := [.int p1]) (st := []) 5 hX CI_9 s_1 rfl mv_yX9_hasMan mi_yX9_hasMan ml_X7_77 (CX9_hasMan_1 p1 u gx1) rfl (by decide) (Nat.le_of_ble_eq_true rfl) (Nat.le_refl _) (Nat.le_refl _) dX7_forgotten_5 ?_
  refine w_if_ne (tgt := 13) 8 hX dX7_forgotten_8 (by decide) (fun c2 => ?_) (fun c2 => ?_)
  · have h := ie h c2
    refine w_aload_n 0 13 hX rfl rfl dX7_forgotten_13 ?_
    refine w_getR 14 hX CI_7 s_106 rfl r_106_2 fl_X7_44 rfl dX7_forgotten_14 ?_
    refine w_iload_n 1 17 hX rfl rfl dX7_forgotten_17 ?_
    refine w_iconst 3 18 hX ic_3 dX7_forgotten_18 ?_
    obtain ⟨x3, u4, gx3, h⟩ := o_bnd2 h
    refine w_invVi (av := [.int p1, .int 3]) (st := []) 19 hX CI_3 s_32 rfl mv_yX3_asked mi_yX3_asked ml_X7_147 (CX3_asked_32 p1 3 u gx3) rfl (by decide) (Nat.le_of_ble_eq_true rfl) (Nat.le_refl _) (Nat.le_refl _) dX7_forgotten_19 ?_
    refine w_istore_n (lv' := [(3, .int x3), (0, .ref 106), (1, .int p1), (2, .int p2)]) 22 hX rfl dX7_forgotten_22 (by decide) rfl ?_
    refine w_bipush 8 23 hX ib_8 dX7_forgotten_23 ?_
    refine w_aload_n 1 25 hX rfl rfl dX7_forgotten_25 ?_
    refine w_getR 26 hX CI_7 s_106 rfl r_106_1 fl_X7_40 rfl dX7_forgotten_26 ?_
    refine w_getR 29 hX CI_0 s_23 rfl r_23_1 fl_X7_54 rfl dX7_forgotten_29 ?_
    refine w_iload_n 2 32 hX rfl rfl dX7_forgotten_32 ?_
    obtain ⟨x5, gx5, h⟩ := o_bind h
    refine w_iald 33 hX s_25 gx5 dX7_forgotten_33 ?_
    obtain ⟨x6, gx6, h⟩ := o_bind h
    refine w_invSi (av := [.int x5]) (st := [.int 8]) 34 hX ms_yJ6_bitCount_0f7a4 mi_yJ6_bitCount_0f7a4 ml_X7_84 (CJ6_bitCount_0f7a4 x5 u4 gx6) rfl (by decide) (Nat.le_of_ble_eq_true rfl) (Nat.le_refl _) (Nat.le_refl _) dX7_forgotten_34 ?_
    refine w_min 37 hX ml_X7_100 jm_min_s jm_i jm_min_c (by decide) (Nat.le_of_ble_eq_true rfl) (Nat.le_refl _) (Nat.le_refl _) dX7_forgotten_37 ?_
    refine w_istore (lv' := [(4, .int (if x6 < 8 then x6 else 8)), (3, .int x3), (0, .ref 106), (1, .int p1), (2, .int p2)]) 40 hX dX7_forgotten_40 (by decide) rfl ?_
    refine w_aload_n 2 42 hX rfl rfl dX7_forgotten_42 ?_
    refine w_getR 43 hX CI_7 s_106 rfl r_106_10 fl_X7_33 rfl dX7_forgotten_43 ?_
    refine w_iconst 0 46 hX ic_0 dX7_forgotten_46 ?_
    obtain ⟨u8, gu8, h⟩ := o_bind h
    refine w_invSv (av := [.ref 114, .int 0]) (st := []) 47 hX ms_yJ7_fill_53178 mi_yJ7_fill_53178 ml_X7_138 (CJ7_fill_53178_114 0 u4 gu8) rfl (by decide) (Nat.le_of_ble_eq_true rfl) (Nat.le_refl _) (Nat.le_refl _) dX7_forgotten_47 ?_
    refine w_aload_n 2 50 hX rfl rfl dX7_forgotten_50 ?_
    refine w_getR 51 hX CI_7 s_106 rfl r_106_10 fl_X7_33 rfl dX7_forgotten_51 ?_
    refine w_iload 0 54 hX rfl dX7_forgotten_54 ?_
    refine w_ldc 1000000 56 hX cs_X7_152 dX7_forgotten_56 ?_
    obtain ⟨u9, gu9, h⟩ := o_bind h
    refine w_iast 58 hX s_114 gu9 dX7_forgotten_58 ?_
    refine w_iconst 0 59 hX ic_0 dX7_forgotten_59 ?_
    refine w_istore (lv' := [(5, .int 0), (4, .int (if x6 < 8 then x6 else 8)), (3, .int x3), (0, .ref 106), (1, .int p1), (2, .int p2)]) 60 hX dX7_forgotten_60 (by decide) rfl ?_
    exact w_sub [3, 5, 2, 0] rfl (lX7_forgotten_106_62 hX hR FU p2 x3 0 u9 h)
  · have h := it h c2
    refine w_iconst (-1) 11 hX ic_m1 dX7_forgotten_11 ?_
    exact w_iret 12 hX hR dX7_forgotten_12 (by cases h; rfl))
def FX11_forgets_0 (p1 p2 : Int32) (u : Mem) : Option (Int32 × Mem) :=
  (FX9_hasMan_1 p1 u).bind fun x1 => (if x1 = 0 then (some ((-1), u)) else ((if p2 < 0 then (some ((-1), u)) else ((if 60 < p2 then (some ((-1), u)) else (bnd2 (FX7_forgotten_106 p1 p2 u) fun x5 u6 => some (x5, u6)))))))
theorem CX11_forgets_0 {G : Gt} (p1 p2 : Int32) (u : Mem) {v : Int32} {u' : Mem} (h : FX11_forgets_0 p1 p2 u = some (v, u')) : CT G yX11_forgets cX11_forgets 3 (some .int) 5 [.ref 0, .int p1, .int p2] SH RHO u (some (.int v), SH, RHO, u') :=
  ct_of (by decide) rfl (Nat.le_of_ble_eq_true rfl) (Nat.le_refl _) (Nat.le_refl _) (fun X hX hR => by
  unfold FX11_forgets_0 at h
  refine w_aload_n 0 0 hX rfl rfl dX11_forgets_0 ?_
  refine w_getR 1 hX CI_11 s_0 rfl r_0_0 fl_X11_10 rfl dX11_forgets_1 ?_
  refine w_iload_n 1 4 hX rfl rfl dX11_forgets_4 ?_
  obtain ⟨x1, gx1, h⟩ := o_bind h
  refine w_invVi (av := [.int p1]) (st := []) 5 hX CI_9 s_1 rfl mv_yX9_hasMan mi_yX9_hasMan ml_X11_119 (CX9_hasMan_1 p1 u gx1) rfl (by decide) (Nat.le_of_ble_eq_true rfl) (Nat.le_refl _) (Nat.le_refl _) dX11_forgets_5 ?_
  refine w_if_eq (tgt := 33) 8 hX dX11_forgets_8 (by decide) (fun c2 => ?_) (fun c2 => ?_)
  · have h := it h c2
    refine w_iconst (-1) 33 hX ic_m1 dX11_forgets_33 ?_
    exact w_iret 34 hX hR dX11_forgets_34 (by cases h; rfl)
  · have h := ie h c2
    refine w_iload_n 2 11 hX rfl rfl dX11_forgets_11 ?_
    refine w_if_lt (tgt := 33) 12 hX dX11_forgets_12 (by decide) (fun c3 => ?_) (fun c3 => ?_)
    · have h := it h c3
      refine w_iconst (-1) 33 hX ic_m1 dX11_forgets_33 ?_
      exact w_iret 34 hX hR dX11_forgets_34 (by cases h; rfl)
    · have h := ie h c3
      refine w_iload_n 2 15 hX rfl rfl dX11_forgets_15 ?_
      refine w_bipush 60 16 hX ib_60 dX11_forgets_16 ?_
      refine w_icmp_gt (tgt := 33) 18 hX dX11_forgets_18 (by decide) (fun c4 => ?_) (fun c4 => ?_)
      · have h := it h c4
        refine w_iconst (-1) 33 hX ic_m1 dX11_forgets_33 ?_
        exact w_iret 34 hX hR dX11_forgets_34 (by cases h; rfl)
      · have h := ie h c4
        refine w_aload_n 0 21 hX rfl rfl dX11_forgets_21 ?_
        refine w_getR 22 hX CI_11 s_0 rfl r_0_7 fl_X11_67 rfl dX11_forgets_22 ?_
        refine w_iload_n 1 25 hX rfl rfl dX11_forgets_25 ?_
        refine w_iload_n 2 26 hX rfl rfl dX11_forgets_26 ?_
        obtain ⟨x5, u6, gx5, h⟩ := o_bnd2 h
        refine w_invVi (av := [.int p1, .int p2]) (st := []) 27 hX CI_7 s_106 rfl mv_yX7_forgotten mi_yX7_forgotten ml_X11_258 (CX7_forgotten_106 p1 p2 u gx5) rfl (by decide) (Nat.le_of_ble_eq_true rfl) (Nat.le_refl _) (Nat.le_refl _) dX11_forgets_27 ?_
        refine w_goto (tgt := 34) 30 hX (by decide) dX11_forgets_30 ?_
        exact w_iret 34 hX hR dX11_forgets_34 (by cases h; rfl))
def FX12_forgets_146_b85 (k76 : Int32 → Int32 → Int32 → Mem → Option (Int32 × Mem)) (k85 : Int32 → Int32 → Int32 → Int32 → Mem → Option (Int32 × Mem)) (l2 l3 l4 l5 : Int32) (u : Mem) : Option (Int32 × Mem) :=
  (if 8 < l5 then (k76 l2 l3 (l4 + 1) u) else ((rdA u 159 10 l5).bind fun x2 => (dvI x2 1000).bind fun x3 => (rdA u 159 10 l5).bind fun x4 => (rmI x4 1000).bind fun x5 => (dvI (x5 * l3) 1000).bind fun x6 => (rdA u 159 10 l5).bind fun x7 => (wrA u 159 10 l5 (x7 - ((x3 * l3) + x6))).bind fun u8 => (rdA u8 159 10 (l5 - 1)).bind fun x9 => (wrA u8 159 10 (l5 - 1) (x9 + ((x3 * l3) + x6))).bind fun u10 => k85 l2 l3 l4 (l5 + 1) u10))
theorem bX12_forgets_146_85 {G : Gt} {X : Xt} {v : Int32} {u' : Mem} (hX : CxOk G X cX12_forgets 7 RX12 (some (.int v), SH, RHO, u') 6) (hR : CxRet G X (some .int) (some (.int v), SH, RHO, u')) {k76 : Int32 → Int32 → Int32 → Mem → Option (Int32 × Mem)} (hk76 : ∀ (l2 l3 l4 : Int32) (u : Mem), k76 l2 l3 l4 u = some (v, u') → WM G X 76 [(0, .ref 146), (2, .int l2), (3, .int l3), (4, .int l4)] [] SH RHO u) {k85 : Int32 → Int32 → Int32 → Int32 → Mem → Option (Int32 × Mem)} (hk85 : ∀ (l2 l3 l4 l5 : Int32) (u : Mem), k85 l2 l3 l4 l5 u = some (v, u') → WM G X 85 [(0, .ref 146), (2, .int l2), (3, .int l3), (4, .int l4), (5, .int l5)] [] SH RHO u) (l2 l3 l4 l5 : Int32) (u : Mem) (h : FX12_forgets_146_b85 k76 k85 l2 l3 l4 l5 u = some (v, u')) : WM G X 85 [(0, .ref 146), (2, .int l2), (3, .int l3), (4, .int l4), (5, .int l5)] [] SH RHO u := by
  unfold FX12_forgets_146_b85 at h
  refine w_iload 4 85 hX rfl dX12_forgets_85 ?_
  refine w_bipush 8 87 hX ib_8 dX12_forgets_87 ?_
  refine w_icmp_gt (tgt := 157) 89 hX dX12_forgets_89 (by decide) (fun c1 => ?_) (fun c1 => ?_)
  · have h := it h c1
    refine w_iinc (lv' := [(4, .int (l4 + 1)), (0, .ref 146), (2, .int l2), (3, .int l3), (5, .int l5)]) 157 3 hX dX12_forgets_157 rfl (inc_1 _) (by decide) rfl ?_
    refine w_goto (tgt := 76) 160 hX (by decide) dX12_forgets_160 ?_
    exact w_sub [1, 2, 3, 0] rfl (hk76 l2 l3 (l4 + 1) u h)
  · have h := ie h c1
    refine w_aload_n 0 92 hX rfl rfl dX12_forgets_92 ?_
    refine w_getR 93 hX CI_12 s_146 rfl r_146_32 fl_X12_51 rfl dX12_forgets_93 ?_
    refine w_iload 4 96 hX rfl dX12_forgets_96 ?_
    obtain ⟨x2, gx2, h⟩ := o_bind h
    refine w_iald 98 hX s_159 gx2 dX12_forgets_98 ?_
    refine w_sipush 1000 99 hX isp_1000 dX12_forgets_99 ?_
    obtain ⟨x3, gx3, h⟩ := o_bind h
    obtain ⟨qx3, jx3⟩ := dvI_ok gx3
    refine w_idiv 102 hX qx3 dX12_forgets_102 ?_
    rw [jx3]
    refine w_iload_n 2 103 hX rfl rfl dX12_forgets_103 ?_
    refine w_imul 104 hX dX12_forgets_104 ?_
    refine w_aload_n 0 105 hX rfl rfl dX12_forgets_105 ?_
    refine w_getR 106 hX CI_12 s_146 rfl r_146_32 fl_X12_51 rfl dX12_forgets_106 ?_
    refine w_iload 4 109 hX rfl dX12_forgets_109 ?_
    obtain ⟨x4, gx4, h⟩ := o_bind h
    refine w_iald 111 hX s_159 gx4 dX12_forgets_111 ?_
    refine w_sipush 1000 112 hX isp_1000 dX12_forgets_112 ?_
    obtain ⟨x5, gx5, h⟩ := o_bind h
    obtain ⟨qx5, jx5⟩ := rmI_ok gx5
    refine w_irem 115 hX qx5 dX12_forgets_115 ?_
    rw [jx5]
    refine w_iload_n 2 116 hX rfl rfl dX12_forgets_116 ?_
    refine w_imul 117 hX dX12_forgets_117 ?_
    refine w_sipush 1000 118 hX isp_1000 dX12_forgets_118 ?_
    obtain ⟨x6, gx6, h⟩ := o_bind h
    obtain ⟨qx6, jx6⟩ := dvI_ok gx6
    refine w_idiv 121 hX qx6 dX12_forgets_121 ?_
    rw [jx6]
    refine w_iadd 122 hX dX12_forgets_122 ?_
    refine w_istore (lv' := [(6, .int ((x3 * l3) + x6)), (0, .ref 146), (2, .int l2), (3, .int l3), (4, .int l4), (5, .int l5)]) 123 hX dX12_forgets_123 (by decide) rfl ?_
    refine w_aload_n 1 125 hX rfl rfl dX12_forgets_125 ?_
    refine w_getR 126 hX CI_12 s_146 rfl r_146_32 fl_X12_51 rfl dX12_forgets_126 ?_
    refine w_iload 5 129 hX rfl dX12_forgets_129 ?_
    refine w_dup2 131 hX rfl rfl dX12_forgets_131 ?_
    obtain ⟨x7, gx7, h⟩ := o_bind h
    refine w_iald 132 hX s_159 gx7 dX12_forgets_132 ?_
    refine w_iload 0 133 hX rfl dX12_forgets_133 ?_
    refine w_isub 135 hX dX12_forgets_135 ?_
    obtain ⟨u8, gu8, h⟩ := o_bind h
    refine w_iast 136 hX s_159 gu8 dX12_forgets_136 ?_
    refine w_aload_n 1 137 hX rfl rfl dX12_forgets_137 ?_
    refine w_getR 138 hX CI_12 s_146 rfl r_146_32 fl_X12_51 rfl dX12_forgets_138 ?_
    refine w_iload 5 141 hX rfl dX12_forgets_141 ?_
    refine w_iconst 1 143 hX ic_1 dX12_forgets_143 ?_
    refine w_isub 144 hX dX12_forgets_144 ?_
    refine w_dup2 145 hX rfl rfl dX12_forgets_145 ?_
    obtain ⟨x9, gx9, h⟩ := o_bind h
    refine w_iald 146 hX s_159 gx9 dX12_forgets_146 ?_
    refine w_iload 0 147 hX rfl dX12_forgets_147 ?_
    refine w_iadd 149 hX dX12_forgets_149 ?_
    obtain ⟨u10, gu10, h⟩ := o_bind h
    refine w_iast 150 hX s_159 gu10 dX12_forgets_150 ?_
    refine w_iinc (lv' := [(5, .int (l5 + 1)), (6, .int ((x3 * l3) + x6)), (0, .ref 146), (2, .int l2), (3, .int l3), (4, .int l4)]) 151 5 hX dX12_forgets_151 rfl (inc_1 _) (by decide) rfl ?_
    refine w_goto (tgt := 85) 154 hX (by decide) dX12_forgets_154 ?_
    exact w_sub [2, 3, 4, 5, 0] rfl (hk85 l2 l3 l4 (l5 + 1) u10 h)
def FX12_forgets_146_L85 (k76 : Int32 → Int32 → Int32 → Mem → Option (Int32 × Mem)) : Nat → Int32 → Int32 → Int32 → Int32 → Mem → Option (Int32 × Mem)
  | 0, _, _, _, _, _ => none
  | n + 1, l2, l3, l4, l5, u => FX12_forgets_146_b85 k76 (FX12_forgets_146_L85 k76 n) l2 l3 l4 l5 u
theorem lX12_forgets_146_85 {G : Gt} {X : Xt} {v : Int32} {u' : Mem} (hX : CxOk G X cX12_forgets 7 RX12 (some (.int v), SH, RHO, u') 6) (hR : CxRet G X (some .int) (some (.int v), SH, RHO, u')) {k76 : Int32 → Int32 → Int32 → Mem → Option (Int32 × Mem)} (hk76 : ∀ (l2 l3 l4 : Int32) (u : Mem), k76 l2 l3 l4 u = some (v, u') → WM G X 76 [(0, .ref 146), (2, .int l2), (3, .int l3), (4, .int l4)] [] SH RHO u) : ∀ (n : Nat) (l2 l3 l4 l5 : Int32) (u : Mem), FX12_forgets_146_L85 k76 n l2 l3 l4 l5 u = some (v, u') → WM G X 85 [(0, .ref 146), (2, .int l2), (3, .int l3), (4, .int l4), (5, .int l5)] [] SH RHO u := by
  intro n
  induction n with
  | zero =>
    intro l2 l3 l4 l5 u h
    exact nn_ h
  | succ n ih =>
    intro l2 l3 l4 l5 u h
    exact bX12_forgets_146_85 hX hR hk76 ih l2 l3 l4 l5 u h
def FX12_forgets_146_b76 (k76 : Int32 → Int32 → Int32 → Mem → Option (Int32 × Mem)) (l2 l3 l4 : Int32) (u : Mem) : Option (Int32 × Mem) :=
  (if l2 ≤ l4 then (some (u 159 0, u)) else (FX12_forgets_146_L85 k76 FU l2 l3 l4 1 u))
theorem bX12_forgets_146_76 {G : Gt} {X : Xt} {v : Int32} {u' : Mem} (hX : CxOk G X cX12_forgets 7 RX12 (some (.int v), SH, RHO, u') 6) (hR : CxRet G X (some .int) (some (.int v), SH, RHO, u')) {k76 : Int32 → Int32 → Int32 → Mem → Option (Int32 × Mem)} (hk76 : ∀ (l2 l3 l4 : Int32) (u : Mem), k76 l2 l3 l4 u = some (v, u') → WM G X 76 [(0, .ref 146), (2, .int l2), (3, .int l3), (4, .int l4)] [] SH RHO u) (l2 l3 l4 : Int32) (u : Mem) (h : FX12_forgets_146_b76 k76 l2 l3 l4 u = some (v, u')) : WM G X 76 [(0, .ref 146), (2, .int l2), (3, .int l3), (4, .int l4)] [] SH RHO u := by
  unfold FX12_forgets_146_b76 at h
  refine w_iload 3 76 hX rfl dX12_forgets_76 ?_
  refine w_iload_n 1 78 hX rfl rfl dX12_forgets_78 ?_
  refine w_icmp_ge (tgt := 163) 79 hX dX12_forgets_79 (by decide) (fun c1 => ?_) (fun c1 => ?_)
  · have h := it h c1
    refine w_aload_n 0 163 hX rfl rfl dX12_forgets_163 ?_
    refine w_getR 164 hX CI_12 s_146 rfl r_146_32 fl_X12_51 rfl dX12_forgets_164 ?_
    refine w_iconst 0 167 hX ic_0 dX12_forgets_167 ?_
    refine w_iald 168 hX s_159 (rdK 0 0 n_0 (by decide) (by decide)) dX12_forgets_168 ?_
    exact w_iret 169 hX hR dX12_forgets_169 (by cases h; rfl)
  · have h := ie h c1
    refine w_iconst 1 82 hX ic_1 dX12_forgets_82 ?_
    refine w_istore (lv' := [(5, .int 1), (0, .ref 146), (2, .int l2), (3, .int l3), (4, .int l4)]) 83 hX dX12_forgets_83 (by decide) rfl ?_
    exact w_sub [1, 2, 3, 4, 0] rfl (lX12_forgets_146_85 hX hR hk76 FU l2 l3 l4 1 u h)
def FX12_forgets_146_L76 : Nat → Int32 → Int32 → Int32 → Mem → Option (Int32 × Mem)
  | 0, _, _, _, _ => none
  | n + 1, l2, l3, l4, u => FX12_forgets_146_b76 (FX12_forgets_146_L76 n) l2 l3 l4 u
theorem lX12_forgets_146_76 {G : Gt} {X : Xt} {v : Int32} {u' : Mem} (hX : CxOk G X cX12_forgets 7 RX12 (some (.int v), SH, RHO, u') 6) (hR : CxRet G X (some .int) (some (.int v), SH, RHO, u')) : ∀ (n : Nat) (l2 l3 l4 : Int32) (u : Mem), FX12_forgets_146_L76 n l2 l3 l4 u = some (v, u') → WM G X 76 [(0, .ref 146), (2, .int l2), (3, .int l3), (4, .int l4)] [] SH RHO u := by
  intro n
  induction n with
  | zero =>
    intro l2 l3 l4 u h
    exact nn_ h
  | succ n ih =>
    intro l2 l3 l4 u h
    exact bX12_forgets_146_76 hX hR ih l2 l3 l4 u h
def FX12_forgets_146_b66 (k29 : Int32 → Int32 → Int32 → Int32 → Mem → Option (Int32 × Mem)) (l1 l2 l3 l4 t1 t2 : Int32) (u : Mem) : Option (Int32 × Mem) :=
  (wrA u 159 10 t1 t2).bind fun u1 => k29 l1 l2 l3 (l4 + 1) u1
theorem bX12_forgets_146_66 {G : Gt} {X : Xt} {v : Int32} {u' : Mem} (hX : CxOk G X cX12_forgets 7 RX12 (some (.int v), SH, RHO, u') 6) (hR : CxRet G X (some .int) (some (.int v), SH, RHO, u')) {k29 : Int32 → Int32 → Int32 → Int32 → Mem → Option (Int32 × Mem)} (hk29 : ∀ (l1 l2 l3 l4 : Int32) (u : Mem), k29 l1 l2 l3 l4 u = some (v, u') → WM G X 29 [(0, .ref 146), (1, .int l1), (2, .int l2), (3, .int l3), (4, .int l4)] [] SH RHO u) (l1 l2 l3 l4 t1 t2 : Int32) (u : Mem) (h : FX12_forgets_146_b66 k29 l1 l2 l3 l4 t1 t2 u = some (v, u')) : WM G X 66 [(0, .ref 146), (1, .int l1), (2, .int l2), (3, .int l3), (4, .int l4)] [.int t2, .int t1, .ref 159] SH RHO u := by
  unfold FX12_forgets_146_b66 at h
  obtain ⟨u1, gu1, h⟩ := o_bind h
  refine w_iast 66 hX s_159 gu1 dX12_forgets_66 ?_
  refine w_iinc (lv' := [(4, .int (l4 + 1)), (0, .ref 146), (1, .int l1), (2, .int l2), (3, .int l3)]) 67 4 hX dX12_forgets_67 rfl (inc_1 _) (by decide) rfl ?_
  refine w_goto (tgt := 29) 70 hX (by decide) dX12_forgets_70 ?_
  exact w_sub [1, 2, 3, 4, 0] rfl (hk29 l1 l2 l3 (l4 + 1) u1 h)
def FX12_forgets_146_b29 (k29 : Int32 → Int32 → Int32 → Int32 → Mem → Option (Int32 × Mem)) (l1 l2 l3 l4 : Int32) (u : Mem) : Option (Int32 × Mem) :=
  (if 10 ≤ l4 then (FX12_forgets_146_L76 FU l2 l3 0 u) else ((rdA u 147 1786 (16 + l1)).bind fun x2 => (FX12_count x2).bind fun x3 => (if l4 = x3 then (FX12_forgets_146_b66 k29 l1 l2 l3 l4 l4 1000000 u) else (FX12_forgets_146_b66 k29 l1 l2 l3 l4 l4 0 u))))
theorem bX12_forgets_146_29 {G : Gt} {X : Xt} {v : Int32} {u' : Mem} (hX : CxOk G X cX12_forgets 7 RX12 (some (.int v), SH, RHO, u') 6) (hR : CxRet G X (some .int) (some (.int v), SH, RHO, u')) {k29 : Int32 → Int32 → Int32 → Int32 → Mem → Option (Int32 × Mem)} (hk29 : ∀ (l1 l2 l3 l4 : Int32) (u : Mem), k29 l1 l2 l3 l4 u = some (v, u') → WM G X 29 [(0, .ref 146), (1, .int l1), (2, .int l2), (3, .int l3), (4, .int l4)] [] SH RHO u) (l1 l2 l3 l4 : Int32) (u : Mem) (h : FX12_forgets_146_b29 k29 l1 l2 l3 l4 u = some (v, u')) : WM G X 29 [(0, .ref 146), (1, .int l1), (2, .int l2), (3, .int l3), (4, .int l4)] [] SH RHO u := by
  unfold FX12_forgets_146_b29 at h
  refine w_iload 4 29 hX rfl dX12_forgets_29 ?_
  refine w_bipush 10 31 hX ib_10 dX12_forgets_31 ?_
  refine w_icmp_ge (tgt := 73) 33 hX dX12_forgets_33 (by decide) (fun c1 => ?_) (fun c1 => ?_)
  · have h := it h c1
    refine w_iconst 0 73 hX ic_0 dX12_forgets_73 ?_
    refine w_istore (lv' := [(4, .int 0), (0, .ref 146), (1, .int l1), (2, .int l2), (3, .int l3)]) 74 hX dX12_forgets_74 (by decide) rfl ?_
    exact w_sub [1, 3, 4, 0] rfl (lX12_forgets_146_76 hX hR FU l2 l3 0 u h)
  · have h := ie h c1
    refine w_aload_n 0 36 hX rfl rfl dX12_forgets_36 ?_
    refine w_getR 37 hX CI_12 s_146 rfl r_146_32 fl_X12_51 rfl dX12_forgets_37 ?_
    refine w_iload 4 40 hX rfl dX12_forgets_40 ?_
    refine w_iload 4 42 hX rfl dX12_forgets_42 ?_
    refine w_aload_n 0 44 hX rfl rfl dX12_forgets_44 ?_
    refine w_getR 45 hX CI_12 s_146 rfl r_146_0 fl_X12_7 rfl dX12_forgets_45 ?_
    refine w_bipush 16 48 hX ib_16 dX12_forgets_48 ?_
    refine w_iload_n 1 50 hX rfl rfl dX12_forgets_50 ?_
    refine w_iadd 51 hX dX12_forgets_51 ?_
    obtain ⟨x2, gx2, h⟩ := o_bind h
    refine w_iald 52 hX s_147 gx2 dX12_forgets_52 ?_
    obtain ⟨x3, gx3, h⟩ := o_bind h
    refine w_invSi (av := [.int x2]) (st := [.int l4, .int l4, .ref 159]) 53 hX ms_yX12_count mi_yX12_count ml_X12_291 (CX12_count x2 u gx3) rfl (by decide) (Nat.le_of_ble_eq_true rfl) (Nat.le_refl _) (Nat.le_refl _) dX12_forgets_53 ?_
    refine w_icmp_ne (tgt := 65) 56 hX dX12_forgets_56 (by decide) (fun c4 => ?_) (fun c4 => ?_)
    · have h := ie h c4
      refine w_iconst 0 65 hX ic_0 dX12_forgets_65 ?_
      exact bX12_forgets_146_66 hX hR hk29 l1 l2 l3 l4 l4 0 u h
    · have h := it h c4
      refine w_ldcw 1000000 59 hX cs_X12_420 dX12_forgets_59 ?_
      refine w_goto (tgt := 66) 62 hX (by decide) dX12_forgets_62 ?_
      exact bX12_forgets_146_66 hX hR hk29 l1 l2 l3 l4 l4 1000000 u h
def FX12_forgets_146_L29 : Nat → Int32 → Int32 → Int32 → Int32 → Mem → Option (Int32 × Mem)
  | 0, _, _, _, _, _ => none
  | n + 1, l1, l2, l3, l4, u => FX12_forgets_146_b29 (FX12_forgets_146_L29 n) l1 l2 l3 l4 u
theorem lX12_forgets_146_29 {G : Gt} {X : Xt} {v : Int32} {u' : Mem} (hX : CxOk G X cX12_forgets 7 RX12 (some (.int v), SH, RHO, u') 6) (hR : CxRet G X (some .int) (some (.int v), SH, RHO, u')) : ∀ (n : Nat) (l1 l2 l3 l4 : Int32) (u : Mem), FX12_forgets_146_L29 n l1 l2 l3 l4 u = some (v, u') → WM G X 29 [(0, .ref 146), (1, .int l1), (2, .int l2), (3, .int l3), (4, .int l4)] [] SH RHO u := by
  intro n
  induction n with
  | zero =>
    intro l1 l2 l3 l4 u h
    exact nn_ h
  | succ n ih =>
    intro l1 l2 l3 l4 u h
    exact bX12_forgets_146_29 hX hR ih l1 l2 l3 l4 u h
def FX12_forgets_146 (p1 p2 : Int32) (u : Mem) : Option (Int32 × Mem) :=
  (FX12_isMan_146 p1 u).bind fun x1 => (if x1 = 0 then (some ((-1), u)) else ((FX12_isIn p2 0 60).bind fun x3 => (if x3 = 0 then (some ((-1), u)) else (bnd2 (FX12_fadeOf_146 p1 u) fun x5 u6 => FX12_forgets_146_L29 FU p1 p2 x5 0 u6))))
theorem CX12_forgets_146 {G : Gt} (p1 p2 : Int32) (u : Mem) {v : Int32} {u' : Mem} (h : FX12_forgets_146 p1 p2 u = some (v, u')) : CT G yX12_forgets cX12_forgets 7 (some .int) 6 [.ref 146, .int p1, .int p2] SH RHO u (some (.int v), SH, RHO, u') :=
  ct_of (by decide) rfl (Nat.le_of_ble_eq_true rfl) (Nat.le_refl _) (Nat.le_refl _) (fun X hX hR => by
  unfold FX12_forgets_146 at h
  refine w_aload_n 0 0 hX rfl rfl dX12_forgets_0 ?_
  refine w_iload_n 1 1 hX rfl rfl dX12_forgets_1 ?_
  obtain ⟨x1, gx1, h⟩ := o_bind h
  refine w_invVi (av := [.int p1]) (st := []) 2 hX CI_12 s_146 rfl mv_yX12_isMan mi_yX12_isMan ml_X12_70 (CX12_isMan_146 p1 u gx1) rfl (by decide) (Nat.le_of_ble_eq_true rfl) (Nat.le_refl _) (Nat.le_refl _) dX12_forgets_2 ?_
  refine w_if_eq (tgt := 18) 5 hX dX12_forgets_5 (by decide) (fun c2 => ?_) (fun c2 => ?_)
  · have h := it h c2
    refine w_iconst (-1) 18 hX ic_m1 dX12_forgets_18 ?_
    exact w_iret 19 hX hR dX12_forgets_19 (by cases h; rfl)
  · have h := ie h c2
    refine w_iload_n 2 8 hX rfl rfl dX12_forgets_8 ?_
    refine w_iconst 0 9 hX ic_0 dX12_forgets_9 ?_
    refine w_bipush 60 10 hX ib_60 dX12_forgets_10 ?_
    obtain ⟨x3, gx3, h⟩ := o_bind h
    refine w_invSi (av := [.int p2, .int 0, .int 60]) (st := []) 12 hX ms_yX12_isIn mi_yX12_isIn ml_X12_54 (CX12_isIn p2 0 60 u gx3) rfl (by decide) (Nat.le_of_ble_eq_true rfl) (Nat.le_refl _) (Nat.le_refl _) dX12_forgets_12 ?_
    refine w_if_ne (tgt := 20) 15 hX dX12_forgets_15 (by decide) (fun c4 => ?_) (fun c4 => ?_)
    · have h := ie h c4
      refine w_aload_n 0 20 hX rfl rfl dX12_forgets_20 ?_
      refine w_iload_n 1 21 hX rfl rfl dX12_forgets_21 ?_
      obtain ⟨x5, u6, gx5, h⟩ := o_bnd2 h
      refine w_invVi (av := [.int p1]) (st := []) 22 hX CI_12 s_146 rfl mv_yX12_fadeOf mi_yX12_fadeOf ml_X12_376 (CX12_fadeOf_146 p1 u gx5) rfl (by decide) (Nat.le_of_ble_eq_true rfl) (Nat.le_refl _) (Nat.le_refl _) dX12_forgets_22 ?_
      refine w_istore_n (lv' := [(3, .int x5), (0, .ref 146), (1, .int p1), (2, .int p2)]) 25 hX rfl dX12_forgets_25 (by decide) rfl ?_
      refine w_iconst 0 26 hX ic_0 dX12_forgets_26 ?_
      refine w_istore (lv' := [(4, .int 0), (3, .int x5), (0, .ref 146), (1, .int p1), (2, .int p2)]) 27 hX dX12_forgets_27 (by decide) rfl ?_
      exact w_sub [2, 3, 4, 1, 0] rfl (lX12_forgets_146_29 hX hR FU p1 p2 x5 0 u6 h)
    · have h := it h c4
      refine w_iconst (-1) 18 hX ic_m1 dX12_forgets_18 ?_
      exact w_iret 19 hX hR dX12_forgets_19 (by cases h; rfl))
def FX7_lastToRemember_106_b98 (l1 : Int32) (u : Mem) : Option Int32 :=
  some l1
theorem bX7_lastToRemember_106_98 {G : Gt} {X : Xt} {v : Int32} {u : Mem} (hX : CxOk G X cX7_lastToRemember 6 RX7 (some (.int v), SH, RHO, u) 2) (hR : CxRet G X (some .int) (some (.int v), SH, RHO, u)) (l1 : Int32) (h : FX7_lastToRemember_106_b98 l1 u = some v) : WM G X 98 [(1, .int l1)] [] SH RHO u := by
  unfold FX7_lastToRemember_106_b98 at h
  refine w_iload_n 0 98 hX rfl rfl dX7_lastToRemember_98 ?_
  exact w_iret 99 hX hR dX7_lastToRemember_99 (by cases h; rfl)
def FX7_lastToRemember_106_b92 (k6 : Int32 → Int32 → Int32 → Mem → Option Int32) (l1 l2 l3 : Int32) (u : Mem) : Option Int32 :=
  k6 l1 l2 (l3 + 1) u
theorem bX7_lastToRemember_106_92 {G : Gt} {X : Xt} {v : Int32} {u : Mem} (hX : CxOk G X cX7_lastToRemember 6 RX7 (some (.int v), SH, RHO, u) 2) (hR : CxRet G X (some .int) (some (.int v), SH, RHO, u)) {k6 : Int32 → Int32 → Int32 → Mem → Option Int32} (hk6 : ∀ (l1 l2 l3 : Int32), k6 l1 l2 l3 u = some v → WM G X 6 [(0, .ref 106), (1, .int l1), (2, .int l2), (3, .int l3)] [] SH RHO u) (l1 l2 l3 : Int32) (h : FX7_lastToRemember_106_b92 k6 l1 l2 l3 u = some v) : WM G X 92 [(0, .ref 106), (1, .int l1), (2, .int l2), (3, .int l3)] [] SH RHO u := by
  unfold FX7_lastToRemember_106_b92 at h
  refine w_iinc (lv' := [(3, .int (l3 + 1)), (0, .ref 106), (1, .int l1), (2, .int l2)]) 92 3 hX dX7_lastToRemember_92 rfl (inc_1 _) (by decide) rfl ?_
  refine w_goto (tgt := 6) 95 hX (by decide) dX7_lastToRemember_95 ?_
  exact w_sub [1, 2, 3, 0] rfl (hk6 l1 l2 (l3 + 1) h)
def FX7_lastToRemember_106_b87 (k6 : Int32 → Int32 → Int32 → Mem → Option Int32) (l3 l4 : Int32) (u : Mem) : Option Int32 :=
  FX7_lastToRemember_106_b92 k6 l3 l4 l3 u
theorem bX7_lastToRemember_106_87 {G : Gt} {X : Xt} {v : Int32} {u : Mem} (hX : CxOk G X cX7_lastToRemember 6 RX7 (some (.int v), SH, RHO, u) 2) (hR : CxRet G X (some .int) (some (.int v), SH, RHO, u)) {k6 : Int32 → Int32 → Int32 → Mem → Option Int32} (hk6 : ∀ (l1 l2 l3 : Int32), k6 l1 l2 l3 u = some v → WM G X 6 [(0, .ref 106), (1, .int l1), (2, .int l2), (3, .int l3)] [] SH RHO u) (l3 l4 : Int32) (h : FX7_lastToRemember_106_b87 k6 l3 l4 u = some v) : WM G X 87 [(0, .ref 106), (3, .int l3), (4, .int l4)] [] SH RHO u := by
  unfold FX7_lastToRemember_106_b87 at h
  refine w_iload_n 1 87 hX rfl rfl dX7_lastToRemember_87 ?_
  refine w_istore_n (lv' := [(1, .int l3), (0, .ref 106), (3, .int l3), (4, .int l4)]) 88 hX rfl dX7_lastToRemember_88 (by decide) rfl ?_
  refine w_iload 3 89 hX rfl dX7_lastToRemember_89 ?_
  refine w_istore_n (lv' := [(2, .int l4), (1, .int l3), (0, .ref 106), (3, .int l3), (4, .int l4)]) 91 hX rfl dX7_lastToRemember_91 (by decide) rfl ?_
  exact w_sub [2, 1, 0, 3] rfl (bX7_lastToRemember_106_92 hX hR hk6 l3 l4 l3 h)
def FX7_lastToRemember_106_b68 (k6 : Int32 → Int32 → Int32 → Mem → Option Int32) (l1 l2 l3 l4 t0 : Int32) (u : Mem) : Option Int32 :=
  (if l2 < l4 then (FX7_lastToRemember_106_b87 k6 l3 l4 u) else ((if l4 = l2 then ((if t0 = 0 then (FX7_lastToRemember_106_b92 k6 l1 l2 l3 u) else (FX7_lastToRemember_106_b87 k6 l3 l4 u))) else (FX7_lastToRemember_106_b92 k6 l1 l2 l3 u))))
theorem bX7_lastToRemember_106_68 {G : Gt} {X : Xt} {v : Int32} {u : Mem} (hX : CxOk G X cX7_lastToRemember 6 RX7 (some (.int v), SH, RHO, u) 2) (hR : CxRet G X (some .int) (some (.int v), SH, RHO, u)) {k6 : Int32 → Int32 → Int32 → Mem → Option Int32} (hk6 : ∀ (l1 l2 l3 : Int32), k6 l1 l2 l3 u = some v → WM G X 6 [(0, .ref 106), (1, .int l1), (2, .int l2), (3, .int l3)] [] SH RHO u) (l1 l2 l3 l4 t0 : Int32) (h : FX7_lastToRemember_106_b68 k6 l1 l2 l3 l4 t0 u = some v) : WM G X 68 [(0, .ref 106), (1, .int l1), (2, .int l2), (3, .int l3), (4, .int l4)] [.int t0] SH RHO u := by
  unfold FX7_lastToRemember_106_b68 at h
  refine w_istore (lv' := [(5, .int t0), (0, .ref 106), (1, .int l1), (2, .int l2), (3, .int l3), (4, .int l4)]) 68 hX dX7_lastToRemember_68 (by decide) rfl ?_
  refine w_iload 5 70 hX rfl dX7_lastToRemember_70 ?_
  refine w_iload_n 3 72 hX rfl rfl dX7_lastToRemember_72 ?_
  refine w_icmp_gt (tgt := 87) 73 hX dX7_lastToRemember_73 (by decide) (fun c1 => ?_) (fun c1 => ?_)
  · have h := it h c1
    exact w_sub [1, 4, 5] rfl (bX7_lastToRemember_106_87 hX hR hk6 l3 l4 h)
  · have h := ie h c1
    refine w_iload 5 76 hX rfl dX7_lastToRemember_76 ?_
    refine w_iload_n 3 78 hX rfl rfl dX7_lastToRemember_78 ?_
    refine w_icmp_ne (tgt := 92) 79 hX dX7_lastToRemember_79 (by decide) (fun c2 => ?_) (fun c2 => ?_)
    · have h := ie h c2
      exact w_sub [1, 2, 3, 4] rfl (bX7_lastToRemember_106_92 hX hR hk6 l1 l2 l3 h)
    · have h := it h c2
      refine w_iload 0 82 hX rfl dX7_lastToRemember_82 ?_
      refine w_if_eq (tgt := 92) 84 hX dX7_lastToRemember_84 (by decide) (fun c3 => ?_) (fun c3 => ?_)
      · have h := it h c3
        exact w_sub [1, 2, 3, 4] rfl (bX7_lastToRemember_106_92 hX hR hk6 l1 l2 l3 h)
      · have h := ie h c3
        exact w_sub [1, 4, 5] rfl (bX7_lastToRemember_106_87 hX hR hk6 l3 l4 h)
def FX7_lastToRemember_106_b6 (k6 : Int32 → Int32 → Int32 → Mem → Option Int32) (l1 l2 l3 : Int32) (u : Mem) : Option Int32 :=
  (if 12 ≤ l3 then (FX7_lastToRemember_106_b98 l1 u) else ((if (u 1 0) ≤ l3 then (FX7_lastToRemember_106_b98 l1 u) else ((rdA u 25 12 l3).bind fun x3 => (FJ6_bitCount_0f7a4 x3).bind fun x4 => (if l1 = (-1) then (FX7_lastToRemember_106_b68 k6 l1 l2 l3 x4 0 u) else ((rdA u 3 12 l3).bind fun x6 => (rdA u 3 12 l1).bind fun x7 => (if x6 ≤ x7 then (FX7_lastToRemember_106_b68 k6 l1 l2 l3 x4 0 u) else (FX7_lastToRemember_106_b68 k6 l1 l2 l3 x4 1 u))))))))
theorem bX7_lastToRemember_106_6 {G : Gt} {X : Xt} {v : Int32} {u : Mem} (hX : CxOk G X cX7_lastToRemember 6 RX7 (some (.int v), SH, RHO, u) 2) (hR : CxRet G X (some .int) (some (.int v), SH, RHO, u)) {k6 : Int32 → Int32 → Int32 → Mem → Option Int32} (hk6 : ∀ (l1 l2 l3 : Int32), k6 l1 l2 l3 u = some v → WM G X 6 [(0, .ref 106), (1, .int l1), (2, .int l2), (3, .int l3)] [] SH RHO u) (l1 l2 l3 : Int32) (h : FX7_lastToRemember_106_b6 k6 l1 l2 l3 u = some v) : WM G X 6 [(0, .ref 106), (1, .int l1), (2, .int l2), (3, .int l3)] [] SH RHO u := by
  unfold FX7_lastToRemember_106_b6 at h
  refine w_iload_n 3 6 hX rfl rfl dX7_lastToRemember_6 ?_
  refine w_bipush 12 7 hX ib_12 dX7_lastToRemember_7 ?_
  refine w_icmp_ge (tgt := 98) 9 hX dX7_lastToRemember_9 (by decide) (fun c1 => ?_) (fun c1 => ?_)
  · have h := it h c1
    exact w_sub [1] rfl (bX7_lastToRemember_106_98 hX hR l1 h)
  · have h := ie h c1
    refine w_iload_n 3 12 hX rfl rfl dX7_lastToRemember_12 ?_
    refine w_aload_n 0 13 hX rfl rfl dX7_lastToRemember_13 ?_
    refine w_getR 14 hX CI_7 s_106 rfl r_106_0 fl_X7_36 rfl dX7_lastToRemember_14 ?_
    refine w_getI (j := 0) 17 hX CI_9 s_1 rfl fl_X7_48 rfl dX7_lastToRemember_17 ?_
    refine w_icmp_ge (tgt := 98) 20 hX dX7_lastToRemember_20 (by decide) (fun c2 => ?_) (fun c2 => ?_)
    · have h := it h c2
      exact w_sub [1] rfl (bX7_lastToRemember_106_98 hX hR l1 h)
    · have h := ie h c2
      refine w_aload_n 0 23 hX rfl rfl dX7_lastToRemember_23 ?_
      refine w_getR 24 hX CI_7 s_106 rfl r_106_1 fl_X7_40 rfl dX7_lastToRemember_24 ?_
      refine w_getR 27 hX CI_0 s_23 rfl r_23_1 fl_X7_54 rfl dX7_lastToRemember_27 ?_
      refine w_iload_n 3 30 hX rfl rfl dX7_lastToRemember_30 ?_
      obtain ⟨x3, gx3, h⟩ := o_bind h
      refine w_iald 31 hX s_25 gx3 dX7_lastToRemember_31 ?_
      obtain ⟨x4, gx4, h⟩ := o_bind h
      refine w_invSi (av := [.int x3]) (st := []) 32 hX ms_yJ6_bitCount_0f7a4 mi_yJ6_bitCount_0f7a4 ml_X7_84 (CJ6_bitCount_0f7a4 x3 u gx4) rfl (by decide) (Nat.le_of_ble_eq_true rfl) (Nat.le_refl _) (Nat.le_refl _) dX7_lastToRemember_32 ?_
      refine w_istore (lv' := [(4, .int x4), (0, .ref 106), (1, .int l1), (2, .int l2), (3, .int l3)]) 35 hX dX7_lastToRemember_35 (by decide) rfl ?_
      refine w_iload_n 2 37 hX rfl rfl dX7_lastToRemember_37 ?_
      refine w_iconst (-1) 38 hX ic_m1 dX7_lastToRemember_38 ?_
      refine w_icmp_eq (tgt := 67) 39 hX dX7_lastToRemember_39 (by decide) (fun c5 => ?_) (fun c5 => ?_)
      · have h := it h c5
        refine w_iconst 0 67 hX ic_0 dX7_lastToRemember_67 ?_
        exact w_sub [1, 2, 3, 4, 0] rfl (bX7_lastToRemember_106_68 hX hR hk6 l1 l2 l3 x4 0 h)
      · have h := ie h c5
        refine w_aload_n 1 42 hX rfl rfl dX7_lastToRemember_42 ?_
        refine w_getR 43 hX CI_7 s_106 rfl r_106_0 fl_X7_36 rfl dX7_lastToRemember_43 ?_
        refine w_getR 46 hX CI_9 s_1 rfl r_1_2 fl_X7_153 rfl dX7_lastToRemember_46 ?_
        refine w_iload_n 4 49 hX rfl rfl dX7_lastToRemember_49 ?_
        obtain ⟨x6, gx6, h⟩ := o_bind h
        refine w_iald 50 hX s_3 gx6 dX7_lastToRemember_50 ?_
        refine w_aload_n 1 51 hX rfl rfl dX7_lastToRemember_51 ?_
        refine w_getR 52 hX CI_7 s_106 rfl r_106_0 fl_X7_36 rfl dX7_lastToRemember_52 ?_
        refine w_getR 55 hX CI_9 s_1 rfl r_1_2 fl_X7_153 rfl dX7_lastToRemember_55 ?_
        refine w_iload_n 2 58 hX rfl rfl dX7_lastToRemember_58 ?_
        obtain ⟨x7, gx7, h⟩ := o_bind h
        refine w_iald 59 hX s_3 gx7 dX7_lastToRemember_59 ?_
        refine w_icmp_le (tgt := 67) 60 hX dX7_lastToRemember_60 (by decide) (fun c8 => ?_) (fun c8 => ?_)
        · have h := it h c8
          refine w_iconst 0 67 hX ic_0 dX7_lastToRemember_67 ?_
          exact w_sub [1, 2, 3, 4, 0] rfl (bX7_lastToRemember_106_68 hX hR hk6 l1 l2 l3 x4 0 h)
        · have h := ie h c8
          refine w_iconst 1 63 hX ic_1 dX7_lastToRemember_63 ?_
          refine w_goto (tgt := 68) 64 hX (by decide) dX7_lastToRemember_64 ?_
          exact w_sub [1, 2, 3, 4, 0] rfl (bX7_lastToRemember_106_68 hX hR hk6 l1 l2 l3 x4 1 h)
def FX7_lastToRemember_106_L6 : Nat → Int32 → Int32 → Int32 → Mem → Option Int32
  | 0, _, _, _, _ => none
  | n + 1, l1, l2, l3, u => FX7_lastToRemember_106_b6 (FX7_lastToRemember_106_L6 n) l1 l2 l3 u
theorem lX7_lastToRemember_106_6 {G : Gt} {X : Xt} {v : Int32} {u : Mem} (hX : CxOk G X cX7_lastToRemember 6 RX7 (some (.int v), SH, RHO, u) 2) (hR : CxRet G X (some .int) (some (.int v), SH, RHO, u)) : ∀ (n : Nat) (l1 l2 l3 : Int32), FX7_lastToRemember_106_L6 n l1 l2 l3 u = some v → WM G X 6 [(0, .ref 106), (1, .int l1), (2, .int l2), (3, .int l3)] [] SH RHO u := by
  intro n
  induction n with
  | zero =>
    intro l1 l2 l3 h
    exact nn_ h
  | succ n ih =>
    intro l1 l2 l3 h
    exact bX7_lastToRemember_106_6 hX hR ih l1 l2 l3 h
def FX7_lastToRemember_106 (u : Mem) : Option Int32 :=
  FX7_lastToRemember_106_L6 FU (-1) (-1) 0 u
theorem CX7_lastToRemember_106 {G : Gt} (u : Mem) {v : Int32} (h : FX7_lastToRemember_106 u = some v) : CT G yX7_lastToRemember cX7_lastToRemember 6 (some .int) 2 [.ref 106] SH RHO u (some (.int v), SH, RHO, u) :=
  ct_of (by decide) rfl (Nat.le_of_ble_eq_true rfl) (Nat.le_refl _) (Nat.le_refl _) (fun X hX hR => by
  unfold FX7_lastToRemember_106 at h
  refine w_iconst (-1) 0 hX ic_m1 dX7_lastToRemember_0 ?_
  refine w_istore_n (lv' := [(1, .int (-1)), (0, .ref 106)]) 1 hX rfl dX7_lastToRemember_1 (by decide) rfl ?_
  refine w_iconst (-1) 2 hX ic_m1 dX7_lastToRemember_2 ?_
  refine w_istore_n (lv' := [(2, .int (-1)), (1, .int (-1)), (0, .ref 106)]) 3 hX rfl dX7_lastToRemember_3 (by decide) rfl ?_
  refine w_iconst 0 4 hX ic_0 dX7_lastToRemember_4 ?_
  refine w_istore_n (lv' := [(3, .int 0), (2, .int (-1)), (1, .int (-1)), (0, .ref 106)]) 5 hX rfl dX7_lastToRemember_5 (by decide) rfl ?_
  exact w_sub [3, 2, 1, 0] rfl (lX7_lastToRemember_106_6 hX hR FU (-1) (-1) 0 h))
def FX11_last_0 (u : Mem) : Option Int32 :=
  (FX7_lastToRemember_106 u).bind fun x1 => some x1
theorem CX11_last_0 {G : Gt} (u : Mem) {v : Int32} (h : FX11_last_0 u = some v) : CT G yX11_last cX11_last 1 (some .int) 3 [.ref 0] SH RHO u (some (.int v), SH, RHO, u) :=
  ct_of (by decide) rfl (Nat.le_of_ble_eq_true rfl) (Nat.le_refl _) (Nat.le_refl _) (fun X hX hR => by
  unfold FX11_last_0 at h
  refine w_aload_n 0 0 hX rfl rfl dX11_last_0 ?_
  refine w_getR 1 hX CI_11 s_0 rfl r_0_7 fl_X11_67 rfl dX11_last_1 ?_
  obtain ⟨x1, gx1, h⟩ := o_bind h
  refine w_invVi (av := []) (st := []) 4 hX CI_7 s_106 rfl mv_yX7_lastToRemember mi_yX7_lastToRemember ml_X11_261 (CX7_lastToRemember_106 u gx1) rfl (by decide) (Nat.le_of_ble_eq_true rfl) (Nat.le_refl _) (Nat.le_refl _) dX11_last_4 ?_
  exact w_iret 7 hX hR dX11_last_7 (by cases h; rfl))
def FX12_isLaster_146 (p1 p2 : Int32) (u : Mem) : Option Int32 :=
  (if p2 = (-1) then (some 1) else ((rdA u 147 1786 (16 + p1)).bind fun x2 => (FX12_count x2).bind fun x3 => (rdA u 147 1786 (16 + p2)).bind fun x4 => (FX12_count x4).bind fun x5 => (if 0 < (x3 - x5) then (some 1) else ((if (x3 - x5) = 0 then ((rdA u 147 1786 (102 + p1)).bind fun x8 => (rdA u 147 1786 (102 + p2)).bind fun x9 => (if x8 ≤ x9 then (some 0) else (some 1))) else (some 0))))))
theorem CX12_isLaster_146 {G : Gt} (p1 p2 : Int32) (u : Mem) {v : Int32} (h : FX12_isLaster_146 p1 p2 u = some v) : CT G yX12_isLaster cX12_isLaster 4 (some .boolean) 2 [.ref 146, .int p1, .int p2] SH RHO u (some (.int v), SH, RHO, u) :=
  ct_of (by decide) rfl (Nat.le_of_ble_eq_true rfl) (Nat.le_refl _) (Nat.le_refl _) (fun X hX hR => by
  unfold FX12_isLaster_146 at h
  refine w_iload_n 2 0 hX rfl rfl dX12_isLaster_0 ?_
  refine w_iconst (-1) 1 hX ic_m1 dX12_isLaster_1 ?_
  refine w_icmp_ne (tgt := 7) 2 hX dX12_isLaster_2 (by decide) (fun c1 => ?_) (fun c1 => ?_)
  · have h := ie h c1
    refine w_aload_n 0 7 hX rfl rfl dX12_isLaster_7 ?_
    refine w_getR 8 hX CI_12 s_146 rfl r_146_0 fl_X12_7 rfl dX12_isLaster_8 ?_
    refine w_bipush 16 11 hX ib_16 dX12_isLaster_11 ?_
    refine w_iload_n 1 13 hX rfl rfl dX12_isLaster_13 ?_
    refine w_iadd 14 hX dX12_isLaster_14 ?_
    obtain ⟨x2, gx2, h⟩ := o_bind h
    refine w_iald 15 hX s_147 gx2 dX12_isLaster_15 ?_
    obtain ⟨x3, gx3, h⟩ := o_bind h
    refine w_invSi (av := [.int x2]) (st := []) 16 hX ms_yX12_count mi_yX12_count ml_X12_291 (CX12_count x2 u gx3) rfl (by decide) (Nat.le_of_ble_eq_true rfl) (Nat.le_refl _) (Nat.le_refl _) dX12_isLaster_16 ?_
    refine w_aload_n 0 19 hX rfl rfl dX12_isLaster_19 ?_
    refine w_getR 20 hX CI_12 s_146 rfl r_146_0 fl_X12_7 rfl dX12_isLaster_20 ?_
    refine w_bipush 16 23 hX ib_16 dX12_isLaster_23 ?_
    refine w_iload_n 2 25 hX rfl rfl dX12_isLaster_25 ?_
    refine w_iadd 26 hX dX12_isLaster_26 ?_
    obtain ⟨x4, gx4, h⟩ := o_bind h
    refine w_iald 27 hX s_147 gx4 dX12_isLaster_27 ?_
    obtain ⟨x5, gx5, h⟩ := o_bind h
    refine w_invSi (av := [.int x4]) (st := [.int x3]) 28 hX ms_yX12_count mi_yX12_count ml_X12_291 (CX12_count x4 u gx5) rfl (by decide) (Nat.le_of_ble_eq_true rfl) (Nat.le_refl _) (Nat.le_refl _) dX12_isLaster_28 ?_
    refine w_isub 31 hX dX12_isLaster_31 ?_
    refine w_istore_n (lv' := [(3, .int (x3 - x5)), (0, .ref 146), (1, .int p1), (2, .int p2)]) 32 hX rfl dX12_isLaster_32 (by decide) rfl ?_
    refine w_iload_n 0 33 hX rfl rfl dX12_isLaster_33 ?_
    refine w_if_gt (tgt := 62) 34 hX dX12_isLaster_34 (by decide) (fun c6 => ?_) (fun c6 => ?_)
    · have h := it h c6
      refine w_iconst 1 62 hX ic_1 dX12_isLaster_62 ?_
      refine w_goto (tgt := 67) 63 hX (by decide) dX12_isLaster_63 ?_
      exact w_zret 67 hX hR (by decide) dX12_isLaster_67 (by cases h; rfl)
    · have h := ie h c6
      refine w_iload_n 0 37 hX rfl rfl dX12_isLaster_37 ?_
      refine w_if_ne (tgt := 66) 38 hX dX12_isLaster_38 (by decide) (fun c7 => ?_) (fun c7 => ?_)
      · have h := ie h c7
        refine w_iconst 0 66 hX ic_0 dX12_isLaster_66 ?_
        exact w_zret 67 hX hR (by decide) dX12_isLaster_67 (by cases h; rfl)
      · have h := it h c7
        refine w_aload_n 1 41 hX rfl rfl dX12_isLaster_41 ?_
        refine w_getR 42 hX CI_12 s_146 rfl r_146_0 fl_X12_7 rfl dX12_isLaster_42 ?_
        refine w_bipush 102 45 hX ib_102 dX12_isLaster_45 ?_
        refine w_iload_n 2 47 hX rfl rfl dX12_isLaster_47 ?_
        refine w_iadd 48 hX dX12_isLaster_48 ?_
        obtain ⟨x8, gx8, h⟩ := o_bind h
        refine w_iald 49 hX s_147 gx8 dX12_isLaster_49 ?_
        refine w_aload_n 1 50 hX rfl rfl dX12_isLaster_50 ?_
        refine w_getR 51 hX CI_12 s_146 rfl r_146_0 fl_X12_7 rfl dX12_isLaster_51 ?_
        refine w_bipush 102 54 hX ib_102 dX12_isLaster_54 ?_
        refine w_iload_n 3 56 hX rfl rfl dX12_isLaster_56 ?_
        refine w_iadd 57 hX dX12_isLaster_57 ?_
        obtain ⟨x9, gx9, h⟩ := o_bind h
        refine w_iald 58 hX s_147 gx9 dX12_isLaster_58 ?_
        refine w_icmp_le (tgt := 66) 59 hX dX12_isLaster_59 (by decide) (fun c10 => ?_) (fun c10 => ?_)
        · have h := it h c10
          refine w_iconst 0 66 hX ic_0 dX12_isLaster_66 ?_
          exact w_zret 67 hX hR (by decide) dX12_isLaster_67 (by cases h; rfl)
        · have h := ie h c10
          refine w_iconst 1 62 hX ic_1 dX12_isLaster_62 ?_
          refine w_goto (tgt := 67) 63 hX (by decide) dX12_isLaster_63 ?_
          exact w_zret 67 hX hR (by decide) dX12_isLaster_67 (by cases h; rfl)
  · have h := it h c1
    refine w_iconst 1 5 hX ic_1 dX12_isLaster_5 ?_
    exact w_zret 6 hX hR (by decide) dX12_isLaster_6 (by cases h; rfl))
def FX12_last_146_b26 (k4 : Int32 → Int32 → Mem → Option Int32) (l1 l2 : Int32) (u : Mem) : Option Int32 :=
  k4 l1 (l2 + 1) u
theorem bX12_last_146_26 {G : Gt} {X : Xt} {v : Int32} {u : Mem} (hX : CxOk G X cX12_last 3 RX12 (some (.int v), SH, RHO, u) 3) (hR : CxRet G X (some .int) (some (.int v), SH, RHO, u)) {k4 : Int32 → Int32 → Mem → Option Int32} (hk4 : ∀ (l1 l2 : Int32), k4 l1 l2 u = some v → WM G X 4 [(0, .ref 146), (1, .int l1), (2, .int l2)] [] SH RHO u) (l1 l2 : Int32) (h : FX12_last_146_b26 k4 l1 l2 u = some v) : WM G X 26 [(0, .ref 146), (1, .int l1), (2, .int l2)] [] SH RHO u := by
  unfold FX12_last_146_b26 at h
  refine w_iinc (lv' := [(2, .int (l2 + 1)), (0, .ref 146), (1, .int l1)]) 26 2 hX dX12_last_26 rfl (inc_1 _) (by decide) rfl ?_
  refine w_goto (tgt := 4) 29 hX (by decide) dX12_last_29 ?_
  exact w_sub [1, 2, 0] rfl (hk4 l1 (l2 + 1) h)
def FX12_last_146_b4 (k4 : Int32 → Int32 → Mem → Option Int32) (l1 l2 : Int32) (u : Mem) : Option Int32 :=
  (if (u 147 78) ≤ l2 then (some l1) else ((FX12_isLaster_146 l2 l1 u).bind fun x2 => (if x2 = 0 then (FX12_last_146_b26 k4 l1 l2 u) else (FX12_last_146_b26 k4 l2 l2 u))))
theorem bX12_last_146_4 {G : Gt} {X : Xt} {v : Int32} {u : Mem} (hX : CxOk G X cX12_last 3 RX12 (some (.int v), SH, RHO, u) 3) (hR : CxRet G X (some .int) (some (.int v), SH, RHO, u)) {k4 : Int32 → Int32 → Mem → Option Int32} (hk4 : ∀ (l1 l2 : Int32), k4 l1 l2 u = some v → WM G X 4 [(0, .ref 146), (1, .int l1), (2, .int l2)] [] SH RHO u) (l1 l2 : Int32) (h : FX12_last_146_b4 k4 l1 l2 u = some v) : WM G X 4 [(0, .ref 146), (1, .int l1), (2, .int l2)] [] SH RHO u := by
  unfold FX12_last_146_b4 at h
  refine w_iload_n 2 4 hX rfl rfl dX12_last_4 ?_
  refine w_aload_n 0 5 hX rfl rfl dX12_last_5 ?_
  refine w_getR 6 hX CI_12 s_146 rfl r_146_0 fl_X12_7 rfl dX12_last_6 ?_
  refine w_bipush 78 9 hX ib_78 dX12_last_9 ?_
  refine w_iald 11 hX s_147 (rdK 78 78 n_78 (by decide) (by decide)) dX12_last_11 ?_
  refine w_icmp_ge (tgt := 32) 12 hX dX12_last_12 (by decide) (fun c1 => ?_) (fun c1 => ?_)
  · have h := it h c1
    refine w_iload_n 1 32 hX rfl rfl dX12_last_32 ?_
    exact w_iret 33 hX hR dX12_last_33 (by cases h; rfl)
  · have h := ie h c1
    refine w_aload_n 0 15 hX rfl rfl dX12_last_15 ?_
    refine w_iload_n 2 16 hX rfl rfl dX12_last_16 ?_
    refine w_iload_n 1 17 hX rfl rfl dX12_last_17 ?_
    obtain ⟨x2, gx2, h⟩ := o_bind h
    refine w_invVi (av := [.int l2, .int l1]) (st := []) 18 hX CI_12 s_146 rfl mv_yX12_isLaster mi_yX12_isLaster ml_X12_454 (CX12_isLaster_146 l2 l1 u gx2) rfl (by decide) (Nat.le_of_ble_eq_true rfl) (Nat.le_refl _) (Nat.le_refl _) dX12_last_18 ?_
    refine w_if_eq (tgt := 26) 21 hX dX12_last_21 (by decide) (fun c3 => ?_) (fun c3 => ?_)
    · have h := it h c3
      exact bX12_last_146_26 hX hR hk4 l1 l2 h
    · have h := ie h c3
      refine w_iload_n 2 24 hX rfl rfl dX12_last_24 ?_
      refine w_istore_n (lv' := [(1, .int l2), (0, .ref 146), (2, .int l2)]) 25 hX rfl dX12_last_25 (by decide) rfl ?_
      exact w_sub [1, 0, 2] rfl (bX12_last_146_26 hX hR hk4 l2 l2 h)
def FX12_last_146_L4 : Nat → Int32 → Int32 → Mem → Option Int32
  | 0, _, _, _ => none
  | n + 1, l1, l2, u => FX12_last_146_b4 (FX12_last_146_L4 n) l1 l2 u
theorem lX12_last_146_4 {G : Gt} {X : Xt} {v : Int32} {u : Mem} (hX : CxOk G X cX12_last 3 RX12 (some (.int v), SH, RHO, u) 3) (hR : CxRet G X (some .int) (some (.int v), SH, RHO, u)) : ∀ (n : Nat) (l1 l2 : Int32), FX12_last_146_L4 n l1 l2 u = some v → WM G X 4 [(0, .ref 146), (1, .int l1), (2, .int l2)] [] SH RHO u := by
  intro n
  induction n with
  | zero =>
    intro l1 l2 h
    exact nn_ h
  | succ n ih =>
    intro l1 l2 h
    exact bX12_last_146_4 hX hR ih l1 l2 h
def FX12_last_146 (u : Mem) : Option Int32 :=
  FX12_last_146_L4 FU (-1) 0 u
theorem CX12_last_146 {G : Gt} (u : Mem) {v : Int32} (h : FX12_last_146 u = some v) : CT G yX12_last cX12_last 3 (some .int) 3 [.ref 146] SH RHO u (some (.int v), SH, RHO, u) :=
  ct_of (by decide) rfl (Nat.le_of_ble_eq_true rfl) (Nat.le_refl _) (Nat.le_refl _) (fun X hX hR => by
  unfold FX12_last_146 at h
  refine w_iconst (-1) 0 hX ic_m1 dX12_last_0 ?_
  refine w_istore_n (lv' := [(1, .int (-1)), (0, .ref 146)]) 1 hX rfl dX12_last_1 (by decide) rfl ?_
  refine w_iconst 0 2 hX ic_0 dX12_last_2 ?_
  refine w_istore_n (lv' := [(2, .int 0), (1, .int (-1)), (0, .ref 146)]) 3 hX rfl dX12_last_3 (by decide) rfl ?_
  exact w_sub [2, 1, 0] rfl (lX12_last_146_4 hX hR FU (-1) 0 h))
def FX7_endsWar_106 (p1 : Int32) (u : Mem) : Option Int32 :=
  (FX3_known_32 0 u).bind fun x1 => (FX9_weightOf_1 (x1 &&& (p1 ^^^ (-1))) u).bind fun x2 => (if x2 < (u 1 7) then (some 1) else ((FX3_known_32 1 u).bind fun x4 => (FX9_weightOf_1 (x4 &&& (p1 ^^^ (-1))) u).bind fun x5 => (if (u 1 7) ≤ x5 then (some 0) else (some 1))))
theorem CX7_endsWar_106 {G : Gt} (p1 : Int32) (u : Mem) {v : Int32} (h : FX7_endsWar_106 p1 u = some v) : CT G yX7_endsWar cX7_endsWar 2 (some .boolean) 3 [.ref 106, .int p1] SH RHO u (some (.int v), SH, RHO, u) :=
  ct_of (by decide) rfl (Nat.le_of_ble_eq_true rfl) (Nat.le_refl _) (Nat.le_refl _) (fun X hX hR => by
  unfold FX7_endsWar_106 at h
  refine w_aload_n 0 0 hX rfl rfl dX7_endsWar_0 ?_
  refine w_getR 1 hX CI_7 s_106 rfl r_106_0 fl_X7_36 rfl dX7_endsWar_1 ?_
  refine w_aload_n 0 4 hX rfl rfl dX7_endsWar_4 ?_
  refine w_getR 5 hX CI_7 s_106 rfl r_106_2 fl_X7_44 rfl dX7_endsWar_5 ?_
  refine w_iconst 0 8 hX ic_0 dX7_endsWar_8 ?_
  obtain ⟨x1, gx1, h⟩ := o_bind h
  refine w_invVi (av := [.int 0]) (st := [.ref 1]) 9 hX CI_3 s_32 rfl mv_yX3_known mi_yX3_known ml_X7_156 (CX3_known_32 0 u gx1) rfl (by decide) (Nat.le_of_ble_eq_true rfl) (Nat.le_refl _) (Nat.le_refl _) dX7_endsWar_9 ?_
  refine w_iload_n 1 12 hX rfl rfl dX7_endsWar_12 ?_
  refine w_iconst (-1) 13 hX ic_m1 dX7_endsWar_13 ?_
  refine w_ixor 14 hX dX7_endsWar_14 ?_
  refine w_iand 15 hX dX7_endsWar_15 ?_
  obtain ⟨x2, gx2, h⟩ := o_bind h
  refine w_invVi (av := [.int (x1 &&& (p1 ^^^ (-1)))]) (st := []) 16 hX CI_9 s_1 rfl mv_yX9_weightOf mi_yX9_weightOf ml_X7_162 (CX9_weightOf_1 (x1 &&& (p1 ^^^ (-1))) u gx2) rfl (by decide) (Nat.le_of_ble_eq_true rfl) (Nat.le_refl _) (Nat.le_refl _) dX7_endsWar_16 ?_
  refine w_aload_n 0 19 hX rfl rfl dX7_endsWar_19 ?_
  refine w_getR 20 hX CI_7 s_106 rfl r_106_0 fl_X7_36 rfl dX7_endsWar_20 ?_
  refine w_getI (j := 7) 23 hX CI_9 s_1 rfl fl_X7_165 rfl dX7_endsWar_23 ?_
  refine w_icmp_lt (tgt := 58) 26 hX dX7_endsWar_26 (by decide) (fun c3 => ?_) (fun c3 => ?_)
  · have h := it h c3
    refine w_iconst 1 58 hX ic_1 dX7_endsWar_58 ?_
    refine w_goto (tgt := 63) 59 hX (by decide) dX7_endsWar_59 ?_
    exact w_zret 63 hX hR (by decide) dX7_endsWar_63 (by cases h; rfl)
  · have h := ie h c3
    refine w_aload_n 0 29 hX rfl rfl dX7_endsWar_29 ?_
    refine w_getR 30 hX CI_7 s_106 rfl r_106_0 fl_X7_36 rfl dX7_endsWar_30 ?_
    refine w_aload_n 0 33 hX rfl rfl dX7_endsWar_33 ?_
    refine w_getR 34 hX CI_7 s_106 rfl r_106_2 fl_X7_44 rfl dX7_endsWar_34 ?_
    refine w_iconst 1 37 hX ic_1 dX7_endsWar_37 ?_
    obtain ⟨x4, gx4, h⟩ := o_bind h
    refine w_invVi (av := [.int 1]) (st := [.ref 1]) 38 hX CI_3 s_32 rfl mv_yX3_known mi_yX3_known ml_X7_156 (CX3_known_32 1 u gx4) rfl (by decide) (Nat.le_of_ble_eq_true rfl) (Nat.le_refl _) (Nat.le_refl _) dX7_endsWar_38 ?_
    refine w_iload_n 1 41 hX rfl rfl dX7_endsWar_41 ?_
    refine w_iconst (-1) 42 hX ic_m1 dX7_endsWar_42 ?_
    refine w_ixor 43 hX dX7_endsWar_43 ?_
    refine w_iand 44 hX dX7_endsWar_44 ?_
    obtain ⟨x5, gx5, h⟩ := o_bind h
    refine w_invVi (av := [.int (x4 &&& (p1 ^^^ (-1)))]) (st := []) 45 hX CI_9 s_1 rfl mv_yX9_weightOf mi_yX9_weightOf ml_X7_162 (CX9_weightOf_1 (x4 &&& (p1 ^^^ (-1))) u gx5) rfl (by decide) (Nat.le_of_ble_eq_true rfl) (Nat.le_refl _) (Nat.le_refl _) dX7_endsWar_45 ?_
    refine w_aload_n 0 48 hX rfl rfl dX7_endsWar_48 ?_
    refine w_getR 49 hX CI_7 s_106 rfl r_106_0 fl_X7_36 rfl dX7_endsWar_49 ?_
    refine w_getI (j := 7) 52 hX CI_9 s_1 rfl fl_X7_165 rfl dX7_endsWar_52 ?_
    refine w_icmp_ge (tgt := 62) 55 hX dX7_endsWar_55 (by decide) (fun c6 => ?_) (fun c6 => ?_)
    · have h := it h c6
      refine w_iconst 0 62 hX ic_0 dX7_endsWar_62 ?_
      exact w_zret 63 hX hR (by decide) dX7_endsWar_63 (by cases h; rfl)
    · have h := ie h c6
      refine w_iconst 1 58 hX ic_1 dX7_endsWar_58 ?_
      refine w_goto (tgt := 63) 59 hX (by decide) dX7_endsWar_59 ?_
      exact w_zret 63 hX hR (by decide) dX7_endsWar_63 (by cases h; rfl))
def FX7_bestTreaty_106_b116 (k26 : Int32 → Int32 → Int32 → Int32 → Int32 → Mem → Option Int32) (l1 l2 l3 l4 l5 : Int32) (u : Mem) : Option Int32 :=
  k26 l1 l2 l3 l4 (l5 + 1) u
theorem bX7_bestTreaty_106_116 {G : Gt} {X : Xt} {v : Int32} {u : Mem} (hX : CxOk G X cX7_bestTreaty 8 RX7 (some (.int v), SH, RHO, u) 4) (hR : CxRet G X (some .int) (some (.int v), SH, RHO, u)) {k26 : Int32 → Int32 → Int32 → Int32 → Int32 → Mem → Option Int32} (hk26 : ∀ (l1 l2 l3 l4 l5 : Int32), k26 l1 l2 l3 l4 l5 u = some v → WM G X 26 [(0, .ref 106), (1, .int l1), (2, .int l2), (3, .int l3), (4, .int l4), (5, .int l5)] [] SH RHO u) (l1 l2 l3 l4 l5 : Int32) (h : FX7_bestTreaty_106_b116 k26 l1 l2 l3 l4 l5 u = some v) : WM G X 116 [(0, .ref 106), (1, .int l1), (2, .int l2), (3, .int l3), (4, .int l4), (5, .int l5)] [] SH RHO u := by
  unfold FX7_bestTreaty_106_b116 at h
  refine w_iinc (lv' := [(5, .int (l5 + 1)), (0, .ref 106), (1, .int l1), (2, .int l2), (3, .int l3), (4, .int l4)]) 116 5 hX dX7_bestTreaty_116 rfl (inc_1 _) (by decide) rfl ?_
  refine w_goto (tgt := 26) 119 hX (by decide) dX7_bestTreaty_119 ?_
  exact w_sub [1, 2, 3, 4, 5, 0] rfl (hk26 l1 l2 l3 l4 (l5 + 1) h)
def FX7_bestTreaty_106_b109 (k26 : Int32 → Int32 → Int32 → Int32 → Int32 → Mem → Option Int32) (l1 l2 l5 l6 : Int32) (u : Mem) : Option Int32 :=
  FX7_bestTreaty_106_b116 k26 l1 l2 l5 l6 l5 u
theorem bX7_bestTreaty_106_109 {G : Gt} {X : Xt} {v : Int32} {u : Mem} (hX : CxOk G X cX7_bestTreaty 8 RX7 (some (.int v), SH, RHO, u) 4) (hR : CxRet G X (some .int) (some (.int v), SH, RHO, u)) {k26 : Int32 → Int32 → Int32 → Int32 → Int32 → Mem → Option Int32} (hk26 : ∀ (l1 l2 l3 l4 l5 : Int32), k26 l1 l2 l3 l4 l5 u = some v → WM G X 26 [(0, .ref 106), (1, .int l1), (2, .int l2), (3, .int l3), (4, .int l4), (5, .int l5)] [] SH RHO u) (l1 l2 l5 l6 : Int32) (h : FX7_bestTreaty_106_b109 k26 l1 l2 l5 l6 u = some v) : WM G X 109 [(0, .ref 106), (1, .int l1), (2, .int l2), (5, .int l5), (6, .int l6)] [] SH RHO u := by
  unfold FX7_bestTreaty_106_b109 at h
  refine w_iload 3 109 hX rfl dX7_bestTreaty_109 ?_
  refine w_istore_n (lv' := [(3, .int l5), (0, .ref 106), (1, .int l1), (2, .int l2), (5, .int l5), (6, .int l6)]) 111 hX rfl dX7_bestTreaty_111 (by decide) rfl ?_
  refine w_iload 5 112 hX rfl dX7_bestTreaty_112 ?_
  refine w_istore (lv' := [(4, .int l6), (3, .int l5), (0, .ref 106), (1, .int l1), (2, .int l2), (5, .int l5), (6, .int l6)]) 114 hX dX7_bestTreaty_114 (by decide) rfl ?_
  exact w_sub [2, 3, 4, 1, 0, 5] rfl (bX7_bestTreaty_106_116 hX hR hk26 l1 l2 l5 l6 l5 h)
def FX7_bestTreaty_106_b83 (k26 : Int32 → Int32 → Int32 → Int32 → Int32 → Mem → Option Int32) (l1 l2 l3 l4 l5 l6 t0 : Int32) (u : Mem) : Option Int32 :=
  (if l3 = (-1) then (FX7_bestTreaty_106_b109 k26 l1 l2 l5 l6 u) else ((if l6 < l4 then (FX7_bestTreaty_106_b109 k26 l1 l2 l5 l6 u) else ((if l6 = l4 then ((if t0 = 0 then (FX7_bestTreaty_106_b116 k26 l1 l2 l3 l4 l5 u) else (FX7_bestTreaty_106_b109 k26 l1 l2 l5 l6 u))) else (FX7_bestTreaty_106_b116 k26 l1 l2 l3 l4 l5 u))))))
theorem bX7_bestTreaty_106_83 {G : Gt} {X : Xt} {v : Int32} {u : Mem} (hX : CxOk G X cX7_bestTreaty 8 RX7 (some (.int v), SH, RHO, u) 4) (hR : CxRet G X (some .int) (some (.int v), SH, RHO, u)) {k26 : Int32 → Int32 → Int32 → Int32 → Int32 → Mem → Option Int32} (hk26 : ∀ (l1 l2 l3 l4 l5 : Int32), k26 l1 l2 l3 l4 l5 u = some v → WM G X 26 [(0, .ref 106), (1, .int l1), (2, .int l2), (3, .int l3), (4, .int l4), (5, .int l5)] [] SH RHO u) (l1 l2 l3 l4 l5 l6 t0 : Int32) (h : FX7_bestTreaty_106_b83 k26 l1 l2 l3 l4 l5 l6 t0 u = some v) : WM G X 83 [(0, .ref 106), (1, .int l1), (2, .int l2), (3, .int l3), (4, .int l4), (5, .int l5), (6, .int l6)] [.int t0] SH RHO u := by
  unfold FX7_bestTreaty_106_b83 at h
  refine w_istore (lv' := [(7, .int t0), (0, .ref 106), (1, .int l1), (2, .int l2), (3, .int l3), (4, .int l4), (5, .int l5), (6, .int l6)]) 83 hX dX7_bestTreaty_83 (by decide) rfl ?_
  refine w_iload_n 4 85 hX rfl rfl dX7_bestTreaty_85 ?_
  refine w_iconst (-1) 86 hX ic_m1 dX7_bestTreaty_86 ?_
  refine w_icmp_eq (tgt := 109) 87 hX dX7_bestTreaty_87 (by decide) (fun c1 => ?_) (fun c1 => ?_)
  · have h := it h c1
    exact w_sub [1, 2, 3, 6, 7] rfl (bX7_bestTreaty_106_109 hX hR hk26 l1 l2 l5 l6 h)
  · have h := ie h c1
    refine w_iload 7 90 hX rfl dX7_bestTreaty_90 ?_
    refine w_iload 5 92 hX rfl dX7_bestTreaty_92 ?_
    refine w_icmp_lt (tgt := 109) 94 hX dX7_bestTreaty_94 (by decide) (fun c2 => ?_) (fun c2 => ?_)
    · have h := it h c2
      exact w_sub [1, 2, 3, 6, 7] rfl (bX7_bestTreaty_106_109 hX hR hk26 l1 l2 l5 l6 h)
    · have h := ie h c2
      refine w_iload 7 97 hX rfl dX7_bestTreaty_97 ?_
      refine w_iload 5 99 hX rfl dX7_bestTreaty_99 ?_
      refine w_icmp_ne (tgt := 116) 101 hX dX7_bestTreaty_101 (by decide) (fun c3 => ?_) (fun c3 => ?_)
      · have h := ie h c3
        exact w_sub [1, 2, 3, 4, 5, 6] rfl (bX7_bestTreaty_106_116 hX hR hk26 l1 l2 l3 l4 l5 h)
      · have h := it h c3
        refine w_iload 0 104 hX rfl dX7_bestTreaty_104 ?_
        refine w_if_eq (tgt := 116) 106 hX dX7_bestTreaty_106 (by decide) (fun c4 => ?_) (fun c4 => ?_)
        · have h := it h c4
          exact w_sub [1, 2, 3, 4, 5, 6] rfl (bX7_bestTreaty_106_116 hX hR hk26 l1 l2 l3 l4 l5 h)
        · have h := ie h c4
          exact w_sub [1, 2, 3, 6, 7] rfl (bX7_bestTreaty_106_109 hX hR hk26 l1 l2 l5 l6 h)
def FX7_bestTreaty_106_b26 (k26 : Int32 → Int32 → Int32 → Int32 → Int32 → Mem → Option Int32) (l1 l2 l3 l4 l5 : Int32) (u : Mem) : Option Int32 :=
  (if 256 ≤ l5 then ((if l1 = 0 then (some l4) else (some l3))) else ((if (l5 &&& (l2 ^^^ (-1))) = 0 then ((FX7_endsWar_106 l5 u).bind fun x4 => (if x4 = 0 then (FX7_bestTreaty_106_b116 k26 l1 l2 l3 l4 l5 u) else ((FX9_weightOf_1 l5 u).bind fun x6 => (FJ6_bitCount_0f7a4 l5).bind fun x7 => (FJ6_bitCount_0f7a4 l3).bind fun x8 => (if x8 ≤ x7 then (FX7_bestTreaty_106_b83 k26 l1 l2 l3 l4 l5 x6 0 u) else (FX7_bestTreaty_106_b83 k26 l1 l2 l3 l4 l5 x6 1 u))))) else (FX7_bestTreaty_106_b116 k26 l1 l2 l3 l4 l5 u))))
theorem bX7_bestTreaty_106_26 {G : Gt} {X : Xt} {v : Int32} {u : Mem} (hX : CxOk G X cX7_bestTreaty 8 RX7 (some (.int v), SH, RHO, u) 4) (hR : CxRet G X (some .int) (some (.int v), SH, RHO, u)) {k26 : Int32 → Int32 → Int32 → Int32 → Int32 → Mem → Option Int32} (hk26 : ∀ (l1 l2 l3 l4 l5 : Int32), k26 l1 l2 l3 l4 l5 u = some v → WM G X 26 [(0, .ref 106), (1, .int l1), (2, .int l2), (3, .int l3), (4, .int l4), (5, .int l5)] [] SH RHO u) (l1 l2 l3 l4 l5 : Int32) (h : FX7_bestTreaty_106_b26 k26 l1 l2 l3 l4 l5 u = some v) : WM G X 26 [(0, .ref 106), (1, .int l1), (2, .int l2), (3, .int l3), (4, .int l4), (5, .int l5)] [] SH RHO u := by
  unfold FX7_bestTreaty_106_b26 at h
  refine w_iload 5 26 hX rfl dX7_bestTreaty_26 ?_
  refine w_sipush 256 28 hX isp_256 dX7_bestTreaty_28 ?_
  refine w_icmp_ge (tgt := 122) 31 hX dX7_bestTreaty_31 (by decide) (fun c1 => ?_) (fun c1 => ?_)
  · have h := it h c1
    refine w_iload_n 1 122 hX rfl rfl dX7_bestTreaty_122 ?_
    refine w_if_ne (tgt := 131) 123 hX dX7_bestTreaty_123 (by decide) (fun c2 => ?_) (fun c2 => ?_)
    · have h := ie h c2
      refine w_iload_n 3 131 hX rfl rfl dX7_bestTreaty_131 ?_
      exact w_iret 132 hX hR dX7_bestTreaty_132 (by cases h; rfl)
    · have h := it h c2
      refine w_iload 4 126 hX rfl dX7_bestTreaty_126 ?_
      refine w_goto (tgt := 132) 128 hX (by decide) dX7_bestTreaty_128 ?_
      exact w_iret 132 hX hR dX7_bestTreaty_132 (by cases h; rfl)
  · have h := ie h c1
    refine w_iload 5 34 hX rfl dX7_bestTreaty_34 ?_
    refine w_iload_n 2 36 hX rfl rfl dX7_bestTreaty_36 ?_
    refine w_iconst (-1) 37 hX ic_m1 dX7_bestTreaty_37 ?_
    refine w_ixor 38 hX dX7_bestTreaty_38 ?_
    refine w_iand 39 hX dX7_bestTreaty_39 ?_
    refine w_if_ne (tgt := 116) 40 hX dX7_bestTreaty_40 (by decide) (fun c3 => ?_) (fun c3 => ?_)
    · have h := ie h c3
      exact bX7_bestTreaty_106_116 hX hR hk26 l1 l2 l3 l4 l5 h
    · have h := it h c3
      refine w_aload_n 0 43 hX rfl rfl dX7_bestTreaty_43 ?_
      refine w_iload 5 44 hX rfl dX7_bestTreaty_44 ?_
      obtain ⟨x4, gx4, h⟩ := o_bind h
      refine w_invVi (av := [.int l5]) (st := []) 46 hX CI_7 s_106 rfl mv_yX7_endsWar mi_yX7_endsWar ml_X7_159 (CX7_endsWar_106 l5 u gx4) rfl (by decide) (Nat.le_of_ble_eq_true rfl) (Nat.le_refl _) (Nat.le_refl _) dX7_bestTreaty_46 ?_
      refine w_if_ne (tgt := 55) 49 hX dX7_bestTreaty_49 (by decide) (fun c5 => ?_) (fun c5 => ?_)
      · have h := ie h c5
        refine w_aload_n 0 55 hX rfl rfl dX7_bestTreaty_55 ?_
        refine w_getR 56 hX CI_7 s_106 rfl r_106_0 fl_X7_36 rfl dX7_bestTreaty_56 ?_
        refine w_iload 5 59 hX rfl dX7_bestTreaty_59 ?_
        obtain ⟨x6, gx6, h⟩ := o_bind h
        refine w_invVi (av := [.int l5]) (st := []) 61 hX CI_9 s_1 rfl mv_yX9_weightOf mi_yX9_weightOf ml_X7_162 (CX9_weightOf_1 l5 u gx6) rfl (by decide) (Nat.le_of_ble_eq_true rfl) (Nat.le_refl _) (Nat.le_refl _) dX7_bestTreaty_61 ?_
        refine w_istore (lv' := [(6, .int x6), (0, .ref 106), (1, .int l1), (2, .int l2), (3, .int l3), (4, .int l4), (5, .int l5)]) 64 hX dX7_bestTreaty_64 (by decide) rfl ?_
        refine w_iload 6 66 hX rfl dX7_bestTreaty_66 ?_
        obtain ⟨x7, gx7, h⟩ := o_bind h
        refine w_invSi (av := [.int l5]) (st := []) 68 hX ms_yJ6_bitCount_0f7a4 mi_yJ6_bitCount_0f7a4 ml_X7_84 (CJ6_bitCount_0f7a4 l5 u gx7) rfl (by decide) (Nat.le_of_ble_eq_true rfl) (Nat.le_refl _) (Nat.le_refl _) dX7_bestTreaty_68 ?_
        refine w_iload_n 4 71 hX rfl rfl dX7_bestTreaty_71 ?_
        obtain ⟨x8, gx8, h⟩ := o_bind h
        refine w_invSi (av := [.int l3]) (st := [.int x7]) 72 hX ms_yJ6_bitCount_0f7a4 mi_yJ6_bitCount_0f7a4 ml_X7_84 (CJ6_bitCount_0f7a4 l3 u gx8) rfl (by decide) (Nat.le_of_ble_eq_true rfl) (Nat.le_refl _) (Nat.le_refl _) dX7_bestTreaty_72 ?_
        refine w_icmp_ge (tgt := 82) 75 hX dX7_bestTreaty_75 (by decide) (fun c9 => ?_) (fun c9 => ?_)
        · have h := it h c9
          refine w_iconst 0 82 hX ic_0 dX7_bestTreaty_82 ?_
          exact w_sub [1, 2, 3, 4, 5, 6, 0] rfl (bX7_bestTreaty_106_83 hX hR hk26 l1 l2 l3 l4 l5 x6 0 h)
        · have h := ie h c9
          refine w_iconst 1 78 hX ic_1 dX7_bestTreaty_78 ?_
          refine w_goto (tgt := 83) 79 hX (by decide) dX7_bestTreaty_79 ?_
          exact w_sub [1, 2, 3, 4, 5, 6, 0] rfl (bX7_bestTreaty_106_83 hX hR hk26 l1 l2 l3 l4 l5 x6 1 h)
      · have h := it h c5
        refine w_goto (tgt := 116) 52 hX (by decide) dX7_bestTreaty_52 ?_
        exact bX7_bestTreaty_106_116 hX hR hk26 l1 l2 l3 l4 l5 h
def FX7_bestTreaty_106_L26 : Nat → Int32 → Int32 → Int32 → Int32 → Int32 → Mem → Option Int32
  | 0, _, _, _, _, _, _ => none
  | n + 1, l1, l2, l3, l4, l5, u => FX7_bestTreaty_106_b26 (FX7_bestTreaty_106_L26 n) l1 l2 l3 l4 l5 u
theorem lX7_bestTreaty_106_26 {G : Gt} {X : Xt} {v : Int32} {u : Mem} (hX : CxOk G X cX7_bestTreaty 8 RX7 (some (.int v), SH, RHO, u) 4) (hR : CxRet G X (some .int) (some (.int v), SH, RHO, u)) : ∀ (n : Nat) (l1 l2 l3 l4 l5 : Int32), FX7_bestTreaty_106_L26 n l1 l2 l3 l4 l5 u = some v → WM G X 26 [(0, .ref 106), (1, .int l1), (2, .int l2), (3, .int l3), (4, .int l4), (5, .int l5)] [] SH RHO u := by
  intro n
  induction n with
  | zero =>
    intro l1 l2 l3 l4 l5 h
    exact nn_ h
  | succ n ih =>
    intro l1 l2 l3 l4 l5 h
    exact bX7_bestTreaty_106_26 hX hR ih l1 l2 l3 l4 l5 h
def FX7_bestTreaty_106 (p1 : Int32) (u : Mem) : Option Int32 :=
  (FX3_known_32 0 u).bind fun x1 => (FX3_known_32 1 u).bind fun x2 => FX7_bestTreaty_106_L26 FU p1 (x1 ||| x2) (-1) (-1) 0 u
theorem CX7_bestTreaty_106 {G : Gt} (p1 : Int32) (u : Mem) {v : Int32} (h : FX7_bestTreaty_106 p1 u = some v) : CT G yX7_bestTreaty cX7_bestTreaty 8 (some .int) 4 [.ref 106, .int p1] SH RHO u (some (.int v), SH, RHO, u) :=
  ct_of (by decide) rfl (Nat.le_of_ble_eq_true rfl) (Nat.le_refl _) (Nat.le_refl _) (fun X hX hR => by
  unfold FX7_bestTreaty_106 at h
  refine w_aload_n 0 0 hX rfl rfl dX7_bestTreaty_0 ?_
  refine w_getR 1 hX CI_7 s_106 rfl r_106_2 fl_X7_44 rfl dX7_bestTreaty_1 ?_
  refine w_iconst 0 4 hX ic_0 dX7_bestTreaty_4 ?_
  obtain ⟨x1, gx1, h⟩ := o_bind h
  refine w_invVi (av := [.int 0]) (st := []) 5 hX CI_3 s_32 rfl mv_yX3_known mi_yX3_known ml_X7_156 (CX3_known_32 0 u gx1) rfl (by decide) (Nat.le_of_ble_eq_true rfl) (Nat.le_refl _) (Nat.le_refl _) dX7_bestTreaty_5 ?_
  refine w_aload_n 0 8 hX rfl rfl dX7_bestTreaty_8 ?_
  refine w_getR 9 hX CI_7 s_106 rfl r_106_2 fl_X7_44 rfl dX7_bestTreaty_9 ?_
  refine w_iconst 1 12 hX ic_1 dX7_bestTreaty_12 ?_
  obtain ⟨x2, gx2, h⟩ := o_bind h
  refine w_invVi (av := [.int 1]) (st := [.int x1]) 13 hX CI_3 s_32 rfl mv_yX3_known mi_yX3_known ml_X7_156 (CX3_known_32 1 u gx2) rfl (by decide) (Nat.le_of_ble_eq_true rfl) (Nat.le_refl _) (Nat.le_refl _) dX7_bestTreaty_13 ?_
  refine w_ior 16 hX dX7_bestTreaty_16 ?_
  refine w_istore_n (lv' := [(2, .int (x1 ||| x2)), (0, .ref 106), (1, .int p1)]) 17 hX rfl dX7_bestTreaty_17 (by decide) rfl ?_
  refine w_iconst (-1) 18 hX ic_m1 dX7_bestTreaty_18 ?_
  refine w_istore_n (lv' := [(3, .int (-1)), (2, .int (x1 ||| x2)), (0, .ref 106), (1, .int p1)]) 19 hX rfl dX7_bestTreaty_19 (by decide) rfl ?_
  refine w_iconst (-1) 20 hX ic_m1 dX7_bestTreaty_20 ?_
  refine w_istore (lv' := [(4, .int (-1)), (3, .int (-1)), (2, .int (x1 ||| x2)), (0, .ref 106), (1, .int p1)]) 21 hX dX7_bestTreaty_21 (by decide) rfl ?_
  refine w_iconst 0 23 hX ic_0 dX7_bestTreaty_23 ?_
  refine w_istore (lv' := [(5, .int 0), (4, .int (-1)), (3, .int (-1)), (2, .int (x1 ||| x2)), (0, .ref 106), (1, .int p1)]) 24 hX dX7_bestTreaty_24 (by decide) rfl ?_
  exact w_sub [4, 5, 3, 2, 1, 0] rfl (lX7_bestTreaty_106_26 hX hR FU p1 (x1 ||| x2) (-1) (-1) 0 h))
def FX11_treaty_0 (p1 : Int32) (u : Mem) : Option Int32 :=
  (if p1 < 0 then (some (-1)) else ((if p1 ≤ 1 then ((FX7_bestTreaty_106 p1 u).bind fun x3 => some x3) else (some (-1)))))
theorem CX11_treaty_0 {G : Gt} (p1 : Int32) (u : Mem) {v : Int32} (h : FX11_treaty_0 p1 u = some v) : CT G yX11_treaty cX11_treaty 2 (some .int) 5 [.ref 0, .int p1] SH RHO u (some (.int v), SH, RHO, u) :=
  ct_of (by decide) rfl (Nat.le_of_ble_eq_true rfl) (Nat.le_refl _) (Nat.le_refl _) (fun X hX hR => by
  unfold FX11_treaty_0 at h
  refine w_iload_n 1 0 hX rfl rfl dX11_treaty_0 ?_
  refine w_if_lt (tgt := 9) 1 hX dX11_treaty_1 (by decide) (fun c1 => ?_) (fun c1 => ?_)
  · have h := it h c1
    refine w_iconst (-1) 9 hX ic_m1 dX11_treaty_9 ?_
    refine w_goto (tgt := 21) 10 hX (by decide) dX11_treaty_10 ?_
    exact w_iret 21 hX hR dX11_treaty_21 (by cases h; rfl)
  · have h := ie h c1
    refine w_iload_n 1 4 hX rfl rfl dX11_treaty_4 ?_
    refine w_iconst 1 5 hX ic_1 dX11_treaty_5 ?_
    refine w_icmp_le (tgt := 13) 6 hX dX11_treaty_6 (by decide) (fun c2 => ?_) (fun c2 => ?_)
    · have h := it h c2
      refine w_aload_n 0 13 hX rfl rfl dX11_treaty_13 ?_
      refine w_getR 14 hX CI_11 s_0 rfl r_0_7 fl_X11_67 rfl dX11_treaty_14 ?_
      refine w_iload_n 1 17 hX rfl rfl dX11_treaty_17 ?_
      obtain ⟨x3, gx3, h⟩ := o_bind h
      refine w_invVi (av := [.int p1]) (st := []) 18 hX CI_7 s_106 rfl mv_yX7_bestTreaty mi_yX7_bestTreaty ml_X11_264 (CX7_bestTreaty_106 p1 u gx3) rfl (by decide) (Nat.le_of_ble_eq_true rfl) (Nat.le_refl _) (Nat.le_refl _) dX11_treaty_18 ?_
      exact w_iret 21 hX hR dX11_treaty_21 (by cases h; rfl)
    · have h := ie h c2
      refine w_iconst (-1) 9 hX ic_m1 dX11_treaty_9 ?_
      refine w_goto (tgt := 21) 10 hX (by decide) dX11_treaty_10 ?_
      exact w_iret 21 hX hR dX11_treaty_21 (by cases h; rfl))
def FX12_makesPeace_146 (p1 : Int32) (u : Mem) : Option Int32 :=
  (FX12_knownIn_146 0 u).bind fun x1 => (FX12_weightOfSet_146 (x1 &&& (p1 ^^^ (-1))) u).bind fun x2 => (if x2 < (u 147 79) then (some 1) else ((FX12_knownIn_146 1 u).bind fun x4 => (FX12_weightOfSet_146 (x4 &&& (p1 ^^^ (-1))) u).bind fun x5 => (if (u 147 79) ≤ x5 then (some 0) else (some 1))))
theorem CX12_makesPeace_146 {G : Gt} (p1 : Int32) (u : Mem) {v : Int32} (h : FX12_makesPeace_146 p1 u = some v) : CT G yX12_makesPeace cX12_makesPeace 2 (some .boolean) 3 [.ref 146, .int p1] SH RHO u (some (.int v), SH, RHO, u) :=
  ct_of (by decide) rfl (Nat.le_of_ble_eq_true rfl) (Nat.le_refl _) (Nat.le_refl _) (fun X hX hR => by
  unfold FX12_makesPeace_146 at h
  refine w_aload_n 0 0 hX rfl rfl dX12_makesPeace_0 ?_
  refine w_aload_n 0 1 hX rfl rfl dX12_makesPeace_1 ?_
  refine w_iconst 0 2 hX ic_0 dX12_makesPeace_2 ?_
  obtain ⟨x1, gx1, h⟩ := o_bind h
  refine w_invVi (av := [.int 0]) (st := [.ref 146]) 3 hX CI_12 s_146 rfl mv_yX12_knownIn mi_yX12_knownIn ml_X12_379 (CX12_knownIn_146 0 u gx1) rfl (by decide) (Nat.le_of_ble_eq_true rfl) (Nat.le_refl _) (Nat.le_refl _) dX12_makesPeace_3 ?_
  refine w_iload_n 1 6 hX rfl rfl dX12_makesPeace_6 ?_
  refine w_iconst (-1) 7 hX ic_m1 dX12_makesPeace_7 ?_
  refine w_ixor 8 hX dX12_makesPeace_8 ?_
  refine w_iand 9 hX dX12_makesPeace_9 ?_
  obtain ⟨x2, gx2, h⟩ := o_bind h
  refine w_invVi (av := [.int (x1 &&& (p1 ^^^ (-1)))]) (st := []) 10 hX CI_12 s_146 rfl mv_yX12_weightOfSet mi_yX12_weightOfSet ml_X12_382 (CX12_weightOfSet_146 (x1 &&& (p1 ^^^ (-1))) u gx2) rfl (by decide) (Nat.le_of_ble_eq_true rfl) (Nat.le_refl _) (Nat.le_refl _) dX12_makesPeace_10 ?_
  refine w_aload_n 0 13 hX rfl rfl dX12_makesPeace_13 ?_
  refine w_getR 14 hX CI_12 s_146 rfl r_146_0 fl_X12_7 rfl dX12_makesPeace_14 ?_
  refine w_bipush 79 17 hX ib_79 dX12_makesPeace_17 ?_
  refine w_iald 19 hX s_147 (rdK 79 79 n_79 (by decide) (by decide)) dX12_makesPeace_19 ?_
  refine w_icmp_lt (tgt := 46) 20 hX dX12_makesPeace_20 (by decide) (fun c3 => ?_) (fun c3 => ?_)
  · have h := it h c3
    refine w_iconst 1 46 hX ic_1 dX12_makesPeace_46 ?_
    refine w_goto (tgt := 51) 47 hX (by decide) dX12_makesPeace_47 ?_
    exact w_zret 51 hX hR (by decide) dX12_makesPeace_51 (by cases h; rfl)
  · have h := ie h c3
    refine w_aload_n 0 23 hX rfl rfl dX12_makesPeace_23 ?_
    refine w_aload_n 0 24 hX rfl rfl dX12_makesPeace_24 ?_
    refine w_iconst 1 25 hX ic_1 dX12_makesPeace_25 ?_
    obtain ⟨x4, gx4, h⟩ := o_bind h
    refine w_invVi (av := [.int 1]) (st := [.ref 146]) 26 hX CI_12 s_146 rfl mv_yX12_knownIn mi_yX12_knownIn ml_X12_379 (CX12_knownIn_146 1 u gx4) rfl (by decide) (Nat.le_of_ble_eq_true rfl) (Nat.le_refl _) (Nat.le_refl _) dX12_makesPeace_26 ?_
    refine w_iload_n 1 29 hX rfl rfl dX12_makesPeace_29 ?_
    refine w_iconst (-1) 30 hX ic_m1 dX12_makesPeace_30 ?_
    refine w_ixor 31 hX dX12_makesPeace_31 ?_
    refine w_iand 32 hX dX12_makesPeace_32 ?_
    obtain ⟨x5, gx5, h⟩ := o_bind h
    refine w_invVi (av := [.int (x4 &&& (p1 ^^^ (-1)))]) (st := []) 33 hX CI_12 s_146 rfl mv_yX12_weightOfSet mi_yX12_weightOfSet ml_X12_382 (CX12_weightOfSet_146 (x4 &&& (p1 ^^^ (-1))) u gx5) rfl (by decide) (Nat.le_of_ble_eq_true rfl) (Nat.le_refl _) (Nat.le_refl _) dX12_makesPeace_33 ?_
    refine w_aload_n 0 36 hX rfl rfl dX12_makesPeace_36 ?_
    refine w_getR 37 hX CI_12 s_146 rfl r_146_0 fl_X12_7 rfl dX12_makesPeace_37 ?_
    refine w_bipush 79 40 hX ib_79 dX12_makesPeace_40 ?_
    refine w_iald 42 hX s_147 (rdK 79 79 n_79 (by decide) (by decide)) dX12_makesPeace_42 ?_
    refine w_icmp_ge (tgt := 50) 43 hX dX12_makesPeace_43 (by decide) (fun c6 => ?_) (fun c6 => ?_)
    · have h := it h c6
      refine w_iconst 0 50 hX ic_0 dX12_makesPeace_50 ?_
      exact w_zret 51 hX hR (by decide) dX12_makesPeace_51 (by cases h; rfl)
    · have h := ie h c6
      refine w_iconst 1 46 hX ic_1 dX12_makesPeace_46 ?_
      refine w_goto (tgt := 51) 47 hX (by decide) dX12_makesPeace_47 ?_
      exact w_zret 51 hX hR (by decide) dX12_makesPeace_51 (by cases h; rfl))
def FX12_treaty_146_b121 (l3 : Int32) (u : Mem) : Option Int32 :=
  some l3
theorem bX12_treaty_146_121 {G : Gt} {X : Xt} {v : Int32} {u : Mem} (hX : CxOk G X cX12_treaty 6 RX12 (some (.int v), SH, RHO, u) 4) (hR : CxRet G X (some .int) (some (.int v), SH, RHO, u)) (l3 : Int32) (h : FX12_treaty_146_b121 l3 u = some v) : WM G X 121 [(3, .int l3)] [] SH RHO u := by
  unfold FX12_treaty_146_b121 at h
  refine w_iload_n 0 121 hX rfl rfl dX12_treaty_121 ?_
  refine w_goto (tgt := 130) 122 hX (by decide) dX12_treaty_122 ?_
  exact w_iret 130 hX hR dX12_treaty_130 (by cases h; rfl)
def FX12_treaty_146_b105 (k28 : Int32 → Int32 → Int32 → Int32 → Mem → Option Int32) (l1 l2 l3 l4 : Int32) (u : Mem) : Option Int32 :=
  k28 l1 l2 l3 (l4 + 1) u
theorem bX12_treaty_146_105 {G : Gt} {X : Xt} {v : Int32} {u : Mem} (hX : CxOk G X cX12_treaty 6 RX12 (some (.int v), SH, RHO, u) 4) (hR : CxRet G X (some .int) (some (.int v), SH, RHO, u)) {k28 : Int32 → Int32 → Int32 → Int32 → Mem → Option Int32} (hk28 : ∀ (l1 l2 l3 l4 : Int32), k28 l1 l2 l3 l4 u = some v → WM G X 28 [(0, .ref 146), (1, .int l1), (2, .int l2), (3, .int l3), (4, .int l4)] [] SH RHO u) (l1 l2 l3 l4 : Int32) (h : FX12_treaty_146_b105 k28 l1 l2 l3 l4 u = some v) : WM G X 105 [(0, .ref 146), (1, .int l1), (2, .int l2), (3, .int l3), (4, .int l4)] [] SH RHO u := by
  unfold FX12_treaty_146_b105 at h
  refine w_iinc (lv' := [(4, .int (l4 + 1)), (0, .ref 146), (1, .int l1), (2, .int l2), (3, .int l3)]) 105 4 hX dX12_treaty_105 rfl (inc_1 _) (by decide) rfl ?_
  refine w_goto (tgt := 28) 108 hX (by decide) dX12_treaty_108 ?_
  exact w_sub [1, 2, 3, 4, 0] rfl (hk28 l1 l2 l3 (l4 + 1) h)
def FX12_treaty_146_b102 (k28 : Int32 → Int32 → Int32 → Int32 → Mem → Option Int32) (l1 l2 l4 : Int32) (u : Mem) : Option Int32 :=
  FX12_treaty_146_b105 k28 l1 l2 l4 l4 u
theorem bX12_treaty_146_102 {G : Gt} {X : Xt} {v : Int32} {u : Mem} (hX : CxOk G X cX12_treaty 6 RX12 (some (.int v), SH, RHO, u) 4) (hR : CxRet G X (some .int) (some (.int v), SH, RHO, u)) {k28 : Int32 → Int32 → Int32 → Int32 → Mem → Option Int32} (hk28 : ∀ (l1 l2 l3 l4 : Int32), k28 l1 l2 l3 l4 u = some v → WM G X 28 [(0, .ref 146), (1, .int l1), (2, .int l2), (3, .int l3), (4, .int l4)] [] SH RHO u) (l1 l2 l4 : Int32) (h : FX12_treaty_146_b102 k28 l1 l2 l4 u = some v) : WM G X 102 [(0, .ref 146), (1, .int l1), (2, .int l2), (4, .int l4)] [] SH RHO u := by
  unfold FX12_treaty_146_b102 at h
  refine w_iload 3 102 hX rfl dX12_treaty_102 ?_
  refine w_istore_n (lv' := [(3, .int l4), (0, .ref 146), (1, .int l1), (2, .int l2), (4, .int l4)]) 104 hX rfl dX12_treaty_104 (by decide) rfl ?_
  exact w_sub [1, 2, 3, 0, 4] rfl (bX12_treaty_146_105 hX hR hk28 l1 l2 l4 l4 h)
def FX12_treaty_146_b78 (k28 : Int32 → Int32 → Int32 → Int32 → Mem → Option Int32) (l1 l2 l3 l4 t0 : Int32) (u : Mem) : Option Int32 :=
  (if t0 < 0 then (FX12_treaty_146_b102 k28 l1 l2 l4 u) else ((if t0 = 0 then ((FX12_count l4).bind fun x3 => (FX12_count l3).bind fun x4 => (if x4 ≤ x3 then (FX12_treaty_146_b105 k28 l1 l2 l3 l4 u) else (FX12_treaty_146_b102 k28 l1 l2 l4 u))) else (FX12_treaty_146_b105 k28 l1 l2 l3 l4 u))))
theorem bX12_treaty_146_78 {G : Gt} {X : Xt} {v : Int32} {u : Mem} (hX : CxOk G X cX12_treaty 6 RX12 (some (.int v), SH, RHO, u) 4) (hR : CxRet G X (some .int) (some (.int v), SH, RHO, u)) {k28 : Int32 → Int32 → Int32 → Int32 → Mem → Option Int32} (hk28 : ∀ (l1 l2 l3 l4 : Int32), k28 l1 l2 l3 l4 u = some v → WM G X 28 [(0, .ref 146), (1, .int l1), (2, .int l2), (3, .int l3), (4, .int l4)] [] SH RHO u) (l1 l2 l3 l4 t0 : Int32) (h : FX12_treaty_146_b78 k28 l1 l2 l3 l4 t0 u = some v) : WM G X 78 [(0, .ref 146), (1, .int l1), (2, .int l2), (3, .int l3), (4, .int l4)] [.int t0] SH RHO u := by
  unfold FX12_treaty_146_b78 at h
  refine w_istore (lv' := [(5, .int t0), (0, .ref 146), (1, .int l1), (2, .int l2), (3, .int l3), (4, .int l4)]) 78 hX dX12_treaty_78 (by decide) rfl ?_
  refine w_iload 0 80 hX rfl dX12_treaty_80 ?_
  refine w_if_lt (tgt := 102) 82 hX dX12_treaty_82 (by decide) (fun c1 => ?_) (fun c1 => ?_)
  · have h := it h c1
    exact w_sub [1, 2, 3, 5] rfl (bX12_treaty_146_102 hX hR hk28 l1 l2 l4 h)
  · have h := ie h c1
    refine w_iload 0 85 hX rfl dX12_treaty_85 ?_
    refine w_if_ne (tgt := 105) 87 hX dX12_treaty_87 (by decide) (fun c2 => ?_) (fun c2 => ?_)
    · have h := ie h c2
      exact w_sub [1, 2, 3, 4, 5] rfl (bX12_treaty_146_105 hX hR hk28 l1 l2 l3 l4 h)
    · have h := it h c2
      refine w_iload 5 90 hX rfl dX12_treaty_90 ?_
      obtain ⟨x3, gx3, h⟩ := o_bind h
      refine w_invSi (av := [.int l4]) (st := []) 92 hX ms_yX12_count mi_yX12_count ml_X12_291 (CX12_count l4 u gx3) rfl (by decide) (Nat.le_of_ble_eq_true rfl) (Nat.le_refl _) (Nat.le_refl _) dX12_treaty_92 ?_
      refine w_iload_n 4 95 hX rfl rfl dX12_treaty_95 ?_
      obtain ⟨x4, gx4, h⟩ := o_bind h
      refine w_invSi (av := [.int l3]) (st := [.int x3]) 96 hX ms_yX12_count mi_yX12_count ml_X12_291 (CX12_count l3 u gx4) rfl (by decide) (Nat.le_of_ble_eq_true rfl) (Nat.le_refl _) (Nat.le_refl _) dX12_treaty_96 ?_
      refine w_icmp_ge (tgt := 105) 99 hX dX12_treaty_99 (by decide) (fun c5 => ?_) (fun c5 => ?_)
      · have h := it h c5
        exact w_sub [1, 2, 3, 4, 5] rfl (bX12_treaty_146_105 hX hR hk28 l1 l2 l3 l4 h)
      · have h := ie h c5
        exact w_sub [1, 2, 3, 5] rfl (bX12_treaty_146_102 hX hR hk28 l1 l2 l4 h)
def FX12_treaty_146_b28 (k28 : Int32 → Int32 → Int32 → Int32 → Mem → Option Int32) (l1 l2 l3 l4 : Int32) (u : Mem) : Option Int32 :=
  (if 256 ≤ l4 then ((if l3 = (-1) then (FX12_treaty_146_b121 l3 u) else ((if l1 = 1 then (FX12_treaty_146_b121 l3 u) else ((FX12_weightOfSet_146 l3 u).bind fun x4 => some x4))))) else ((if (l4 &&& (l2 ^^^ (-1))) = 0 then ((FX12_makesPeace_146 l4 u).bind fun x6 => (if x6 = 0 then (FX12_treaty_146_b105 k28 l1 l2 l3 l4 u) else ((if l3 = (-1) then (FX12_treaty_146_b78 k28 l1 l2 l3 l4 (-1) u) else ((FX12_weightOfSet_146 l4 u).bind fun x9 => (FX12_weightOfSet_146 l3 u).bind fun x10 => FX12_treaty_146_b78 k28 l1 l2 l3 l4 (x9 - x10) u))))) else (FX12_treaty_146_b105 k28 l1 l2 l3 l4 u))))
theorem bX12_treaty_146_28 {G : Gt} {X : Xt} {v : Int32} {u : Mem} (hX : CxOk G X cX12_treaty 6 RX12 (some (.int v), SH, RHO, u) 4) (hR : CxRet G X (some .int) (some (.int v), SH, RHO, u)) {k28 : Int32 → Int32 → Int32 → Int32 → Mem → Option Int32} (hk28 : ∀ (l1 l2 l3 l4 : Int32), k28 l1 l2 l3 l4 u = some v → WM G X 28 [(0, .ref 146), (1, .int l1), (2, .int l2), (3, .int l3), (4, .int l4)] [] SH RHO u) (l1 l2 l3 l4 : Int32) (h : FX12_treaty_146_b28 k28 l1 l2 l3 l4 u = some v) : WM G X 28 [(0, .ref 146), (1, .int l1), (2, .int l2), (3, .int l3), (4, .int l4)] [] SH RHO u := by
  unfold FX12_treaty_146_b28 at h
  refine w_iload 4 28 hX rfl dX12_treaty_28 ?_
  refine w_sipush 256 30 hX isp_256 dX12_treaty_30 ?_
  refine w_icmp_ge (tgt := 111) 33 hX dX12_treaty_33 (by decide) (fun c1 => ?_) (fun c1 => ?_)
  · have h := it h c1
    refine w_iload_n 3 111 hX rfl rfl dX12_treaty_111 ?_
    refine w_iconst (-1) 112 hX ic_m1 dX12_treaty_112 ?_
    refine w_icmp_eq (tgt := 121) 113 hX dX12_treaty_113 (by decide) (fun c2 => ?_) (fun c2 => ?_)
    · have h := it h c2
      exact w_sub [3] rfl (bX12_treaty_146_121 hX hR l3 h)
    · have h := ie h c2
      refine w_iload_n 1 116 hX rfl rfl dX12_treaty_116 ?_
      refine w_iconst 1 117 hX ic_1 dX12_treaty_117 ?_
      refine w_icmp_ne (tgt := 125) 118 hX dX12_treaty_118 (by decide) (fun c3 => ?_) (fun c3 => ?_)
      · have h := ie h c3
        refine w_aload_n 0 125 hX rfl rfl dX12_treaty_125 ?_
        refine w_iload_n 3 126 hX rfl rfl dX12_treaty_126 ?_
        obtain ⟨x4, gx4, h⟩ := o_bind h
        refine w_invVi (av := [.int l3]) (st := []) 127 hX CI_12 s_146 rfl mv_yX12_weightOfSet mi_yX12_weightOfSet ml_X12_382 (CX12_weightOfSet_146 l3 u gx4) rfl (by decide) (Nat.le_of_ble_eq_true rfl) (Nat.le_refl _) (Nat.le_refl _) dX12_treaty_127 ?_
        exact w_iret 130 hX hR dX12_treaty_130 (by cases h; rfl)
      · have h := it h c3
        exact w_sub [3] rfl (bX12_treaty_146_121 hX hR l3 h)
  · have h := ie h c1
    refine w_iload 4 36 hX rfl dX12_treaty_36 ?_
    refine w_iload_n 2 38 hX rfl rfl dX12_treaty_38 ?_
    refine w_iconst (-1) 39 hX ic_m1 dX12_treaty_39 ?_
    refine w_ixor 40 hX dX12_treaty_40 ?_
    refine w_iand 41 hX dX12_treaty_41 ?_
    refine w_if_ne (tgt := 105) 42 hX dX12_treaty_42 (by decide) (fun c5 => ?_) (fun c5 => ?_)
    · have h := ie h c5
      exact bX12_treaty_146_105 hX hR hk28 l1 l2 l3 l4 h
    · have h := it h c5
      refine w_aload_n 0 45 hX rfl rfl dX12_treaty_45 ?_
      refine w_iload 4 46 hX rfl dX12_treaty_46 ?_
      obtain ⟨x6, gx6, h⟩ := o_bind h
      refine w_invVi (av := [.int l4]) (st := []) 48 hX CI_12 s_146 rfl mv_yX12_makesPeace mi_yX12_makesPeace ml_X12_457 (CX12_makesPeace_146 l4 u gx6) rfl (by decide) (Nat.le_of_ble_eq_true rfl) (Nat.le_refl _) (Nat.le_refl _) dX12_treaty_48 ?_
      refine w_if_ne (tgt := 57) 51 hX dX12_treaty_51 (by decide) (fun c7 => ?_) (fun c7 => ?_)
      · have h := ie h c7
        refine w_iload_n 3 57 hX rfl rfl dX12_treaty_57 ?_
        refine w_iconst (-1) 58 hX ic_m1 dX12_treaty_58 ?_
        refine w_icmp_ne (tgt := 66) 59 hX dX12_treaty_59 (by decide) (fun c8 => ?_) (fun c8 => ?_)
        · have h := ie h c8
          refine w_aload_n 0 66 hX rfl rfl dX12_treaty_66 ?_
          refine w_iload 4 67 hX rfl dX12_treaty_67 ?_
          obtain ⟨x9, gx9, h⟩ := o_bind h
          refine w_invVi (av := [.int l4]) (st := []) 69 hX CI_12 s_146 rfl mv_yX12_weightOfSet mi_yX12_weightOfSet ml_X12_382 (CX12_weightOfSet_146 l4 u gx9) rfl (by decide) (Nat.le_of_ble_eq_true rfl) (Nat.le_refl _) (Nat.le_refl _) dX12_treaty_69 ?_
          refine w_aload_n 0 72 hX rfl rfl dX12_treaty_72 ?_
          refine w_iload_n 3 73 hX rfl rfl dX12_treaty_73 ?_
          obtain ⟨x10, gx10, h⟩ := o_bind h
          refine w_invVi (av := [.int l3]) (st := [.int x9]) 74 hX CI_12 s_146 rfl mv_yX12_weightOfSet mi_yX12_weightOfSet ml_X12_382 (CX12_weightOfSet_146 l3 u gx10) rfl (by decide) (Nat.le_of_ble_eq_true rfl) (Nat.le_refl _) (Nat.le_refl _) dX12_treaty_74 ?_
          refine w_isub 77 hX dX12_treaty_77 ?_
          exact bX12_treaty_146_78 hX hR hk28 l1 l2 l3 l4 (x9 - x10) h
        · have h := it h c8
          refine w_iconst (-1) 62 hX ic_m1 dX12_treaty_62 ?_
          refine w_goto (tgt := 78) 63 hX (by decide) dX12_treaty_63 ?_
          exact bX12_treaty_146_78 hX hR hk28 l1 l2 l3 l4 (-1) h
      · have h := it h c7
        refine w_goto (tgt := 105) 54 hX (by decide) dX12_treaty_54 ?_
        exact bX12_treaty_146_105 hX hR hk28 l1 l2 l3 l4 h
def FX12_treaty_146_L28 : Nat → Int32 → Int32 → Int32 → Int32 → Mem → Option Int32
  | 0, _, _, _, _, _ => none
  | n + 1, l1, l2, l3, l4, u => FX12_treaty_146_b28 (FX12_treaty_146_L28 n) l1 l2 l3 l4 u
theorem lX12_treaty_146_28 {G : Gt} {X : Xt} {v : Int32} {u : Mem} (hX : CxOk G X cX12_treaty 6 RX12 (some (.int v), SH, RHO, u) 4) (hR : CxRet G X (some .int) (some (.int v), SH, RHO, u)) : ∀ (n : Nat) (l1 l2 l3 l4 : Int32), FX12_treaty_146_L28 n l1 l2 l3 l4 u = some v → WM G X 28 [(0, .ref 146), (1, .int l1), (2, .int l2), (3, .int l3), (4, .int l4)] [] SH RHO u := by
  intro n
  induction n with
  | zero =>
    intro l1 l2 l3 l4 h
    exact nn_ h
  | succ n ih =>
    intro l1 l2 l3 l4 h
    exact bX12_treaty_146_28 hX hR ih l1 l2 l3 l4 h
def FX12_treaty_146 (p1 : Int32) (u : Mem) : Option Int32 :=
  (FX12_isIn p1 0 1).bind fun x1 => (if x1 = 0 then (some (-1)) else ((FX12_knownIn_146 0 u).bind fun x3 => (FX12_knownIn_146 1 u).bind fun x4 => FX12_treaty_146_L28 FU p1 (x3 ||| x4) (-1) 0 u))
theorem CX12_treaty_146 {G : Gt} (p1 : Int32) (u : Mem) {v : Int32} (h : FX12_treaty_146 p1 u = some v) : CT G yX12_treaty cX12_treaty 6 (some .int) 4 [.ref 146, .int p1] SH RHO u (some (.int v), SH, RHO, u) :=
  ct_of (by decide) rfl (Nat.le_of_ble_eq_true rfl) (Nat.le_refl _) (Nat.le_refl _) (fun X hX hR => by
  unfold FX12_treaty_146 at h
  refine w_iload_n 1 0 hX rfl rfl dX12_treaty_0 ?_
  refine w_iconst 0 1 hX ic_0 dX12_treaty_1 ?_
  refine w_iconst 1 2 hX ic_1 dX12_treaty_2 ?_
  obtain ⟨x1, gx1, h⟩ := o_bind h
  refine w_invSi (av := [.int p1, .int 0, .int 1]) (st := []) 3 hX ms_yX12_isIn mi_yX12_isIn ml_X12_54 (CX12_isIn p1 0 1 u gx1) rfl (by decide) (Nat.le_of_ble_eq_true rfl) (Nat.le_refl _) (Nat.le_refl _) dX12_treaty_3 ?_
  refine w_if_ne (tgt := 11) 6 hX dX12_treaty_6 (by decide) (fun c2 => ?_) (fun c2 => ?_)
  · have h := ie h c2
    refine w_aload_n 0 11 hX rfl rfl dX12_treaty_11 ?_
    refine w_iconst 0 12 hX ic_0 dX12_treaty_12 ?_
    obtain ⟨x3, gx3, h⟩ := o_bind h
    refine w_invVi (av := [.int 0]) (st := []) 13 hX CI_12 s_146 rfl mv_yX12_knownIn mi_yX12_knownIn ml_X12_379 (CX12_knownIn_146 0 u gx3) rfl (by decide) (Nat.le_of_ble_eq_true rfl) (Nat.le_refl _) (Nat.le_refl _) dX12_treaty_13 ?_
    refine w_aload_n 0 16 hX rfl rfl dX12_treaty_16 ?_
    refine w_iconst 1 17 hX ic_1 dX12_treaty_17 ?_
    obtain ⟨x4, gx4, h⟩ := o_bind h
    refine w_invVi (av := [.int 1]) (st := [.int x3]) 18 hX CI_12 s_146 rfl mv_yX12_knownIn mi_yX12_knownIn ml_X12_379 (CX12_knownIn_146 1 u gx4) rfl (by decide) (Nat.le_of_ble_eq_true rfl) (Nat.le_refl _) (Nat.le_refl _) dX12_treaty_18 ?_
    refine w_ior 21 hX dX12_treaty_21 ?_
    refine w_istore_n (lv' := [(2, .int (x3 ||| x4)), (0, .ref 146), (1, .int p1)]) 22 hX rfl dX12_treaty_22 (by decide) rfl ?_
    refine w_iconst (-1) 23 hX ic_m1 dX12_treaty_23 ?_
    refine w_istore_n (lv' := [(3, .int (-1)), (2, .int (x3 ||| x4)), (0, .ref 146), (1, .int p1)]) 24 hX rfl dX12_treaty_24 (by decide) rfl ?_
    refine w_iconst 0 25 hX ic_0 dX12_treaty_25 ?_
    refine w_istore (lv' := [(4, .int 0), (3, .int (-1)), (2, .int (x3 ||| x4)), (0, .ref 146), (1, .int p1)]) 26 hX dX12_treaty_26 (by decide) rfl ?_
    exact w_sub [3, 4, 2, 1, 0] rfl (lX12_treaty_146_28 hX hR FU p1 (x3 ||| x4) (-1) 0 h)
  · have h := it h c2
    refine w_iconst (-1) 9 hX ic_m1 dX12_treaty_9 ?_
    exact w_iret 10 hX hR dX12_treaty_10 (by cases h; rfl))
def FX0_become_23_54 (u : Mem) : Option Mem :=
  (some (cpM u 55 24 12)).bind fun u1 => (some (cpM u1 56 25 12)).bind fun u2 => (some (cpM u2 57 26 12)).bind fun u3 => (some (cpM u3 58 27 12)).bind fun u4 => (some (cpM u4 59 28 12)).bind fun u5 => (some (cpM u5 60 29 12)).bind fun u6 => (some (mupd u6 23 6 (u6 54 6))).bind fun u7 => (some (mupd u7 23 7 (u7 54 7))).bind fun u8 => (some (mupd u8 23 8 (u8 54 8))).bind fun u9 => (some (mupd u9 23 9 (u9 54 9))).bind fun u10 => some u10
theorem CX0_become_23_54 {G : Gt} (u : Mem) {u' : Mem} (h : FX0_become_23_54 u = some u') : CT G yX0_become cX0_become 2 none 3 [.ref 23, .ref 54] SH RHO u (none, SH, RHO, u') :=
  ct_of (by decide) rfl (Nat.le_of_ble_eq_true rfl) (Nat.le_refl _) (Nat.le_refl _) (fun X hX hR => by
  unfold FX0_become_23_54 at h
  refine w_aload_n 1 0 hX rfl rfl dX0_become_0 ?_
  refine w_getR 1 hX CI_0 s_54 rfl r_54_0 fl_X0_9 rfl dX0_become_1 ?_
  refine w_aload_n 0 4 hX rfl rfl dX0_become_4 ?_
  refine w_getR 5 hX CI_0 s_23 rfl r_23_0 fl_X0_9 rfl dX0_become_5 ?_
  obtain ⟨u1, gu1, h⟩ := o_bind h
  refine w_invSNv (av := [.ref 55, .ref 24]) (st := []) 8 hX ms_yX11_copy mi_yX11_copy ml_X0_34 (C_copy s_55 s_24 (by decide) (by decide) (by decide) gu1) rfl (by decide) (Nat.le_of_ble_eq_true rfl) (Nat.le_refl _) (Nat.le_refl _) dX0_become_8 ?_
  refine w_aload_n 1 11 hX rfl rfl dX0_become_11 ?_
  refine w_getR 12 hX CI_0 s_54 rfl r_54_1 fl_X0_15 rfl dX0_become_12 ?_
  refine w_aload_n 0 15 hX rfl rfl dX0_become_15 ?_
  refine w_getR 16 hX CI_0 s_23 rfl r_23_1 fl_X0_15 rfl dX0_become_16 ?_
  obtain ⟨u2, gu2, h⟩ := o_bind h
  refine w_invSNv (av := [.ref 56, .ref 25]) (st := []) 19 hX ms_yX11_copy mi_yX11_copy ml_X0_34 (C_copy s_56 s_25 (by decide) (by decide) (by decide) gu2) rfl (by decide) (Nat.le_of_ble_eq_true rfl) (Nat.le_refl _) (Nat.le_refl _) dX0_become_19 ?_
  refine w_aload_n 1 22 hX rfl rfl dX0_become_22 ?_
  refine w_getR 23 hX CI_0 s_54 rfl r_54_2 fl_X0_18 rfl dX0_become_23 ?_
  refine w_aload_n 0 26 hX rfl rfl dX0_become_26 ?_
  refine w_getR 27 hX CI_0 s_23 rfl r_23_2 fl_X0_18 rfl dX0_become_27 ?_
  obtain ⟨u3, gu3, h⟩ := o_bind h
  refine w_invSNv (av := [.ref 57, .ref 26]) (st := []) 30 hX ms_yX11_copy mi_yX11_copy ml_X0_34 (C_copy s_57 s_26 (by decide) (by decide) (by decide) gu3) rfl (by decide) (Nat.le_of_ble_eq_true rfl) (Nat.le_refl _) (Nat.le_refl _) dX0_become_30 ?_
  refine w_aload_n 1 33 hX rfl rfl dX0_become_33 ?_
  refine w_getR 34 hX CI_0 s_54 rfl r_54_3 fl_X0_21 rfl dX0_become_34 ?_
  refine w_aload_n 0 37 hX rfl rfl dX0_become_37 ?_
  refine w_getR 38 hX CI_0 s_23 rfl r_23_3 fl_X0_21 rfl dX0_become_38 ?_
  obtain ⟨u4, gu4, h⟩ := o_bind h
  refine w_invSNv (av := [.ref 58, .ref 27]) (st := []) 41 hX ms_yX11_copy mi_yX11_copy ml_X0_34 (C_copy s_58 s_27 (by decide) (by decide) (by decide) gu4) rfl (by decide) (Nat.le_of_ble_eq_true rfl) (Nat.le_refl _) (Nat.le_refl _) dX0_become_41 ?_
  refine w_aload_n 1 44 hX rfl rfl dX0_become_44 ?_
  refine w_getR 45 hX CI_0 s_54 rfl r_54_4 fl_X0_24 rfl dX0_become_45 ?_
  refine w_aload_n 0 48 hX rfl rfl dX0_become_48 ?_
  refine w_getR 49 hX CI_0 s_23 rfl r_23_4 fl_X0_24 rfl dX0_become_49 ?_
  obtain ⟨u5, gu5, h⟩ := o_bind h
  refine w_invSNv (av := [.ref 59, .ref 28]) (st := []) 52 hX ms_yX11_copy mi_yX11_copy ml_X0_34 (C_copy s_59 s_28 (by decide) (by decide) (by decide) gu5) rfl (by decide) (Nat.le_of_ble_eq_true rfl) (Nat.le_refl _) (Nat.le_refl _) dX0_become_52 ?_
  refine w_aload_n 1 55 hX rfl rfl dX0_become_55 ?_
  refine w_getR 56 hX CI_0 s_54 rfl r_54_5 fl_X0_27 rfl dX0_become_56 ?_
  refine w_aload_n 0 59 hX rfl rfl dX0_become_59 ?_
  refine w_getR 60 hX CI_0 s_23 rfl r_23_5 fl_X0_27 rfl dX0_become_60 ?_
  obtain ⟨u6, gu6, h⟩ := o_bind h
  refine w_invSNv (av := [.ref 60, .ref 29]) (st := []) 63 hX ms_yX11_copy mi_yX11_copy ml_X0_34 (C_copy s_60 s_29 (by decide) (by decide) (by decide) gu6) rfl (by decide) (Nat.le_of_ble_eq_true rfl) (Nat.le_refl _) (Nat.le_refl _) dX0_become_63 ?_
  refine w_aload_n 0 66 hX rfl rfl dX0_become_66 ?_
  refine w_aload_n 1 67 hX rfl rfl dX0_become_67 ?_
  refine w_getI (j := 6) 68 hX CI_0 s_54 rfl fl_X0_30 rfl dX0_become_68 ?_
  obtain ⟨u7, gu7, h⟩ := o_bind h
  refine w_putI (j := 6) 71 hX CI_0 s_23 rfl fl_X0_30 rfl rfl rfl rfl dX0_become_71 ?_
  rw [Option.some.inj gu7]
  refine w_aload_n 0 74 hX rfl rfl dX0_become_74 ?_
  refine w_aload_n 1 75 hX rfl rfl dX0_become_75 ?_
  refine w_getI (j := 7) 76 hX CI_0 s_54 rfl fl_X0_38 rfl dX0_become_76 ?_
  obtain ⟨u8, gu8, h⟩ := o_bind h
  refine w_putI (j := 7) 79 hX CI_0 s_23 rfl fl_X0_38 rfl rfl rfl rfl dX0_become_79 ?_
  rw [Option.some.inj gu8]
  refine w_aload_n 0 82 hX rfl rfl dX0_become_82 ?_
  refine w_aload_n 1 83 hX rfl rfl dX0_become_83 ?_
  refine w_getI (j := 8) 84 hX CI_0 s_54 rfl fl_X0_41 rfl dX0_become_84 ?_
  obtain ⟨u9, gu9, h⟩ := o_bind h
  refine w_putI (j := 8) 87 hX CI_0 s_23 rfl fl_X0_41 rfl rfl rfl rfl dX0_become_87 ?_
  rw [Option.some.inj gu9]
  refine w_aload_n 0 90 hX rfl rfl dX0_become_90 ?_
  refine w_aload_n 1 91 hX rfl rfl dX0_become_91 ?_
  refine w_getI (j := 9) 92 hX CI_0 s_54 rfl fl_X0_44 rfl dX0_become_92 ?_
  obtain ⟨u10, gu10, h⟩ := o_bind h
  refine w_putI (j := 9) 95 hX CI_0 s_23 rfl fl_X0_44 rfl rfl rfl rfl dX0_become_95 ?_
  rw [Option.some.inj gu10]
  exact w_vret 98 hX hR dX0_become_98 (by cases h; rfl))
def FX0_become_23_61 (u : Mem) : Option Mem :=
  (some (cpM u 62 24 12)).bind fun u1 => (some (cpM u1 63 25 12)).bind fun u2 => (some (cpM u2 64 26 12)).bind fun u3 => (some (cpM u3 65 27 12)).bind fun u4 => (some (cpM u4 66 28 12)).bind fun u5 => (some (cpM u5 67 29 12)).bind fun u6 => (some (mupd u6 23 6 (u6 61 6))).bind fun u7 => (some (mupd u7 23 7 (u7 61 7))).bind fun u8 => (some (mupd u8 23 8 (u8 61 8))).bind fun u9 => (some (mupd u9 23 9 (u9 61 9))).bind fun u10 => some u10
theorem CX0_become_23_61 {G : Gt} (u : Mem) {u' : Mem} (h : FX0_become_23_61 u = some u') : CT G yX0_become cX0_become 2 none 3 [.ref 23, .ref 61] SH RHO u (none, SH, RHO, u') :=
  ct_of (by decide) rfl (Nat.le_of_ble_eq_true rfl) (Nat.le_refl _) (Nat.le_refl _) (fun X hX hR => by
  unfold FX0_become_23_61 at h
  refine w_aload_n 1 0 hX rfl rfl dX0_become_0 ?_
  refine w_getR 1 hX CI_0 s_61 rfl r_61_0 fl_X0_9 rfl dX0_become_1 ?_
  refine w_aload_n 0 4 hX rfl rfl dX0_become_4 ?_
  refine w_getR 5 hX CI_0 s_23 rfl r_23_0 fl_X0_9 rfl dX0_become_5 ?_
  obtain ⟨u1, gu1, h⟩ := o_bind h
  refine w_invSNv (av := [.ref 62, .ref 24]) (st := []) 8 hX ms_yX11_copy mi_yX11_copy ml_X0_34 (C_copy s_62 s_24 (by decide) (by decide) (by decide) gu1) rfl (by decide) (Nat.le_of_ble_eq_true rfl) (Nat.le_refl _) (Nat.le_refl _) dX0_become_8 ?_
  refine w_aload_n 1 11 hX rfl rfl dX0_become_11 ?_
  refine w_getR 12 hX CI_0 s_61 rfl r_61_1 fl_X0_15 rfl dX0_become_12 ?_
  refine w_aload_n 0 15 hX rfl rfl dX0_become_15 ?_
  refine w_getR 16 hX CI_0 s_23 rfl r_23_1 fl_X0_15 rfl dX0_become_16 ?_
  obtain ⟨u2, gu2, h⟩ := o_bind h
  refine w_invSNv (av := [.ref 63, .ref 25]) (st := []) 19 hX ms_yX11_copy mi_yX11_copy ml_X0_34 (C_copy s_63 s_25 (by decide) (by decide) (by decide) gu2) rfl (by decide) (Nat.le_of_ble_eq_true rfl) (Nat.le_refl _) (Nat.le_refl _) dX0_become_19 ?_
  refine w_aload_n 1 22 hX rfl rfl dX0_become_22 ?_
  refine w_getR 23 hX CI_0 s_61 rfl r_61_2 fl_X0_18 rfl dX0_become_23 ?_
  refine w_aload_n 0 26 hX rfl rfl dX0_become_26 ?_
  refine w_getR 27 hX CI_0 s_23 rfl r_23_2 fl_X0_18 rfl dX0_become_27 ?_
  obtain ⟨u3, gu3, h⟩ := o_bind h
  refine w_invSNv (av := [.ref 64, .ref 26]) (st := []) 30 hX ms_yX11_copy mi_yX11_copy ml_X0_34 (C_copy s_64 s_26 (by decide) (by decide) (by decide) gu3) rfl (by decide) (Nat.le_of_ble_eq_true rfl) (Nat.le_refl _) (Nat.le_refl _) dX0_become_30 ?_
  refine w_aload_n 1 33 hX rfl rfl dX0_become_33 ?_
  refine w_getR 34 hX CI_0 s_61 rfl r_61_3 fl_X0_21 rfl dX0_become_34 ?_
  refine w_aload_n 0 37 hX rfl rfl dX0_become_37 ?_
  refine w_getR 38 hX CI_0 s_23 rfl r_23_3 fl_X0_21 rfl dX0_become_38 ?_
  obtain ⟨u4, gu4, h⟩ := o_bind h
  refine w_invSNv (av := [.ref 65, .ref 27]) (st := []) 41 hX ms_yX11_copy mi_yX11_copy ml_X0_34 (C_copy s_65 s_27 (by decide) (by decide) (by decide) gu4) rfl (by decide) (Nat.le_of_ble_eq_true rfl) (Nat.le_refl _) (Nat.le_refl _) dX0_become_41 ?_
  refine w_aload_n 1 44 hX rfl rfl dX0_become_44 ?_
  refine w_getR 45 hX CI_0 s_61 rfl r_61_4 fl_X0_24 rfl dX0_become_45 ?_
  refine w_aload_n 0 48 hX rfl rfl dX0_become_48 ?_
  refine w_getR 49 hX CI_0 s_23 rfl r_23_4 fl_X0_24 rfl dX0_become_49 ?_
  obtain ⟨u5, gu5, h⟩ := o_bind h
  refine w_invSNv (av := [.ref 66, .ref 28]) (st := []) 52 hX ms_yX11_copy mi_yX11_copy ml_X0_34 (C_copy s_66 s_28 (by decide) (by decide) (by decide) gu5) rfl (by decide) (Nat.le_of_ble_eq_true rfl) (Nat.le_refl _) (Nat.le_refl _) dX0_become_52 ?_
  refine w_aload_n 1 55 hX rfl rfl dX0_become_55 ?_
  refine w_getR 56 hX CI_0 s_61 rfl r_61_5 fl_X0_27 rfl dX0_become_56 ?_
  refine w_aload_n 0 59 hX rfl rfl dX0_become_59 ?_
  refine w_getR 60 hX CI_0 s_23 rfl r_23_5 fl_X0_27 rfl dX0_become_60 ?_
  obtain ⟨u6, gu6, h⟩ := o_bind h
  refine w_invSNv (av := [.ref 67, .ref 29]) (st := []) 63 hX ms_yX11_copy mi_yX11_copy ml_X0_34 (C_copy s_67 s_29 (by decide) (by decide) (by decide) gu6) rfl (by decide) (Nat.le_of_ble_eq_true rfl) (Nat.le_refl _) (Nat.le_refl _) dX0_become_63 ?_
  refine w_aload_n 0 66 hX rfl rfl dX0_become_66 ?_
  refine w_aload_n 1 67 hX rfl rfl dX0_become_67 ?_
  refine w_getI (j := 6) 68 hX CI_0 s_61 rfl fl_X0_30 rfl dX0_become_68 ?_
  obtain ⟨u7, gu7, h⟩ := o_bind h
  refine w_putI (j := 6) 71 hX CI_0 s_23 rfl fl_X0_30 rfl rfl rfl rfl dX0_become_71 ?_
  rw [Option.some.inj gu7]
  refine w_aload_n 0 74 hX rfl rfl dX0_become_74 ?_
  refine w_aload_n 1 75 hX rfl rfl dX0_become_75 ?_
  refine w_getI (j := 7) 76 hX CI_0 s_61 rfl fl_X0_38 rfl dX0_become_76 ?_
  obtain ⟨u8, gu8, h⟩ := o_bind h
  refine w_putI (j := 7) 79 hX CI_0 s_23 rfl fl_X0_38 rfl rfl rfl rfl dX0_become_79 ?_
  rw [Option.some.inj gu8]
  refine w_aload_n 0 82 hX rfl rfl dX0_become_82 ?_
  refine w_aload_n 1 83 hX rfl rfl dX0_become_83 ?_
  refine w_getI (j := 8) 84 hX CI_0 s_61 rfl fl_X0_41 rfl dX0_become_84 ?_
  obtain ⟨u9, gu9, h⟩ := o_bind h
  refine w_putI (j := 8) 87 hX CI_0 s_23 rfl fl_X0_41 rfl rfl rfl rfl dX0_become_87 ?_
  rw [Option.some.inj gu9]
  refine w_aload_n 0 90 hX rfl rfl dX0_become_90 ?_
  refine w_aload_n 1 91 hX rfl rfl dX0_become_91 ?_
  refine w_getI (j := 9) 92 hX CI_0 s_61 rfl fl_X0_44 rfl dX0_become_92 ?_
  obtain ⟨u10, gu10, h⟩ := o_bind h
  refine w_putI (j := 9) 95 hX CI_0 s_23 rfl fl_X0_44 rfl rfl rfl rfl dX0_become_95 ?_
  rw [Option.some.inj gu10]
  exact w_vret 98 hX hR dX0_become_98 (by cases h; rfl))
def FX0_become_23_68 (u : Mem) : Option Mem :=
  (some (cpM u 69 24 12)).bind fun u1 => (some (cpM u1 70 25 12)).bind fun u2 => (some (cpM u2 71 26 12)).bind fun u3 => (some (cpM u3 72 27 12)).bind fun u4 => (some (cpM u4 73 28 12)).bind fun u5 => (some (cpM u5 74 29 12)).bind fun u6 => (some (mupd u6 23 6 (u6 68 6))).bind fun u7 => (some (mupd u7 23 7 (u7 68 7))).bind fun u8 => (some (mupd u8 23 8 (u8 68 8))).bind fun u9 => (some (mupd u9 23 9 (u9 68 9))).bind fun u10 => some u10
theorem CX0_become_23_68 {G : Gt} (u : Mem) {u' : Mem} (h : FX0_become_23_68 u = some u') : CT G yX0_become cX0_become 2 none 3 [.ref 23, .ref 68] SH RHO u (none, SH, RHO, u') :=
  ct_of (by decide) rfl (Nat.le_of_ble_eq_true rfl) (Nat.le_refl _) (Nat.le_refl _) (fun X hX hR => by
  unfold FX0_become_23_68 at h
  refine w_aload_n 1 0 hX rfl rfl dX0_become_0 ?_
  refine w_getR 1 hX CI_0 s_68 rfl r_68_0 fl_X0_9 rfl dX0_become_1 ?_
  refine w_aload_n 0 4 hX rfl rfl dX0_become_4 ?_
  refine w_getR 5 hX CI_0 s_23 rfl r_23_0 fl_X0_9 rfl dX0_become_5 ?_
  obtain ⟨u1, gu1, h⟩ := o_bind h
  refine w_invSNv (av := [.ref 69, .ref 24]) (st := []) 8 hX ms_yX11_copy mi_yX11_copy ml_X0_34 (C_copy s_69 s_24 (by decide) (by decide) (by decide) gu1) rfl (by decide) (Nat.le_of_ble_eq_true rfl) (Nat.le_refl _) (Nat.le_refl _) dX0_become_8 ?_
  refine w_aload_n 1 11 hX rfl rfl dX0_become_11 ?_
  refine w_getR 12 hX CI_0 s_68 rfl r_68_1 fl_X0_15 rfl dX0_become_12 ?_
  refine w_aload_n 0 15 hX rfl rfl dX0_become_15 ?_
  refine w_getR 16 hX CI_0 s_23 rfl r_23_1 fl_X0_15 rfl dX0_become_16 ?_
  obtain ⟨u2, gu2, h⟩ := o_bind h
  refine w_invSNv (av := [.ref 70, .ref 25]) (st := []) 19 hX ms_yX11_copy mi_yX11_copy ml_X0_34 (C_copy s_70 s_25 (by decide) (by decide) (by decide) gu2) rfl (by decide) (Nat.le_of_ble_eq_true rfl) (Nat.le_refl _) (Nat.le_refl _) dX0_become_19 ?_
  refine w_aload_n 1 22 hX rfl rfl dX0_become_22 ?_
  refine w_getR 23 hX CI_0 s_68 rfl r_68_2 fl_X0_18 rfl dX0_become_23 ?_
  refine w_aload_n 0 26 hX rfl rfl dX0_become_26 ?_
  refine w_getR 27 hX CI_0 s_23 rfl r_23_2 fl_X0_18 rfl dX0_become_27 ?_
  obtain ⟨u3, gu3, h⟩ := o_bind h
  refine w_invSNv (av := [.ref 71, .ref 26]) (st := []) 30 hX ms_yX11_copy mi_yX11_copy ml_X0_34 (C_copy s_71 s_26 (by decide) (by decide) (by decide) gu3) rfl (by decide) (Nat.le_of_ble_eq_true rfl) (Nat.le_refl _) (Nat.le_refl _) dX0_become_30 ?_
  refine w_aload_n 1 33 hX rfl rfl dX0_become_33 ?_
  refine w_getR 34 hX CI_0 s_68 rfl r_68_3 fl_X0_21 rfl dX0_become_34 ?_
  refine w_aload_n 0 37 hX rfl rfl dX0_become_37 ?_
  refine w_getR 38 hX CI_0 s_23 rfl r_23_3 fl_X0_21 rfl dX0_become_38 ?_
  obtain ⟨u4, gu4, h⟩ := o_bind h
  refine w_invSNv (av := [.ref 72, .ref 27]) (st := []) 41 hX ms_yX11_copy mi_yX11_copy ml_X0_34 (C_copy s_72 s_27 (by decide) (by decide) (by decide) gu4) rfl (by decide) (Nat.le_of_ble_eq_true rfl) (Nat.le_refl _) (Nat.le_refl _) dX0_become_41 ?_
  refine w_aload_n 1 44 hX rfl rfl dX0_become_44 ?_
  refine w_getR 45 hX CI_0 s_68 rfl r_68_4 fl_X0_24 rfl dX0_become_45 ?_
  refine w_aload_n 0 48 hX rfl rfl dX0_become_48 ?_
  refine w_getR 49 hX CI_0 s_23 rfl r_23_4 fl_X0_24 rfl dX0_become_49 ?_
  obtain ⟨u5, gu5, h⟩ := o_bind h
  refine w_invSNv (av := [.ref 73, .ref 28]) (st := []) 52 hX ms_yX11_copy mi_yX11_copy ml_X0_34 (C_copy s_73 s_28 (by decide) (by decide) (by decide) gu5) rfl (by decide) (Nat.le_of_ble_eq_true rfl) (Nat.le_refl _) (Nat.le_refl _) dX0_become_52 ?_
  refine w_aload_n 1 55 hX rfl rfl dX0_become_55 ?_
  refine w_getR 56 hX CI_0 s_68 rfl r_68_5 fl_X0_27 rfl dX0_become_56 ?_
  refine w_aload_n 0 59 hX rfl rfl dX0_become_59 ?_
  refine w_getR 60 hX CI_0 s_23 rfl r_23_5 fl_X0_27 rfl dX0_become_60 ?_
  obtain ⟨u6, gu6, h⟩ := o_bind h
  refine w_invSNv (av := [.ref 74, .ref 29]) (st := []) 63 hX ms_yX11_copy mi_yX11_copy ml_X0_34 (C_copy s_74 s_29 (by decide) (by decide) (by decide) gu6) rfl (by decide) (Nat.le_of_ble_eq_true rfl) (Nat.le_refl _) (Nat.le_refl _) dX0_become_63 ?_
  refine w_aload_n 0 66 hX rfl rfl dX0_become_66 ?_
  refine w_aload_n 1 67 hX rfl rfl dX0_become_67 ?_
  refine w_getI (j := 6) 68 hX CI_0 s_68 rfl fl_X0_30 rfl dX0_become_68 ?_
  obtain ⟨u7, gu7, h⟩ := o_bind h
  refine w_putI (j := 6) 71 hX CI_0 s_23 rfl fl_X0_30 rfl rfl rfl rfl dX0_become_71 ?_
  rw [Option.some.inj gu7]
  refine w_aload_n 0 74 hX rfl rfl dX0_become_74 ?_
  refine w_aload_n 1 75 hX rfl rfl dX0_become_75 ?_
  refine w_getI (j := 7) 76 hX CI_0 s_68 rfl fl_X0_38 rfl dX0_become_76 ?_
  obtain ⟨u8, gu8, h⟩ := o_bind h
  refine w_putI (j := 7) 79 hX CI_0 s_23 rfl fl_X0_38 rfl rfl rfl rfl dX0_become_79 ?_
  rw [Option.some.inj gu8]
  refine w_aload_n 0 82 hX rfl rfl dX0_become_82 ?_
  refine w_aload_n 1 83 hX rfl rfl dX0_become_83 ?_
  refine w_getI (j := 8) 84 hX CI_0 s_68 rfl fl_X0_41 rfl dX0_become_84 ?_
  obtain ⟨u9, gu9, h⟩ := o_bind h
  refine w_putI (j := 8) 87 hX CI_0 s_23 rfl fl_X0_41 rfl rfl rfl rfl dX0_become_87 ?_
  rw [Option.some.inj gu9]
  refine w_aload_n 0 90 hX rfl rfl dX0_become_90 ?_
  refine w_aload_n 1 91 hX rfl rfl dX0_become_91 ?_
  refine w_getI (j := 9) 92 hX CI_0 s_68 rfl fl_X0_44 rfl dX0_become_92 ?_
  obtain ⟨u10, gu10, h⟩ := o_bind h
  refine w_putI (j := 9) 95 hX CI_0 s_23 rfl fl_X0_44 rfl rfl rfl rfl dX0_become_95 ?_
  rw [Option.some.inj gu10]
  exact w_vret 98 hX hR dX0_become_98 (by cases h; rfl))
def FX0_become_23_75 (u : Mem) : Option Mem :=
  (some (cpM u 76 24 12)).bind fun u1 => (some (cpM u1 77 25 12)).bind fun u2 => (some (cpM u2 78 26 12)).bind fun u3 => (some (cpM u3 79 27 12)).bind fun u4 => (some (cpM u4 80 28 12)).bind fun u5 => (some (cpM u5 81 29 12)).bind fun u6 => (some (mupd u6 23 6 (u6 75 6))).bind fun u7 => (some (mupd u7 23 7 (u7 75 7))).bind fun u8 => (some (mupd u8 23 8 (u8 75 8))).bind fun u9 => (some (mupd u9 23 9 (u9 75 9))).bind fun u10 => some u10
theorem CX0_become_23_75 {G : Gt} (u : Mem) {u' : Mem} (h : FX0_become_23_75 u = some u') : CT G yX0_become cX0_become 2 none 3 [.ref 23, .ref 75] SH RHO u (none, SH, RHO, u') :=
  ct_of (by decide) rfl (Nat.le_of_ble_eq_true rfl) (Nat.le_refl _) (Nat.le_refl _) (fun X hX hR => by
  unfold FX0_become_23_75 at h
  refine w_aload_n 1 0 hX rfl rfl dX0_become_0 ?_
  refine w_getR 1 hX CI_0 s_75 rfl r_75_0 fl_X0_9 rfl dX0_become_1 ?_
  refine w_aload_n 0 4 hX rfl rfl dX0_become_4 ?_
  refine w_getR 5 hX CI_0 s_23 rfl r_23_0 fl_X0_9 rfl dX0_become_5 ?_
  obtain ⟨u1, gu1, h⟩ := o_bind h
  refine w_invSNv (av := [.ref 76, .ref 24]) (st := []) 8 hX ms_yX11_copy mi_yX11_copy ml_X0_34 (C_copy s_76 s_24 (by decide) (by decide) (by decide) gu1) rfl (by decide) (Nat.le_of_ble_eq_true rfl) (Nat.le_refl _) (Nat.le_refl _) dX0_become_8 ?_
  refine w_aload_n 1 11 hX rfl rfl dX0_become_11 ?_
  refine w_getR 12 hX CI_0 s_75 rfl r_75_1 fl_X0_15 rfl dX0_become_12 ?_
  refine w_aload_n 0 15 hX rfl rfl dX0_become_15 ?_
  refine w_getR 16 hX CI_0 s_23 rfl r_23_1 fl_X0_15 rfl dX0_become_16 ?_
  obtain ⟨u2, gu2, h⟩ := o_bind h
  refine w_invSNv (av := [.ref 77, .ref 25]) (st := []) 19 hX ms_yX11_copy mi_yX11_copy ml_X0_34 (C_copy s_77 s_25 (by decide) (by decide) (by decide) gu2) rfl (by decide) (Nat.le_of_ble_eq_true rfl) (Nat.le_refl _) (Nat.le_refl _) dX0_become_19 ?_
  refine w_aload_n 1 22 hX rfl rfl dX0_become_22 ?_
  refine w_getR 23 hX CI_0 s_75 rfl r_75_2 fl_X0_18 rfl dX0_become_23 ?_
  refine w_aload_n 0 26 hX rfl rfl dX0_become_26 ?_
  refine w_getR 27 hX CI_0 s_23 rfl r_23_2 fl_X0_18 rfl dX0_become_27 ?_
  obtain ⟨u3, gu3, h⟩ := o_bind h
  refine w_invSNv (av := [.ref 78, .ref 26]) (st := []) 30 hX ms_yX11_copy mi_yX11_copy ml_X0_34 (C_copy s_78 s_26 (by decide) (by decide) (by decide) gu3) rfl (by decide) (Nat.le_of_ble_eq_true rfl) (Nat.le_refl _) (Nat.le_refl _) dX0_become_30 ?_
  refine w_aload_n 1 33 hX rfl rfl dX0_become_33 ?_
  refine w_getR 34 hX CI_0 s_75 rfl r_75_3 fl_X0_21 rfl dX0_become_34 ?_
  refine w_aload_n 0 37 hX rfl rfl dX0_become_37 ?_
  refine w_getR 38 hX CI_0 s_23 rfl r_23_3 fl_X0_21 rfl dX0_become_38 ?_
  obtain ⟨u4, gu4, h⟩ := o_bind h
  refine w_invSNv (av := [.ref 79, .ref 27]) (st := []) 41 hX ms_yX11_copy mi_yX11_copy ml_X0_34 (C_copy s_79 s_27 (by decide) (by decide) (by decide) gu4) rfl (by decide) (Nat.le_of_ble_eq_true rfl) (Nat.le_refl _) (Nat.le_refl _) dX0_become_41 ?_
  refine w_aload_n 1 44 hX rfl rfl dX0_become_44 ?_
  refine w_getR 45 hX CI_0 s_75 rfl r_75_4 fl_X0_24 rfl dX0_become_45 ?_
  refine w_aload_n 0 48 hX rfl rfl dX0_become_48 ?_
  refine w_getR 49 hX CI_0 s_23 rfl r_23_4 fl_X0_24 rfl dX0_become_49 ?_
  obtain ⟨u5, gu5, h⟩ := o_bind h
  refine w_invSNv (av := [.ref 80, .ref 28]) (st := []) 52 hX ms_yX11_copy mi_yX11_copy ml_X0_34 (C_copy s_80 s_28 (by decide) (by decide) (by decide) gu5) rfl (by decide) (Nat.le_of_ble_eq_true rfl) (Nat.le_refl _) (Nat.le_refl _) dX0_become_52 ?_
  refine w_aload_n 1 55 hX rfl rfl dX0_become_55 ?_
  refine w_getR 56 hX CI_0 s_75 rfl r_75_5 fl_X0_27 rfl dX0_become_56 ?_
  refine w_aload_n 0 59 hX rfl rfl dX0_become_59 ?_
  refine w_getR 60 hX CI_0 s_23 rfl r_23_5 fl_X0_27 rfl dX0_become_60 ?_
  obtain ⟨u6, gu6, h⟩ := o_bind h
  refine w_invSNv (av := [.ref 81, .ref 29]) (st := []) 63 hX ms_yX11_copy mi_yX11_copy ml_X0_34 (C_copy s_81 s_29 (by decide) (by decide) (by decide) gu6) rfl (by decide) (Nat.le_of_ble_eq_true rfl) (Nat.le_refl _) (Nat.le_refl _) dX0_become_63 ?_
  refine w_aload_n 0 66 hX rfl rfl dX0_become_66 ?_
  refine w_aload_n 1 67 hX rfl rfl dX0_become_67 ?_
  refine w_getI (j := 6) 68 hX CI_0 s_75 rfl fl_X0_30 rfl dX0_become_68 ?_
  obtain ⟨u7, gu7, h⟩ := o_bind h
  refine w_putI (j := 6) 71 hX CI_0 s_23 rfl fl_X0_30 rfl rfl rfl rfl dX0_become_71 ?_
  rw [Option.some.inj gu7]
  refine w_aload_n 0 74 hX rfl rfl dX0_become_74 ?_
  refine w_aload_n 1 75 hX rfl rfl dX0_become_75 ?_
  refine w_getI (j := 7) 76 hX CI_0 s_75 rfl fl_X0_38 rfl dX0_become_76 ?_
  obtain ⟨u8, gu8, h⟩ := o_bind h
  refine w_putI (j := 7) 79 hX CI_0 s_23 rfl fl_X0_38 rfl rfl rfl rfl dX0_become_79 ?_
  rw [Option.some.inj gu8]
  refine w_aload_n 0 82 hX rfl rfl dX0_become_82 ?_
  refine w_aload_n 1 83 hX rfl rfl dX0_become_83 ?_
  refine w_getI (j := 8) 84 hX CI_0 s_75 rfl fl_X0_41 rfl dX0_become_84 ?_
  obtain ⟨u9, gu9, h⟩ := o_bind h
  refine w_putI (j := 8) 87 hX CI_0 s_23 rfl fl_X0_41 rfl rfl rfl rfl dX0_become_87 ?_
  rw [Option.some.inj gu9]
  refine w_aload_n 0 90 hX rfl rfl dX0_become_90 ?_
  refine w_aload_n 1 91 hX rfl rfl dX0_become_91 ?_
  refine w_getI (j := 9) 92 hX CI_0 s_75 rfl fl_X0_44 rfl dX0_become_92 ?_
  obtain ⟨u10, gu10, h⟩ := o_bind h
  refine w_putI (j := 9) 95 hX CI_0 s_23 rfl fl_X0_44 rfl rfl rfl rfl dX0_become_95 ?_
  rw [Option.some.inj gu10]
  exact w_vret 98 hX hR dX0_become_98 (by cases h; rfl))
