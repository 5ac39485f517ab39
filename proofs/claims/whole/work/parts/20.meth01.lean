def FX10_forgetAll_52 (u : Mem) : Option Mem :=
  (some (mupd u 52 2 0)).bind fun u1 => some u1
theorem CX10_forgetAll_52 {G : Gt} (u : Mem) {u' : Mem} (h : FX10_forgetAll_52 u = some u') : CT G yX10_forgetAll cX10_forgetAll 1 none 1 [.ref 52] SH RHO u (none, SH, RHO, u') :=
  ct_of (by decide) rfl (Nat.le_of_ble_eq_true rfl) (Nat.le_refl _) (Nat.le_refl _) (fun X hX hR => by
  unfold FX10_forgetAll_52 at h
  refine w_aload_n 0 0 hX rfl rfl dX10_forgetAll_0 ?_
  refine w_iconst 0 1 hX ic_0 dX10_forgetAll_1 ?_
  obtain ⟨u1, gu1, h⟩ := o_bind h
  refine w_putI (j := 2) 2 hX CI_10 s_52 rfl fl_X10_16 rfl rfl rfl rfl dX10_forgetAll_2 ?_
  rw [Option.some.inj gu1]
  exact w_vret 5 hX hR dX10_forgetAll_5 (by cases h; rfl))
def FX11_state_0 (p1 : Int32) (u : Mem) : Option (Int32 × Mem) :=
  (some (mupd u 23 8 p1)).bind fun u1 => (FX10_forgetAll_52 u1).bind fun u3 => some (u 23 8, u3)
theorem CX11_state_0 {G : Gt} (p1 : Int32) (u : Mem) {v : Int32} {u' : Mem} (h : FX11_state_0 p1 u = some (v, u')) : CT G yX11_state cX11_state 3 (some .int) 2 [.ref 0, .int p1] SH RHO u (some (.int v), SH, RHO, u') :=
  ct_of (by decide) rfl (Nat.le_of_ble_eq_true rfl) (Nat.le_refl _) (Nat.le_refl _) (fun X hX hR => by
  unfold FX11_state_0 at h
  refine w_aload_n 0 0 hX rfl rfl dX11_state_0 ?_
  refine w_getR 1 hX CI_11 s_0 rfl r_0_1 fl_X11_19 rfl dX11_state_1 ?_
  refine w_getI (j := 8) 4 hX CI_0 s_23 rfl fl_X11_84 rfl dX11_state_4 ?_
  refine w_istore_n (lv' := [(2, .int (u 23 8)), (0, .ref 0), (1, .int p1)]) 7 hX rfl dX11_state_7 (by decide) rfl ?_
  refine w_aload_n 1 8 hX rfl rfl dX11_state_8 ?_
  refine w_getR 9 hX CI_11 s_0 rfl r_0_1 fl_X11_19 rfl dX11_state_9 ?_
  refine w_iload_n 2 12 hX rfl rfl dX11_state_12 ?_
  obtain ⟨u1, gu1, h⟩ := o_bind h
  refine w_putI (j := 8) 13 hX CI_0 s_23 rfl fl_X11_84 rfl rfl rfl rfl dX11_state_13 ?_
  rw [Option.some.inj gu1]
  refine w_aload_n 1 16 hX rfl rfl dX11_state_16 ?_
  refine w_getR 17 hX CI_11 s_0 rfl r_0_5 fl_X11_49 rfl dX11_state_17 ?_
  obtain ⟨u3, gu3, h⟩ := o_bind h
  refine w_invVv (av := []) (st := []) 20 hX CI_10 s_52 rfl mv_yX10_forgetAll mi_yX10_forgetAll ml_X11_88 (CX10_forgetAll_52 u1 gu3) rfl (by decide) (Nat.le_of_ble_eq_true rfl) (Nat.le_refl _) (Nat.le_refl _) dX11_state_20 ?_
  refine w_iload_n 0 23 hX rfl rfl dX11_state_23 ?_
  exact w_iret 24 hX hR dX11_state_24 (by cases h; rfl))
def FX12_forgetsActs_146 (u : Mem) : Option Mem :=
  (some (mupd u 146 4 0)).bind fun u1 => some u1
theorem CX12_forgetsActs_146 {G : Gt} (u : Mem) {u' : Mem} (h : FX12_forgetsActs_146 u = some u') : CT G yX12_forgetsActs cX12_forgetsActs 1 none 1 [.ref 146] SH RHO u (none, SH, RHO, u') :=
  ct_of (by decide) rfl (Nat.le_of_ble_eq_true rfl) (Nat.le_refl _) (Nat.le_refl _) (fun X hX hR => by
  unfold FX12_forgetsActs_146 at h
  refine w_aload_n 0 0 hX rfl rfl dX12_forgetsActs_0 ?_
  refine w_iconst 0 1 hX ic_0 dX12_forgetsActs_1 ?_
  obtain ⟨u1, gu1, h⟩ := o_bind h
  refine w_putI (j := 4) 2 hX CI_12 s_146 rfl fl_X12_58 rfl rfl rfl rfl dX12_forgetsActs_2 ?_
  rw [Option.some.inj gu1]
  exact w_vret 5 hX hR dX12_forgetsActs_5 (by cases h; rfl))
def FX12_state_146 (p1 : Int32) (u : Mem) : Option (Int32 × Mem) :=
  (some (mupd u 147 2 p1)).bind fun u1 => (FX12_forgetsActs_146 u1).bind fun u3 => some (u 147 2, u3)
theorem CX12_state_146 {G : Gt} (p1 : Int32) (u : Mem) {v : Int32} {u' : Mem} (h : FX12_state_146 p1 u = some (v, u')) : CT G yX12_state cX12_state 3 (some .int) 2 [.ref 146, .int p1] SH RHO u (some (.int v), SH, RHO, u') :=
  ct_of (by decide) rfl (Nat.le_of_ble_eq_true rfl) (Nat.le_refl _) (Nat.le_refl _) (fun X hX hR => by
  unfold FX12_state_146 at h
  refine w_aload_n 0 0 hX rfl rfl dX12_state_0 ?_
  refine w_getR 1 hX CI_12 s_146 rfl r_146_0 fl_X12_7 rfl dX12_state_1 ?_
  refine w_iconst 2 4 hX ic_2 dX12_state_4 ?_
  refine w_iald 5 hX s_147 (rdK 2 2 n_2 (by decide) (by decide)) dX12_state_5 ?_
  refine w_istore_n (lv' := [(2, .int (u 147 2)), (0, .ref 146), (1, .int p1)]) 6 hX rfl dX12_state_6 (by decide) rfl ?_
  refine w_aload_n 1 7 hX rfl rfl dX12_state_7 ?_
  refine w_getR 8 hX CI_12 s_146 rfl r_146_0 fl_X12_7 rfl dX12_state_8 ?_
  refine w_iconst 2 11 hX ic_2 dX12_state_11 ?_
  refine w_iload_n 2 12 hX rfl rfl dX12_state_12 ?_
  obtain ⟨u1, gu1, h⟩ := o_bind h
  refine w_iast 13 hX s_147 (wrK 2 2 n_2 (by decide) (by decide) gu1) dX12_state_13 ?_
  refine w_aload_n 1 14 hX rfl rfl dX12_state_14 ?_
  obtain ⟨u3, gu3, h⟩ := o_bind h
  refine w_invVv (av := []) (st := []) 15 hX CI_12 s_146 rfl mv_yX12_forgetsActs mi_yX12_forgetsActs ml_X12_61 (CX12_forgetsActs_146 u1 gu3) rfl (by decide) (Nat.le_of_ble_eq_true rfl) (Nat.le_refl _) (Nat.le_refl _) dX12_state_15 ?_
  refine w_iload_n 0 18 hX rfl rfl dX12_state_18 ?_
  exact w_iret 19 hX hR dX12_state_19 (by cases h; rfl))
def FX11_isCountry (p0 : Int32) : Option Int32 :=
  (if p0 = 0 then (some 1) else ((if p0 = 1 then (some 1) else (some 0))))
theorem CX11_isCountry {G : Gt} (p0 : Int32) (u : Mem) {v : Int32} (h : FX11_isCountry p0 = some v) : CT G yX11_isCountry cX11_isCountry 1 (some .boolean) 1 [.int p0] SH RHO u (some (.int v), SH, RHO, u) :=
  ct_of (by decide) rfl (Nat.le_of_ble_eq_true rfl) (Nat.le_refl _) (Nat.le_refl _) (fun X hX hR => by
  unfold FX11_isCountry at h
  refine w_iload_n 0 0 hX rfl rfl dX11_isCountry_0 ?_
  refine w_if_eq (tgt := 9) 1 hX dX11_isCountry_1 (by decide) (fun c1 => ?_) (fun c1 => ?_)
  · have h := it h c1
    refine w_iconst 1 9 hX ic_1 dX11_isCountry_9 ?_
    refine w_goto (tgt := 14) 10 hX (by decide) dX11_isCountry_10 ?_
    exact w_zret 14 hX hR (by decide) dX11_isCountry_14 (by cases h; rfl)
  · have h := ie h c1
    refine w_iload_n 0 4 hX rfl rfl dX11_isCountry_4 ?_
    refine w_iconst 1 5 hX ic_1 dX11_isCountry_5 ?_
    refine w_icmp_ne (tgt := 13) 6 hX dX11_isCountry_6 (by decide) (fun c2 => ?_) (fun c2 => ?_)
    · have h := ie h c2
      refine w_iconst 0 13 hX ic_0 dX11_isCountry_13 ?_
      exact w_zret 14 hX hR (by decide) dX11_isCountry_14 (by cases h; rfl)
    · have h := it h c2
      refine w_iconst 1 9 hX ic_1 dX11_isCountry_9 ?_
      refine w_goto (tgt := 14) 10 hX (by decide) dX11_isCountry_10 ?_
      exact w_zret 14 hX hR (by decide) dX11_isCountry_14 (by cases h; rfl))
def FX0_start_23 (p1 : Int32) (u : Mem) : Option Mem :=
  (if p1 < 0 then (some u) else ((if p1 < 12 then ((wrA u 24 12 p1 50).bind fun u3 => (wrA u3 25 12 p1 0).bind fun u4 => (wrA u4 26 12 p1 0).bind fun u5 => (wrA u5 27 12 p1 0).bind fun u6 => (wrA u6 28 12 p1 0).bind fun u7 => (wrA u7 29 12 p1 0).bind fun u8 => some u8) else (some u))))
theorem CX0_start_23 {G : Gt} (p1 : Int32) (u : Mem) {u' : Mem} (h : FX0_start_23 p1 u = some u') : CT G yX0_start cX0_start 2 none 1 [.ref 23, .int p1] SH RHO u (none, SH, RHO, u') :=
  ct_of (by decide) rfl (Nat.le_of_ble_eq_true rfl) (Nat.le_refl _) (Nat.le_refl _) (fun X hX hR => by
  unfold FX0_start_23 at h
  refine w_iload_n 1 0 hX rfl rfl dX0_start_0 ?_
  refine w_if_lt (tgt := 10) 1 hX dX0_start_1 (by decide) (fun c1 => ?_) (fun c1 => ?_)
  · have h := it h c1
    exact w_vret 10 hX hR dX0_start_10 (by cases h; rfl)
  · have h := ie h c1
    refine w_iload_n 1 4 hX rfl rfl dX0_start_4 ?_
    refine w_bipush 12 5 hX ib_12 dX0_start_5 ?_
    refine w_icmp_lt (tgt := 11) 7 hX dX0_start_7 (by decide) (fun c2 => ?_) (fun c2 => ?_)
    · have h := it h c2
      refine w_aload_n 0 11 hX rfl rfl dX0_start_11 ?_
      refine w_getR 12 hX CI_0 s_23 rfl r_23_0 fl_X0_9 rfl dX0_start_12 ?_
      refine w_iload_n 1 15 hX rfl rfl dX0_start_15 ?_
      refine w_bipush 50 16 hX ib_50 dX0_start_16 ?_
      obtain ⟨u3, gu3, h⟩ := o_bind h
      refine w_iast 18 hX s_24 gu3 dX0_start_18 ?_
      refine w_aload_n 0 19 hX rfl rfl dX0_start_19 ?_
      refine w_getR 20 hX CI_0 s_23 rfl r_23_1 fl_X0_15 rfl dX0_start_20 ?_
      refine w_iload_n 1 23 hX rfl rfl dX0_start_23 ?_
      refine w_iconst 0 24 hX ic_0 dX0_start_24 ?_
      obtain ⟨u4, gu4, h⟩ := o_bind h
      refine w_iast 25 hX s_25 gu4 dX0_start_25 ?_
      refine w_aload_n 0 26 hX rfl rfl dX0_start_26 ?_
      refine w_getR 27 hX CI_0 s_23 rfl r_23_2 fl_X0_18 rfl dX0_start_27 ?_
      refine w_iload_n 1 30 hX rfl rfl dX0_start_30 ?_
      refine w_iconst 0 31 hX ic_0 dX0_start_31 ?_
      obtain ⟨u5, gu5, h⟩ := o_bind h
      refine w_iast 32 hX s_26 gu5 dX0_start_32 ?_
      refine w_aload_n 0 33 hX rfl rfl dX0_start_33 ?_
      refine w_getR 34 hX CI_0 s_23 rfl r_23_3 fl_X0_21 rfl dX0_start_34 ?_
      refine w_iload_n 1 37 hX rfl rfl dX0_start_37 ?_
      refine w_iconst 0 38 hX ic_0 dX0_start_38 ?_
      obtain ⟨u6, gu6, h⟩ := o_bind h
      refine w_iast 39 hX s_27 gu6 dX0_start_39 ?_
      refine w_aload_n 0 40 hX rfl rfl dX0_start_40 ?_
      refine w_getR 41 hX CI_0 s_23 rfl r_23_4 fl_X0_24 rfl dX0_start_41 ?_
      refine w_iload_n 1 44 hX rfl rfl dX0_start_44 ?_
      refine w_iconst 0 45 hX ic_0 dX0_start_45 ?_
      obtain ⟨u7, gu7, h⟩ := o_bind h
      refine w_iast 46 hX s_28 gu7 dX0_start_46 ?_
      refine w_aload_n 0 47 hX rfl rfl dX0_start_47 ?_
      refine w_getR 48 hX CI_0 s_23 rfl r_23_5 fl_X0_27 rfl dX0_start_48 ?_
      refine w_iload_n 1 51 hX rfl rfl dX0_start_51 ?_
      refine w_iconst 0 52 hX ic_0 dX0_start_52 ?_
      obtain ⟨u8, gu8, h⟩ := o_bind h
      refine w_iast 53 hX s_29 gu8 dX0_start_53 ?_
      exact w_vret 54 hX hR dX0_start_54 (by cases h; rfl)
    · have h := ie h c2
      exact w_vret 10 hX hR dX0_start_10 (by cases h; rfl))
def FX11_man_0_b33 (l1 l2 l3 t0 : Int32) (u : Mem) : Option (Int32 × Mem) :=
  (if t0 = 0 then (some ((-1), u)) else ((if (u 1 0) < 0 then (some ((-1), u)) else ((if (u 1 0) < 12 then ((wrA u 2 12 (u 1 0) l1).bind fun u4 => (wrA u4 3 12 (u 1 0) l2).bind fun u5 => (wrA u5 4 12 (u 1 0) l3).bind fun u6 => (wrA u6 5 12 (u 1 0) 0).bind fun u7 => (FX0_start_23 (u 1 0) u7).bind fun u9 => (some (mupd u9 1 0 ((u 1 0) + 1))).bind fun u10 => (FX10_forgetAll_52 u10).bind fun u12 => some (u 1 0, u12)) else (some ((-1), u)))))))
theorem bX11_man_0_33 {G : Gt} {X : Xt} {v : Int32} {u' : Mem} (hX : CxOk G X cX11_man 6 RX11 (some (.int v), SH, RHO, u') 2) (hR : CxRet G X (some .int) (some (.int v), SH, RHO, u')) (l1 l2 l3 t0 : Int32) (u : Mem) (h : FX11_man_0_b33 l1 l2 l3 t0 u = some (v, u')) : WM G X 33 [(0, .ref 0), (1, .int l1), (2, .int l2), (3, .int l3)] [.int t0] SH RHO u := by
  unfold FX11_man_0_b33 at h
  refine w_istore (lv' := [(4, .int t0), (0, .ref 0), (1, .int l1), (2, .int l2), (3, .int l3)]) 33 hX dX11_man_33 (by decide) rfl ?_
  refine w_aload_n 1 35 hX rfl rfl dX11_man_35 ?_
  refine w_getR 36 hX CI_11 s_0 rfl r_0_0 fl_X11_10 rfl dX11_man_36 ?_
  refine w_getI (j := 0) 39 hX CI_9 s_1 rfl fl_X11_95 rfl dX11_man_39 ?_
  refine w_istore (lv' := [(5, .int (u 1 0)), (4, .int t0), (0, .ref 0), (1, .int l1), (2, .int l2), (3, .int l3)]) 42 hX dX11_man_42 (by decide) rfl ?_
  refine w_iload 1 44 hX rfl dX11_man_44 ?_
  refine w_if_eq (tgt := 61) 46 hX dX11_man_46 (by decide) (fun c1 => ?_) (fun c1 => ?_)
  · have h := it h c1
    refine w_iconst (-1) 61 hX ic_m1 dX11_man_61 ?_
    exact w_iret 62 hX hR dX11_man_62 (by cases h; rfl)
  · have h := ie h c1
    refine w_iload 0 49 hX rfl dX11_man_49 ?_
    refine w_if_lt (tgt := 61) 51 hX dX11_man_51 (by decide) (fun c2 => ?_) (fun c2 => ?_)
    · have h := it h c2
      refine w_iconst (-1) 61 hX ic_m1 dX11_man_61 ?_
      exact w_iret 62 hX hR dX11_man_62 (by cases h; rfl)
    · have h := ie h c2
      refine w_iload 0 54 hX rfl dX11_man_54 ?_
      refine w_bipush 12 56 hX ib_12 dX11_man_56 ?_
      refine w_icmp_lt (tgt := 63) 58 hX dX11_man_58 (by decide) (fun c3 => ?_) (fun c3 => ?_)
      · have h := it h c3
        refine w_aload_n 2 63 hX rfl rfl dX11_man_63 ?_
        refine w_getR 64 hX CI_11 s_0 rfl r_0_0 fl_X11_10 rfl dX11_man_64 ?_
        refine w_getR 67 hX CI_9 s_1 rfl r_1_1 fl_X11_98 rfl dX11_man_67 ?_
        refine w_iload 0 70 hX rfl dX11_man_70 ?_
        refine w_iload_n 3 72 hX rfl rfl dX11_man_72 ?_
        obtain ⟨u4, gu4, h⟩ := o_bind h
        refine w_iast 73 hX s_2 gu4 dX11_man_73 ?_
        refine w_aload_n 2 74 hX rfl rfl dX11_man_74 ?_
        refine w_getR 75 hX CI_11 s_0 rfl r_0_0 fl_X11_10 rfl dX11_man_75 ?_
        refine w_getR 78 hX CI_9 s_1 rfl r_1_2 fl_X11_102 rfl dX11_man_78 ?_
        refine w_iload 0 81 hX rfl dX11_man_81 ?_
        refine w_iload_n 4 83 hX rfl rfl dX11_man_83 ?_
        obtain ⟨u5, gu5, h⟩ := o_bind h
        refine w_iast 84 hX s_3 gu5 dX11_man_84 ?_
        refine w_aload_n 2 85 hX rfl rfl dX11_man_85 ?_
        refine w_getR 86 hX CI_11 s_0 rfl r_0_0 fl_X11_10 rfl dX11_man_86 ?_
        refine w_getR 89 hX CI_9 s_1 rfl r_1_3 fl_X11_105 rfl dX11_man_89 ?_
        refine w_iload 0 92 hX rfl dX11_man_92 ?_
        refine w_iload_n 5 94 hX rfl rfl dX11_man_94 ?_
        obtain ⟨u6, gu6, h⟩ := o_bind h
        refine w_iast 95 hX s_4 gu6 dX11_man_95 ?_
        refine w_aload_n 2 96 hX rfl rfl dX11_man_96 ?_
        refine w_getR 97 hX CI_11 s_0 rfl r_0_0 fl_X11_10 rfl dX11_man_97 ?_
        refine w_getR 100 hX CI_9 s_1 rfl r_1_4 fl_X11_108 rfl dX11_man_100 ?_
        refine w_iload 0 103 hX rfl dX11_man_103 ?_
        refine w_iconst 0 105 hX ic_0 dX11_man_105 ?_
        obtain ⟨u7, gu7, h⟩ := o_bind h
        refine w_iast 106 hX s_5 gu7 dX11_man_106 ?_
        refine w_aload_n 2 107 hX rfl rfl dX11_man_107 ?_
        refine w_getR 108 hX CI_11 s_0 rfl r_0_1 fl_X11_19 rfl dX11_man_108 ?_
        refine w_iload 0 111 hX rfl dX11_man_111 ?_
        obtain ⟨u9, gu9, h⟩ := o_bind h
        refine w_invVv (av := [.int (u 1 0)]) (st := []) 113 hX CI_0 s_23 rfl mv_yX0_start mi_yX0_start ml_X11_111 (CX0_start_23 (u 1 0) u7 gu9) rfl (by decide) (Nat.le_of_ble_eq_true rfl) (Nat.le_refl _) (Nat.le_refl _) dX11_man_113 ?_
        refine w_aload_n 2 116 hX rfl rfl dX11_man_116 ?_
        refine w_getR 117 hX CI_11 s_0 rfl r_0_0 fl_X11_10 rfl dX11_man_117 ?_
        refine w_iload 0 120 hX rfl dX11_man_120 ?_
        refine w_iconst 1 122 hX ic_1 dX11_man_122 ?_
        refine w_iadd 123 hX dX11_man_123 ?_
        obtain ⟨u10, gu10, h⟩ := o_bind h
        refine w_putI (j := 0) 124 hX CI_9 s_1 rfl fl_X11_95 rfl rfl rfl rfl dX11_man_124 ?_
        rw [Option.some.inj gu10]
        refine w_aload_n 2 127 hX rfl rfl dX11_man_127 ?_
        refine w_getR 128 hX CI_11 s_0 rfl r_0_5 fl_X11_49 rfl dX11_man_128 ?_
        obtain ⟨u12, gu12, h⟩ := o_bind h
        refine w_invVv (av := []) (st := []) 131 hX CI_10 s_52 rfl mv_yX10_forgetAll mi_yX10_forgetAll ml_X11_88 (CX10_forgetAll_52 u10 gu12) rfl (by decide) (Nat.le_of_ble_eq_true rfl) (Nat.le_refl _) (Nat.le_refl _) dX11_man_131 ?_
        refine w_iload 0 134 hX rfl dX11_man_134 ?_
        exact w_iret 136 hX hR dX11_man_136 (by cases h; rfl)
      · have h := ie h c3
        refine w_iconst (-1) 61 hX ic_m1 dX11_man_61 ?_
        exact w_iret 62 hX hR dX11_man_62 (by cases h; rfl)
def FX11_man_0 (p1 p2 p3 : Int32) (u : Mem) : Option (Int32 × Mem) :=
  (FX11_isCountry p1).bind fun x1 => (if x1 = 0 then (FX11_man_0_b33 p1 p2 p3 0 u) else ((if p2 < 0 then (FX11_man_0_b33 p1 p2 p3 0 u) else ((if 120 < p2 then (FX11_man_0_b33 p1 p2 p3 0 u) else ((if p3 < 1 then (FX11_man_0_b33 p1 p2 p3 0 u) else ((if 9 < p3 then (FX11_man_0_b33 p1 p2 p3 0 u) else (FX11_man_0_b33 p1 p2 p3 1 u))))))))))
theorem CX11_man_0 {G : Gt} (p1 p2 p3 : Int32) (u : Mem) {v : Int32} {u' : Mem} (h : FX11_man_0 p1 p2 p3 u = some (v, u')) : CT G yX11_man cX11_man 6 (some .int) 2 [.ref 0, .int p1, .int p2, .int p3] SH RHO u (some (.int v), SH, RHO, u') :=
  ct_of (by decide) rfl (Nat.le_of_ble_eq_true rfl) (Nat.le_refl _) (Nat.le_refl _) (fun X hX hR => by
  unfold FX11_man_0 at h
  refine w_iload_n 1 0 hX rfl rfl dX11_man_0 ?_
  obtain ⟨x1, gx1, h⟩ := o_bind h
  refine w_invSi (av := [.int p1]) (st := []) 1 hX ms_yX11_isCountry mi_yX11_isCountry ml_X11_91 (CX11_isCountry p1 u gx1) rfl (by decide) (Nat.le_of_ble_eq_true rfl) (Nat.le_refl _) (Nat.le_refl _) dX11_man_1 ?_
  refine w_if_eq (tgt := 32) 4 hX dX11_man_4 (by decide) (fun c2 => ?_) (fun c2 => ?_)
  · have h := it h c2
    refine w_iconst 0 32 hX ic_0 dX11_man_32 ?_
    exact bX11_man_0_33 hX hR p1 p2 p3 0 u h
  · have h := ie h c2
    refine w_iload_n 2 7 hX rfl rfl dX11_man_7 ?_
    refine w_if_lt (tgt := 32) 8 hX dX11_man_8 (by decide) (fun c3 => ?_) (fun c3 => ?_)
    · have h := it h c3
      refine w_iconst 0 32 hX ic_0 dX11_man_32 ?_
      exact bX11_man_0_33 hX hR p1 p2 p3 0 u h
    · have h := ie h c3
      refine w_iload_n 2 11 hX rfl rfl dX11_man_11 ?_
      refine w_bipush 120 12 hX ib_120 dX11_man_12 ?_
      refine w_icmp_gt (tgt := 32) 14 hX dX11_man_14 (by decide) (fun c4 => ?_) (fun c4 => ?_)
      · have h := it h c4
        refine w_iconst 0 32 hX ic_0 dX11_man_32 ?_
        exact bX11_man_0_33 hX hR p1 p2 p3 0 u h
      · have h := ie h c4
        refine w_iload_n 3 17 hX rfl rfl dX11_man_17 ?_
        refine w_iconst 1 18 hX ic_1 dX11_man_18 ?_
        refine w_icmp_lt (tgt := 32) 19 hX dX11_man_19 (by decide) (fun c5 => ?_) (fun c5 => ?_)
        · have h := it h c5
          refine w_iconst 0 32 hX ic_0 dX11_man_32 ?_
          exact bX11_man_0_33 hX hR p1 p2 p3 0 u h
        · have h := ie h c5
          refine w_iload_n 3 22 hX rfl rfl dX11_man_22 ?_
          refine w_bipush 9 23 hX ib_9 dX11_man_23 ?_
          refine w_icmp_gt (tgt := 32) 25 hX dX11_man_25 (by decide) (fun c6 => ?_) (fun c6 => ?_)
          · have h := it h c6
            refine w_iconst 0 32 hX ic_0 dX11_man_32 ?_
            exact bX11_man_0_33 hX hR p1 p2 p3 0 u h
          · have h := ie h c6
            refine w_iconst 1 28 hX ic_1 dX11_man_28 ?_
            refine w_goto (tgt := 33) 29 hX (by decide) dX11_man_29 ?_
            exact bX11_man_0_33 hX hR p1 p2 p3 1 u h)
def FX12_isIn (p0 p1 p2 : Int32) : Option Int32 :=
  (if p0 < p1 then (some 0) else ((if p2 < p0 then (some 0) else (some 1))))
theorem CX12_isIn {G : Gt} (p0 p1 p2 : Int32) (u : Mem) {v : Int32} (h : FX12_isIn p0 p1 p2 = some v) : CT G yX12_isIn cX12_isIn 3 (some .boolean) 1 [.int p0, .int p1, .int p2] SH RHO u (some (.int v), SH, RHO, u) :=
  ct_of (by decide) rfl (Nat.le_of_ble_eq_true rfl) (Nat.le_refl _) (Nat.le_refl _) (fun X hX hR => by
  unfold FX12_isIn at h
  refine w_iload_n 0 0 hX rfl rfl dX12_isIn_0 ?_
  refine w_iload_n 1 1 hX rfl rfl dX12_isIn_1 ?_
  refine w_icmp_lt (tgt := 14) 2 hX dX12_isIn_2 (by decide) (fun c1 => ?_) (fun c1 => ?_)
  · have h := it h c1
    refine w_iconst 0 14 hX ic_0 dX12_isIn_14 ?_
    exact w_zret 15 hX hR (by decide) dX12_isIn_15 (by cases h; rfl)
  · have h := ie h c1
    refine w_iload_n 0 5 hX rfl rfl dX12_isIn_5 ?_
    refine w_iload_n 2 6 hX rfl rfl dX12_isIn_6 ?_
    refine w_icmp_gt (tgt := 14) 7 hX dX12_isIn_7 (by decide) (fun c2 => ?_) (fun c2 => ?_)
    · have h := it h c2
      refine w_iconst 0 14 hX ic_0 dX12_isIn_14 ?_
      exact w_zret 15 hX hR (by decide) dX12_isIn_15 (by cases h; rfl)
    · have h := ie h c2
      refine w_iconst 1 10 hX ic_1 dX12_isIn_10 ?_
      refine w_goto (tgt := 15) 11 hX (by decide) dX12_isIn_11 ?_
      exact w_zret 15 hX hR (by decide) dX12_isIn_15 (by cases h; rfl))
def FX12_isCountry (p0 : Int32) : Option Int32 :=
  (FX12_isIn p0 0 1).bind fun x1 => (bchk x1).bind fun x2 => some x2
theorem CX12_isCountry {G : Gt} (p0 : Int32) (u : Mem) {v : Int32} (h : FX12_isCountry p0 = some v) : CT G yX12_isCountry cX12_isCountry 1 (some .boolean) 2 [.int p0] SH RHO u (some (.int v), SH, RHO, u) :=
  ct_of (by decide) rfl (Nat.le_of_ble_eq_true rfl) (Nat.le_refl _) (Nat.le_refl _) (fun X hX hR => by
  unfold FX12_isCountry at h
  refine w_iload_n 0 0 hX rfl rfl dX12_isCountry_0 ?_
  refine w_iconst 0 1 hX ic_0 dX12_isCountry_1 ?_
  refine w_iconst 1 2 hX ic_1 dX12_isCountry_2 ?_
  obtain ⟨x1, gx1, h⟩ := o_bind h
  refine w_invSi (av := [.int p0, .int 0, .int 1]) (st := []) 3 hX ms_yX12_isIn mi_yX12_isIn ml_X12_54 (CX12_isIn p0 0 1 u gx1) rfl (by decide) (Nat.le_of_ble_eq_true rfl) (Nat.le_refl _) (Nat.le_refl _) dX12_isCountry_3 ?_
  obtain ⟨x2, gx2, h⟩ := o_bind h
  obtain ⟨jx2, nx2, mx2⟩ := bchk_ok gx2
  rw [jx2]
  exact w_zret 6 hX hR nx2 dX12_isCountry_6 (by cases h; rfl))
def FX12_man_146 (p1 p2 p3 : Int32) (u : Mem) : Option (Int32 × Mem) :=
  (FX12_isCountry p1).bind fun x1 => (if x1 = 0 then (some ((-1), u)) else ((FX12_isIn p2 0 120).bind fun x3 => (if x3 = 0 then (some ((-1), u)) else ((FX12_isIn p3 1 9).bind fun x5 => (if x5 = 0 then (some ((-1), u)) else ((if (u 147 78) = 12 then (some ((-1), u)) else ((wrA u 147 1786 (90 + (u 147 78)) p1).bind fun u8 => (wrA u8 147 1786 (102 + (u 147 78)) p2).bind fun u9 => (wrA u9 147 1786 (114 + (u 147 78)) p3).bind fun u10 => (wrA u10 147 1786 (4 + (u 147 78)) 50).bind fun u11 => (wrA u11 147 1786 (16 + (u 147 78)) 0).bind fun u12 => (wrA u12 147 1786 (28 + (u 147 78)) 0).bind fun u13 => (wrA u13 147 1786 (40 + (u 147 78)) 0).bind fun u14 => (wrA u14 147 1786 (52 + (u 147 78)) 0).bind fun u15 => (wrA u15 147 1786 (64 + (u 147 78)) 0).bind fun u16 => (some (mupd u16 147 78 ((u16 147 78) + 1))).bind fun u17 => (FX12_forgetsActs_146 u17).bind fun u19 => some (u 147 78, u19)))))))))
theorem CX12_man_146 {G : Gt} (p1 p2 p3 : Int32) (u : Mem) {v : Int32} {u' : Mem} (h : FX12_man_146 p1 p2 p3 u = some (v, u')) : CT G yX12_man cX12_man 5 (some .int) 3 [.ref 146, .int p1, .int p2, .int p3] SH RHO u (some (.int v), SH, RHO, u') :=
  ct_of (by decide) rfl (Nat.le_of_ble_eq_true rfl) (Nat.le_refl _) (Nat.le_refl _) (fun X hX hR => by
  unfold FX12_man_146 at h
  refine w_iload_n 1 0 hX rfl rfl dX12_man_0 ?_
  obtain ⟨x1, gx1, h⟩ := o_bind h
  refine w_invSi (av := [.int p1]) (st := []) 1 hX ms_yX12_isCountry mi_yX12_isCountry ml_X12_66 (CX12_isCountry p1 u gx1) rfl (by decide) (Nat.le_of_ble_eq_true rfl) (Nat.le_refl _) (Nat.le_refl _) dX12_man_1 ?_
  refine w_if_eq (tgt := 39) 4 hX dX12_man_4 (by decide) (fun c2 => ?_) (fun c2 => ?_)
  · have h := it h c2
    refine w_iconst (-1) 39 hX ic_m1 dX12_man_39 ?_
    exact w_iret 40 hX hR dX12_man_40 (by cases h; rfl)
  · have h := ie h c2
    refine w_iload_n 2 7 hX rfl rfl dX12_man_7 ?_
    refine w_iconst 0 8 hX ic_0 dX12_man_8 ?_
    refine w_bipush 120 9 hX ib_120 dX12_man_9 ?_
    obtain ⟨x3, gx3, h⟩ := o_bind h
    refine w_invSi (av := [.int p2, .int 0, .int 120]) (st := []) 11 hX ms_yX12_isIn mi_yX12_isIn ml_X12_54 (CX12_isIn p2 0 120 u gx3) rfl (by decide) (Nat.le_of_ble_eq_true rfl) (Nat.le_refl _) (Nat.le_refl _) dX12_man_11 ?_
    refine w_if_eq (tgt := 39) 14 hX dX12_man_14 (by decide) (fun c4 => ?_) (fun c4 => ?_)
    · have h := it h c4
      refine w_iconst (-1) 39 hX ic_m1 dX12_man_39 ?_
      exact w_iret 40 hX hR dX12_man_40 (by cases h; rfl)
    · have h := ie h c4
      refine w_iload_n 3 17 hX rfl rfl dX12_man_17 ?_
      refine w_iconst 1 18 hX ic_1 dX12_man_18 ?_
      refine w_bipush 9 19 hX ib_9 dX12_man_19 ?_
      obtain ⟨x5, gx5, h⟩ := o_bind h
      refine w_invSi (av := [.int p3, .int 1, .int 9]) (st := []) 21 hX ms_yX12_isIn mi_yX12_isIn ml_X12_54 (CX12_isIn p3 1 9 u gx5) rfl (by decide) (Nat.le_of_ble_eq_true rfl) (Nat.le_refl _) (Nat.le_refl _) dX12_man_21 ?_
      refine w_if_eq (tgt := 39) 24 hX dX12_man_24 (by decide) (fun c6 => ?_) (fun c6 => ?_)
      · have h := it h c6
        refine w_iconst (-1) 39 hX ic_m1 dX12_man_39 ?_
        exact w_iret 40 hX hR dX12_man_40 (by cases h; rfl)
      · have h := ie h c6
        refine w_aload_n 0 27 hX rfl rfl dX12_man_27 ?_
        refine w_getR 28 hX CI_12 s_146 rfl r_146_0 fl_X12_7 rfl dX12_man_28 ?_
        refine w_bipush 78 31 hX ib_78 dX12_man_31 ?_
        refine w_iald 33 hX s_147 (rdK 78 78 n_78 (by decide) (by decide)) dX12_man_33 ?_
        refine w_bipush 12 34 hX ib_12 dX12_man_34 ?_
        refine w_icmp_ne (tgt := 41) 36 hX dX12_man_36 (by decide) (fun c7 => ?_) (fun c7 => ?_)
        · have h := ie h c7
          refine w_aload_n 0 41 hX rfl rfl dX12_man_41 ?_
          refine w_getR 42 hX CI_12 s_146 rfl r_146_0 fl_X12_7 rfl dX12_man_42 ?_
          refine w_bipush 78 45 hX ib_78 dX12_man_45 ?_
          refine w_iald 47 hX s_147 (rdK 78 78 n_78 (by decide) (by decide)) dX12_man_47 ?_
          refine w_istore (lv' := [(4, .int (u 147 78)), (0, .ref 146), (1, .int p1), (2, .int p2), (3, .int p3)]) 48 hX dX12_man_48 (by decide) rfl ?_
          refine w_aload_n 1 50 hX rfl rfl dX12_man_50 ?_
          refine w_getR 51 hX CI_12 s_146 rfl r_146_0 fl_X12_7 rfl dX12_man_51 ?_
          refine w_bipush 90 54 hX ib_90 dX12_man_54 ?_
          refine w_iload 0 56 hX rfl dX12_man_56 ?_
          refine w_iadd 58 hX dX12_man_58 ?_
          refine w_iload_n 2 59 hX rfl rfl dX12_man_59 ?_
          obtain ⟨u8, gu8, h⟩ := o_bind h
          refine w_iast 60 hX s_147 gu8 dX12_man_60 ?_
          refine w_aload_n 1 61 hX rfl rfl dX12_man_61 ?_
          refine w_getR 62 hX CI_12 s_146 rfl r_146_0 fl_X12_7 rfl dX12_man_62 ?_
          refine w_bipush 102 65 hX ib_102 dX12_man_65 ?_
          refine w_iload 0 67 hX rfl dX12_man_67 ?_
          refine w_iadd 69 hX dX12_man_69 ?_
          refine w_iload_n 3 70 hX rfl rfl dX12_man_70 ?_
          obtain ⟨u9, gu9, h⟩ := o_bind h
          refine w_iast 71 hX s_147 gu9 dX12_man_71 ?_
          refine w_aload_n 1 72 hX rfl rfl dX12_man_72 ?_
          refine w_getR 73 hX CI_12 s_146 rfl r_146_0 fl_X12_7 rfl dX12_man_73 ?_
          refine w_bipush 114 76 hX ib_114 dX12_man_76 ?_
          refine w_iload 0 78 hX rfl dX12_man_78 ?_
          refine w_iadd 80 hX dX12_man_80 ?_
          refine w_iload_n 4 81 hX rfl rfl dX12_man_81 ?_
          obtain ⟨u10, gu10, h⟩ := o_bind h
          refine w_iast 82 hX s_147 gu10 dX12_man_82 ?_
          refine w_aload_n 1 83 hX rfl rfl dX12_man_83 ?_
          refine w_getR 84 hX CI_12 s_146 rfl r_146_0 fl_X12_7 rfl dX12_man_84 ?_
          refine w_iconst 4 87 hX ic_4 dX12_man_87 ?_
          refine w_iload 0 88 hX rfl dX12_man_88 ?_
          refine w_iadd 90 hX dX12_man_90 ?_
          refine w_bipush 50 91 hX ib_50 dX12_man_91 ?_
          obtain ⟨u11, gu11, h⟩ := o_bind h
          refine w_iast 93 hX s_147 gu11 dX12_man_93 ?_
          refine w_aload_n 1 94 hX rfl rfl dX12_man_94 ?_
          refine w_getR 95 hX CI_12 s_146 rfl r_146_0 fl_X12_7 rfl dX12_man_95 ?_
          refine w_bipush 16 98 hX ib_16 dX12_man_98 ?_
          refine w_iload 0 100 hX rfl dX12_man_100 ?_
          refine w_iadd 102 hX dX12_man_102 ?_
          refine w_iconst 0 103 hX ic_0 dX12_man_103 ?_
          obtain ⟨u12, gu12, h⟩ := o_bind h
          refine w_iast 104 hX s_147 gu12 dX12_man_104 ?_
          refine w_aload_n 1 105 hX rfl rfl dX12_man_105 ?_
          refine w_getR 106 hX CI_12 s_146 rfl r_146_0 fl_X12_7 rfl dX12_man_106 ?_
          refine w_bipush 28 109 hX ib_28 dX12_man_109 ?_
          refine w_iload 0 111 hX rfl dX12_man_111 ?_
          refine w_iadd 113 hX dX12_man_113 ?_
          refine w_iconst 0 114 hX ic_0 dX12_man_114 ?_
          obtain ⟨u13, gu13, h⟩ := o_bind h
          refine w_iast 115 hX s_147 gu13 dX12_man_115 ?_
          refine w_aload_n 1 116 hX rfl rfl dX12_man_116 ?_
          refine w_getR 117 hX CI_12 s_146 rfl r_146_0 fl_X12_7 rfl dX12_man_117 ?_
          refine w_bipush 40 120 hX ib_40 dX12_man_120 ?_
          refine w_iload 0 122 hX rfl dX12_man_122 ?_
          refine w_iadd 124 hX dX12_man_124 ?_
          refine w_iconst 0 125 hX ic_0 dX12_man_125 ?_
          obtain ⟨u14, gu14, h⟩ := o_bind h
          refine w_iast 126 hX s_147 gu14 dX12_man_126 ?_
          refine w_aload_n 1 127 hX rfl rfl dX12_man_127 ?_
          refine w_getR 128 hX CI_12 s_146 rfl r_146_0 fl_X12_7 rfl dX12_man_128 ?_
          refine w_bipush 52 131 hX ib_52 dX12_man_131 ?_
          refine w_iload 0 133 hX rfl dX12_man_133 ?_
          refine w_iadd 135 hX dX12_man_135 ?_
          refine w_iconst 0 136 hX ic_0 dX12_man_136 ?_
          obtain ⟨u15, gu15, h⟩ := o_bind h
          refine w_iast 137 hX s_147 gu15 dX12_man_137 ?_
          refine w_aload_n 1 138 hX rfl rfl dX12_man_138 ?_
          refine w_getR 139 hX CI_12 s_146 rfl r_146_0 fl_X12_7 rfl dX12_man_139 ?_
          refine w_bipush 64 142 hX ib_64 dX12_man_142 ?_
          refine w_iload 0 144 hX rfl dX12_man_144 ?_
          refine w_iadd 146 hX dX12_man_146 ?_
          refine w_iconst 0 147 hX ic_0 dX12_man_147 ?_
          obtain ⟨u16, gu16, h⟩ := o_bind h
          refine w_iast 148 hX s_147 gu16 dX12_man_148 ?_
          refine w_aload_n 1 149 hX rfl rfl dX12_man_149 ?_
          refine w_getR 150 hX CI_12 s_146 rfl r_146_0 fl_X12_7 rfl dX12_man_150 ?_
          refine w_bipush 78 153 hX ib_78 dX12_man_153 ?_
          refine w_dup2 155 hX rfl rfl dX12_man_155 ?_
          refine w_iald 156 hX s_147 (rdK 78 78 n_78 (by decide) (by decide)) dX12_man_156 ?_
          refine w_iconst 1 157 hX ic_1 dX12_man_157 ?_
          refine w_iadd 158 hX dX12_man_158 ?_
          obtain ⟨u17, gu17, h⟩ := o_bind h
          refine w_iast 159 hX s_147 (wrK 78 78 n_78 (by decide) (by decide) gu17) dX12_man_159 ?_
          refine w_aload_n 1 160 hX rfl rfl dX12_man_160 ?_
          obtain ⟨u19, gu19, h⟩ := o_bind h
          refine w_invVv (av := []) (st := []) 161 hX CI_12 s_146 rfl mv_yX12_forgetsActs mi_yX12_forgetsActs ml_X12_61 (CX12_forgetsActs_146 u17 gu19) rfl (by decide) (Nat.le_of_ble_eq_true rfl) (Nat.le_refl _) (Nat.le_refl _) dX12_man_161 ?_
          refine w_iload 0 164 hX rfl dX12_man_164 ?_
          exact w_iret 166 hX hR dX12_man_166 (by cases h; rfl)
        · have h := it h c7
          refine w_iconst (-1) 39 hX ic_m1 dX12_man_39 ?_
          exact w_iret 40 hX hR dX12_man_40 (by cases h; rfl))
def FX9_mostOf (p0 : Int32) : Option Int32 :=
  (if p0 = 1 then (some 9) else ((if p0 = 2 then (some 99) else ((if p0 = 3 then (some 9) else ((if p0 = 4 then (some 1) else (some 99))))))))
theorem CX9_mostOf {G : Gt} (p0 : Int32) (u : Mem) {v : Int32} (h : FX9_mostOf p0 = some v) : CT G yX9_mostOf cX9_mostOf 1 (some .int) 1 [.int p0] SH RHO u (some (.int v), SH, RHO, u) :=
  ct_of (by decide) rfl (Nat.le_of_ble_eq_true rfl) (Nat.le_refl _) (Nat.le_refl _) (fun X hX hR => by
  unfold FX9_mostOf at h
  refine w_iload_n 0 0 hX rfl rfl dX9_mostOf_0 ?_
  by_cases c1 : p0 = 1
  · have h := it h c1
    refine w_tabIn (tgt := 32) (off := 31) 1 hX dX9_mostOf_1 (by rw [c1]; decide) (by rw [c1]; decide) (by rw [c1]; decide) (by decide) ?_
    refine w_bipush 9 32 hX ib_9 dX9_mostOf_32 ?_
    exact w_iret 34 hX hR dX9_mostOf_34 (by cases h; rfl)
  · have h := ie h c1
    by_cases c2 : p0 = 2
    · have h := it h c2
      refine w_tabIn (tgt := 40) (off := 39) 1 hX dX9_mostOf_1 (by rw [c2]; decide) (by rw [c2]; decide) (by rw [c2]; decide) (by decide) ?_
      refine w_bipush 99 40 hX ib_99 dX9_mostOf_40 ?_
      exact w_iret 42 hX hR dX9_mostOf_42 (by cases h; rfl)
    · have h := ie h c2
      by_cases c3 : p0 = 3
      · have h := it h c3
        refine w_tabIn (tgt := 35) (off := 34) 1 hX dX9_mostOf_1 (by rw [c3]; decide) (by rw [c3]; decide) (by rw [c3]; decide) (by decide) ?_
        refine w_bipush 9 35 hX ib_9 dX9_mostOf_35 ?_
        exact w_iret 37 hX hR dX9_mostOf_37 (by cases h; rfl)
      · have h := ie h c3
        by_cases c4 : p0 = 4
        · have h := it h c4
          refine w_tabIn (tgt := 38) (off := 37) 1 hX dX9_mostOf_1 (by rw [c4]; decide) (by rw [c4]; decide) (by rw [c4]; decide) (by decide) ?_
          refine w_iconst 1 38 hX ic_1 dX9_mostOf_38 ?_
          exact w_iret 39 hX hR dX9_mostOf_39 (by cases h; rfl)
        · have h := ie h c4
          have zc1 := lv_neT c1 (a := 1) (by decide)
          have zc2 := lv_neT c2 (a := 2) (by decide)
          have zc3 := lv_neT c3 (a := 3) (by decide)
          have zc4 := lv_neT c4 (a := 4) (by decide)
          refine w_tabOut (tgt := 40) 1 hX dX9_mostOf_1 (by omega) (by decide) ?_
          refine w_bipush 99 40 hX ib_99 dX9_mostOf_40 ?_
          exact w_iret 42 hX hR dX9_mostOf_42 (by cases h; rfl))
def FX9_putWant_1 (p1 p2 : Int32) (u : Mem) : Option (Int32 × Mem) :=
  (FX11_isCountry p1).bind fun x1 => (if x1 = 0 then (some (0, u)) else ((wrA u 6 2 p1 p2).bind fun u3 => some (1, u3)))
theorem CX9_putWant_1 {G : Gt} (p1 p2 : Int32) (u : Mem) {v : Int32} {u' : Mem} (h : FX9_putWant_1 p1 p2 u = some (v, u')) : CT G yX9_putWant cX9_putWant 3 (some .boolean) 2 [.ref 1, .int p1, .int p2] SH RHO u (some (.int v), SH, RHO, u') :=
  ct_of (by decide) rfl (Nat.le_of_ble_eq_true rfl) (Nat.le_refl _) (Nat.le_refl _) (fun X hX hR => by
  unfold FX9_putWant_1 at h
  refine w_iload_n 1 0 hX rfl rfl dX9_putWant_0 ?_
  obtain ⟨x1, gx1, h⟩ := o_bind h
  refine w_invSNi (av := [.int p1]) (st := []) 1 hX ms_yX11_isCountry mi_yX11_isCountry ml_X9_102 (CX11_isCountry p1 u gx1) rfl (by decide) (Nat.le_of_ble_eq_true rfl) (Nat.le_refl _) (Nat.le_refl _) dX9_putWant_1 ?_
  refine w_if_ne (tgt := 9) 4 hX dX9_putWant_4 (by decide) (fun c2 => ?_) (fun c2 => ?_)
  · have h := ie h c2
    refine w_aload_n 0 9 hX rfl rfl dX9_putWant_9 ?_
    refine w_getR 10 hX CI_9 s_1 rfl r_1_5 fl_X9_24 rfl dX9_putWant_10 ?_
    refine w_iload_n 1 13 hX rfl rfl dX9_putWant_13 ?_
    refine w_iload_n 2 14 hX rfl rfl dX9_putWant_14 ?_
    obtain ⟨u3, gu3, h⟩ := o_bind h
    refine w_iast 15 hX s_6 gu3 dX9_putWant_15 ?_
    refine w_iconst 1 16 hX ic_1 dX9_putWant_16 ?_
    exact w_zret 17 hX hR (by decide) dX9_putWant_17 (by cases h; rfl)
  · have h := it h c2
    refine w_iconst 0 7 hX ic_0 dX9_putWant_7 ?_
    exact w_zret 8 hX hR (by decide) dX9_putWant_8 (by cases h; rfl))
def FX9_putHill_1_b39 (t1 : Int32) (u : Mem) : Option (Int32 × Mem) :=
  (some (mupd u 1 10 t1)).bind fun u1 => some (1, u1)
theorem bX9_putHill_1_39 {G : Gt} {X : Xt} {v : Int32} {u' : Mem} (hX : CxOk G X cX9_putHill 3 RX9 (some (.int v), SH, RHO, u') 1) (hR : CxRet G X (some .boolean) (some (.int v), SH, RHO, u')) (t1 : Int32) (u : Mem) (h : FX9_putHill_1_b39 t1 u = some (v, u')) : WM G X 39 [] [.int t1, .ref 1] SH RHO u := by
  unfold FX9_putHill_1_b39 at h
  obtain ⟨u1, gu1, h⟩ := o_bind h
  refine w_putI (j := 10) 39 hX CI_9 s_1 rfl fl_X9_68 rfl rfl rfl rfl dX9_putHill_39 ?_
  rw [Option.some.inj gu1]
  refine w_iconst 1 42 hX ic_1 dX9_putHill_42 ?_
  exact w_zret 43 hX hR (by decide) dX9_putHill_43 (by cases h; rfl)
def FX9_putHill_1 (p1 p2 : Int32) (u : Mem) : Option (Int32 × Mem) :=
  (if p1 < 0 then (some (0, u)) else ((if p1 < 16 then ((if p2 = 1 then (FX9_putHill_1_b39 ((u 1 10) ||| ((1 : Int32) <<< (p1 &&& 31))) u) else (FX9_putHill_1_b39 ((u 1 10) &&& (((1 : Int32) <<< (p1 &&& 31)) ^^^ (-1))) u))) else (some (0, u)))))
theorem CX9_putHill_1 {G : Gt} (p1 p2 : Int32) (u : Mem) {v : Int32} {u' : Mem} (h : FX9_putHill_1 p1 p2 u = some (v, u')) : CT G yX9_putHill cX9_putHill 3 (some .boolean) 1 [.ref 1, .int p1, .int p2] SH RHO u (some (.int v), SH, RHO, u') :=
  ct_of (by decide) rfl (Nat.le_of_ble_eq_true rfl) (Nat.le_refl _) (Nat.le_refl _) (fun X hX hR => by
  unfold FX9_putHill_1 at h
  refine w_iload_n 1 0 hX rfl rfl dX9_putHill_0 ?_
  refine w_if_lt (tgt := 10) 1 hX dX9_putHill_1 (by decide) (fun c1 => ?_) (fun c1 => ?_)
  · have h := it h c1
    refine w_iconst 0 10 hX ic_0 dX9_putHill_10 ?_
    exact w_zret 11 hX hR (by decide) dX9_putHill_11 (by cases h; rfl)
  · have h := ie h c1
    refine w_iload_n 1 4 hX rfl rfl dX9_putHill_4 ?_
    refine w_bipush 16 5 hX ib_16 dX9_putHill_5 ?_
    refine w_icmp_lt (tgt := 12) 7 hX dX9_putHill_7 (by decide) (fun c2 => ?_) (fun c2 => ?_)
    · have h := it h c2
      refine w_aload_n 0 12 hX rfl rfl dX9_putHill_12 ?_
      refine w_iload_n 2 13 hX rfl rfl dX9_putHill_13 ?_
      refine w_iconst 1 14 hX ic_1 dX9_putHill_14 ?_
      refine w_icmp_ne (tgt := 29) 15 hX dX9_putHill_15 (by decide) (fun c3 => ?_) (fun c3 => ?_)
      · have h := ie h c3
        refine w_aload_n 0 29 hX rfl rfl dX9_putHill_29 ?_
        refine w_getI (j := 10) 30 hX CI_9 s_1 rfl fl_X9_68 rfl dX9_putHill_30 ?_
        refine w_iconst 1 33 hX ic_1 dX9_putHill_33 ?_
        refine w_iload_n 1 34 hX rfl rfl dX9_putHill_34 ?_
        refine w_ishl 35 hX dX9_putHill_35 ?_
        refine w_iconst (-1) 36 hX ic_m1 dX9_putHill_36 ?_
        refine w_ixor 37 hX dX9_putHill_37 ?_
        refine w_iand 38 hX dX9_putHill_38 ?_
        exact w_sub [] rfl (bX9_putHill_1_39 hX hR ((u 1 10) &&& (((1 : Int32) <<< (p1 &&& 31)) ^^^ (-1))) u h)
      · have h := it h c3
        refine w_aload_n 0 18 hX rfl rfl dX9_putHill_18 ?_
        refine w_getI (j := 10) 19 hX CI_9 s_1 rfl fl_X9_68 rfl dX9_putHill_19 ?_
        refine w_iconst 1 22 hX ic_1 dX9_putHill_22 ?_
        refine w_iload_n 1 23 hX rfl rfl dX9_putHill_23 ?_
        refine w_ishl 24 hX dX9_putHill_24 ?_
        refine w_ior 25 hX dX9_putHill_25 ?_
        refine w_goto (tgt := 39) 26 hX (by decide) dX9_putHill_26 ?_
        exact w_sub [] rfl (bX9_putHill_1_39 hX hR ((u 1 10) ||| ((1 : Int32) <<< (p1 &&& 31))) u h)
    · have h := ie h c2
      refine w_iconst 0 10 hX ic_0 dX9_putHill_10 ?_
      exact w_zret 11 hX hR (by decide) dX9_putHill_11 (by cases h; rfl))
def FX9_put_1 (p1 p2 p3 : Int32) (u : Mem) : Option (Int32 × Mem) :=
  (if p3 < 0 then (some (0, u)) else ((FX9_mostOf p1).bind fun x2 => (if p3 ≤ x2 then ((if p1 = 0 then ((some (mupd u 1 7 p3)).bind fun u5 => some (1, u5)) else ((if p1 = 1 then ((some (mupd u 1 8 p3)).bind fun u7 => some (1, u7)) else ((if p1 = 2 then ((some (mupd u 1 9 p3)).bind fun u9 => some (1, u9)) else ((if p1 = 3 then (bnd2 (FX9_putWant_1 p2 p3 u) fun x11 u12 => (bchk x11).bind fun x13 => some (x13, u12)) else ((if p1 = 4 then (bnd2 (FX9_putHill_1 p2 p3 u) fun x15 u16 => (bchk x15).bind fun x17 => some (x17, u16)) else (some (0, u)))))))))))) else (some (0, u)))))
theorem CX9_put_1 {G : Gt} (p1 p2 p3 : Int32) (u : Mem) {v : Int32} {u' : Mem} (h : FX9_put_1 p1 p2 p3 u = some (v, u')) : CT G yX9_put cX9_put 4 (some .boolean) 3 [.ref 1, .int p1, .int p2, .int p3] SH RHO u (some (.int v), SH, RHO, u') :=
  ct_of (by decide) rfl (Nat.le_of_ble_eq_true rfl) (Nat.le_refl _) (Nat.le_refl _) (fun X hX hR => by
  unfold FX9_put_1 at h
  refine w_iload_n 3 0 hX rfl rfl dX9_put_0 ?_
  refine w_if_lt (tgt := 12) 1 hX dX9_put_1 (by decide) (fun c1 => ?_) (fun c1 => ?_)
  · have h := it h c1
    refine w_iconst 0 12 hX ic_0 dX9_put_12 ?_
    exact w_zret 13 hX hR (by decide) dX9_put_13 (by cases h; rfl)
  · have h := ie h c1
    refine w_iload_n 3 4 hX rfl rfl dX9_put_4 ?_
    refine w_iload_n 1 5 hX rfl rfl dX9_put_5 ?_
    obtain ⟨x2, gx2, h⟩ := o_bind h
    refine w_invSi (av := [.int p1]) (st := [.int p3]) 6 hX ms_yX9_mostOf mi_yX9_mostOf ml_X9_91 (CX9_mostOf p1 u gx2) rfl (by decide) (Nat.le_of_ble_eq_true rfl) (Nat.le_refl _) (Nat.le_refl _) dX9_put_6 ?_
    refine w_icmp_le (tgt := 14) 9 hX dX9_put_9 (by decide) (fun c3 => ?_) (fun c3 => ?_)
    · have h := it h c3
      refine w_iload_n 1 14 hX rfl rfl dX9_put_14 ?_
      by_cases c4 : p1 = 0
      · have h := it h c4
        refine w_tabIn (tgt := 48) (off := 33) 15 hX dX9_put_15 (by rw [c4]; decide) (by rw [c4]; decide) (by rw [c4]; decide) (by decide) ?_
        refine w_aload_n 0 48 hX rfl rfl dX9_put_48 ?_
        refine w_iload_n 3 49 hX rfl rfl dX9_put_49 ?_
        obtain ⟨u5, gu5, h⟩ := o_bind h
        refine w_putI (j := 7) 50 hX CI_9 s_1 rfl fl_X9_30 rfl rfl rfl rfl dX9_put_50 ?_
        rw [Option.some.inj gu5]
        refine w_iconst 1 53 hX ic_1 dX9_put_53 ?_
        exact w_zret 54 hX hR (by decide) dX9_put_54 (by cases h; rfl)
      · have h := ie h c4
        by_cases c6 : p1 = 1
        · have h := it h c6
          refine w_tabIn (tgt := 55) (off := 40) 15 hX dX9_put_15 (by rw [c6]; decide) (by rw [c6]; decide) (by rw [c6]; decide) (by decide) ?_
          refine w_aload_n 0 55 hX rfl rfl dX9_put_55 ?_
          refine w_iload_n 3 56 hX rfl rfl dX9_put_56 ?_
          obtain ⟨u7, gu7, h⟩ := o_bind h
          refine w_putI (j := 8) 57 hX CI_9 s_1 rfl fl_X9_65 rfl rfl rfl rfl dX9_put_57 ?_
          rw [Option.some.inj gu7]
          refine w_iconst 1 60 hX ic_1 dX9_put_60 ?_
          exact w_zret 61 hX hR (by decide) dX9_put_61 (by cases h; rfl)
        · have h := ie h c6
          by_cases c8 : p1 = 2
          · have h := it h c8
            refine w_tabIn (tgt := 62) (off := 47) 15 hX dX9_put_15 (by rw [c8]; decide) (by rw [c8]; decide) (by rw [c8]; decide) (by decide) ?_
            refine w_aload_n 0 62 hX rfl rfl dX9_put_62 ?_
            refine w_iload_n 3 63 hX rfl rfl dX9_put_63 ?_
            obtain ⟨u9, gu9, h⟩ := o_bind h
            refine w_putI (j := 9) 64 hX CI_9 s_1 rfl fl_X9_34 rfl rfl rfl rfl dX9_put_64 ?_
            rw [Option.some.inj gu9]
            refine w_iconst 1 67 hX ic_1 dX9_put_67 ?_
            exact w_zret 68 hX hR (by decide) dX9_put_68 (by cases h; rfl)
          · have h := ie h c8
            by_cases c10 : p1 = 3
            · have h := it h c10
              refine w_tabIn (tgt := 69) (off := 54) 15 hX dX9_put_15 (by rw [c10]; decide) (by rw [c10]; decide) (by rw [c10]; decide) (by decide) ?_
              refine w_aload_n 0 69 hX rfl rfl dX9_put_69 ?_
              refine w_iload_n 2 70 hX rfl rfl dX9_put_70 ?_
              refine w_iload_n 3 71 hX rfl rfl dX9_put_71 ?_
              obtain ⟨x11, u12, gx11, h⟩ := o_bnd2 h
              refine w_invVi (av := [.int p2, .int p3]) (st := []) 72 hX CI_9 s_1 rfl mv_yX9_putWant mi_yX9_putWant ml_X9_95 (CX9_putWant_1 p2 p3 u gx11) rfl (by decide) (Nat.le_of_ble_eq_true rfl) (Nat.le_refl _) (Nat.le_refl _) dX9_put_72 ?_
              obtain ⟨x13, gx13, h⟩ := o_bind h
              obtain ⟨jx13, nx13, mx13⟩ := bchk_ok gx13
              rw [jx13]
              exact w_zret 75 hX hR nx13 dX9_put_75 (by cases h; rfl)
            · have h := ie h c10
              by_cases c14 : p1 = 4
              · have h := it h c14
                refine w_tabIn (tgt := 76) (off := 61) 15 hX dX9_put_15 (by rw [c14]; decide) (by rw [c14]; decide) (by rw [c14]; decide) (by decide) ?_
                refine w_aload_n 0 76 hX rfl rfl dX9_put_76 ?_
                refine w_iload_n 2 77 hX rfl rfl dX9_put_77 ?_
                refine w_iload_n 3 78 hX rfl rfl dX9_put_78 ?_
                obtain ⟨x15, u16, gx15, h⟩ := o_bnd2 h
                refine w_invVi (av := [.int p2, .int p3]) (st := []) 79 hX CI_9 s_1 rfl mv_yX9_putHill mi_yX9_putHill ml_X9_99 (CX9_putHill_1 p2 p3 u gx15) rfl (by decide) (Nat.le_of_ble_eq_true rfl) (Nat.le_refl _) (Nat.le_refl _) dX9_put_79 ?_
                obtain ⟨x17, gx17, h⟩ := o_bind h
                obtain ⟨jx17, nx17, mx17⟩ := bchk_ok gx17
                rw [jx17]
                exact w_zret 82 hX hR nx17 dX9_put_82 (by cases h; rfl)
              · have h := ie h c14
                have zc4 := lv_neT c4 (a := 0) (by decide)
                have zc6 := lv_neT c6 (a := 1) (by decide)
                have zc8 := lv_neT c8 (a := 2) (by decide)
                have zc10 := lv_neT c10 (a := 3) (by decide)
                have zc14 := lv_neT c14 (a := 4) (by decide)
                refine w_tabOut (tgt := 83) 15 hX dX9_put_15 (by omega) (by decide) ?_
                refine w_iconst 0 83 hX ic_0 dX9_put_83 ?_
                exact w_zret 84 hX hR (by decide) dX9_put_84 (by cases h; rfl)
    · have h := ie h c3
      refine w_iconst 0 12 hX ic_0 dX9_put_12 ?_
      exact w_zret 13 hX hR (by decide) dX9_put_13 (by cases h; rfl))
def FX9_hasMan_1 (p1 : Int32) (u : Mem) : Option Int32 :=
  (if p1 < 0 then (some 0) else ((if (u 1 0) ≤ p1 then (some 0) else ((if 12 ≤ p1 then (some 0) else (some 1))))))
theorem CX9_hasMan_1 {G : Gt} (p1 : Int32) (u : Mem) {v : Int32} (h : FX9_hasMan_1 p1 u = some v) : CT G yX9_hasMan cX9_hasMan 2 (some .boolean) 1 [.ref 1, .int p1] SH RHO u (some (.int v), SH, RHO, u) :=
  ct_of (by decide) rfl (Nat.le_of_ble_eq_true rfl) (Nat.le_refl _) (Nat.le_refl _) (fun X hX hR => by
  unfold FX9_hasMan_1 at h
  refine w_iload_n 1 0 hX rfl rfl dX9_hasMan_0 ?_
  refine w_if_lt (tgt := 22) 1 hX dX9_hasMan_1 (by decide) (fun c1 => ?_) (fun c1 => ?_)
  · have h := it h c1
    refine w_iconst 0 22 hX ic_0 dX9_hasMan_22 ?_
    exact w_zret 23 hX hR (by decide) dX9_hasMan_23 (by cases h; rfl)
  · have h := ie h c1
    refine w_iload_n 1 4 hX rfl rfl dX9_hasMan_4 ?_
    refine w_aload_n 0 5 hX rfl rfl dX9_hasMan_5 ?_
    refine w_getI (j := 0) 6 hX CI_9 s_1 rfl fl_X9_58 rfl dX9_hasMan_6 ?_
    refine w_icmp_ge (tgt := 22) 9 hX dX9_hasMan_9 (by decide) (fun c2 => ?_) (fun c2 => ?_)
    · have h := it h c2
      refine w_iconst 0 22 hX ic_0 dX9_hasMan_22 ?_
      exact w_zret 23 hX hR (by decide) dX9_hasMan_23 (by cases h; rfl)
    · have h := ie h c2
      refine w_iload_n 1 12 hX rfl rfl dX9_hasMan_12 ?_
      refine w_bipush 12 13 hX ib_12 dX9_hasMan_13 ?_
      refine w_icmp_ge (tgt := 22) 15 hX dX9_hasMan_15 (by decide) (fun c3 => ?_) (fun c3 => ?_)
      · have h := it h c3
        refine w_iconst 0 22 hX ic_0 dX9_hasMan_22 ?_
        exact w_zret 23 hX hR (by decide) dX9_hasMan_23 (by cases h; rfl)
      · have h := ie h c3
        refine w_iconst 1 18 hX ic_1 dX9_hasMan_18 ?_
        refine w_goto (tgt := 23) 19 hX (by decide) dX9_hasMan_19 ?_
        exact w_zret 23 hX hR (by decide) dX9_hasMan_23 (by cases h; rfl))
def FX11_set_0_b122 (l4 : Int32) (u : Mem) : Option (Int32 × Mem) :=
  (bchk l4).bind fun x1 => some (x1, u)
theorem bX11_set_0_122 {G : Gt} {X : Xt} {v : Int32} {u' : Mem} (hX : CxOk G X cX11_set 5 RX11 (some (.int v), SH, RHO, u') 4) (hR : CxRet G X (some .boolean) (some (.int v), SH, RHO, u')) (l4 : Int32) (u : Mem) (h : FX11_set_0_b122 l4 u = some (v, u')) : WM G X 122 [(4, .int l4)] [] SH RHO u := by
  unfold FX11_set_0_b122 at h
  refine w_iload 0 122 hX rfl dX11_set_122 ?_
  obtain ⟨x1, gx1, h⟩ := o_bind h
  obtain ⟨jx1, nx1, mx1⟩ := bchk_ok gx1
  rw [jx1]
  exact w_zret 124 hX hR nx1 dX11_set_124 (by cases h; rfl)
def FX11_set_0_b110 (l4 : Int32) (u : Mem) : Option (Int32 × Mem) :=
  (if l4 = 0 then (FX11_set_0_b122 l4 u) else ((FX10_forgetAll_52 u).bind fun u3 => FX11_set_0_b122 l4 u3))
theorem bX11_set_0_110 {G : Gt} {X : Xt} {v : Int32} {u' : Mem} (hX : CxOk G X cX11_set 5 RX11 (some (.int v), SH, RHO, u') 4) (hR : CxRet G X (some .boolean) (some (.int v), SH, RHO, u')) (l4 : Int32) (u : Mem) (h : FX11_set_0_b110 l4 u = some (v, u')) : WM G X 110 [(0, .ref 0), (4, .int l4)] [] SH RHO u := by
  unfold FX11_set_0_b110 at h
  refine w_iload 1 110 hX rfl dX11_set_110 ?_
  refine w_if_eq (tgt := 122) 112 hX dX11_set_112 (by decide) (fun c1 => ?_) (fun c1 => ?_)
  · have h := it h c1
    exact w_sub [1] rfl (bX11_set_0_122 hX hR l4 u h)
  · have h := ie h c1
    refine w_aload_n 0 115 hX rfl rfl dX11_set_115 ?_
    refine w_getR 116 hX CI_11 s_0 rfl r_0_5 fl_X11_49 rfl dX11_set_116 ?_
    obtain ⟨u3, gu3, h⟩ := o_bind h
    refine w_invVv (av := []) (st := []) 119 hX CI_10 s_52 rfl mv_yX10_forgetAll mi_yX10_forgetAll ml_X11_88 (CX10_forgetAll_52 u gu3) rfl (by decide) (Nat.le_of_ble_eq_true rfl) (Nat.le_refl _) (Nat.le_refl _) dX11_set_119 ?_
    exact w_sub [1] rfl (bX11_set_0_122 hX hR l4 u3 h)
def FX11_set_0_b69 (l1 l2 l3 l4 : Int32) (u : Mem) : Option (Int32 × Mem) :=
  (if l1 = 6 then ((FX9_hasMan_1 l2 u).bind fun x2 => (if x2 = 0 then (FX11_set_0_b110 l4 u) else ((if l3 < 0 then (FX11_set_0_b110 l4 u) else ((if 999 < l3 then (FX11_set_0_b110 l4 u) else ((wrA u 26 12 l2 l3).bind fun u6 => FX11_set_0_b110 1 u6))))))) else (FX11_set_0_b110 l4 u))
theorem bX11_set_0_69 {G : Gt} {X : Xt} {v : Int32} {u' : Mem} (hX : CxOk G X cX11_set 5 RX11 (some (.int v), SH, RHO, u') 4) (hR : CxRet G X (some .boolean) (some (.int v), SH, RHO, u')) (l1 l2 l3 l4 : Int32) (u : Mem) (h : FX11_set_0_b69 l1 l2 l3 l4 u = some (v, u')) : WM G X 69 [(0, .ref 0), (1, .int l1), (2, .int l2), (3, .int l3), (4, .int l4)] [] SH RHO u := by
  unfold FX11_set_0_b69 at h
  refine w_iload_n 1 69 hX rfl rfl dX11_set_69 ?_
  refine w_bipush 6 70 hX ib_6 dX11_set_70 ?_
  refine w_icmp_ne (tgt := 110) 72 hX dX11_set_72 (by decide) (fun c1 => ?_) (fun c1 => ?_)
  · have h := ie h c1
    exact w_sub [0, 4] rfl (bX11_set_0_110 hX hR l4 u h)
  · have h := it h c1
    refine w_aload_n 0 75 hX rfl rfl dX11_set_75 ?_
    refine w_getR 76 hX CI_11 s_0 rfl r_0_0 fl_X11_10 rfl dX11_set_76 ?_
    refine w_iload_n 2 79 hX rfl rfl dX11_set_79 ?_
    obtain ⟨x2, gx2, h⟩ := o_bind h
    refine w_invVi (av := [.int l2]) (st := []) 80 hX CI_9 s_1 rfl mv_yX9_hasMan mi_yX9_hasMan ml_X11_119 (CX9_hasMan_1 l2 u gx2) rfl (by decide) (Nat.le_of_ble_eq_true rfl) (Nat.le_refl _) (Nat.le_refl _) dX11_set_80 ?_
    refine w_if_eq (tgt := 110) 83 hX dX11_set_83 (by decide) (fun c3 => ?_) (fun c3 => ?_)
    · have h := it h c3
      exact w_sub [0, 4] rfl (bX11_set_0_110 hX hR l4 u h)
    · have h := ie h c3
      refine w_iload_n 3 86 hX rfl rfl dX11_set_86 ?_
      refine w_if_lt (tgt := 110) 87 hX dX11_set_87 (by decide) (fun c4 => ?_) (fun c4 => ?_)
      · have h := it h c4
        exact w_sub [0, 4] rfl (bX11_set_0_110 hX hR l4 u h)
      · have h := ie h c4
        refine w_iload_n 3 90 hX rfl rfl dX11_set_90 ?_
        refine w_sipush 999 91 hX isp_999 dX11_set_91 ?_
        refine w_icmp_gt (tgt := 110) 94 hX dX11_set_94 (by decide) (fun c5 => ?_) (fun c5 => ?_)
        · have h := it h c5
          exact w_sub [0, 4] rfl (bX11_set_0_110 hX hR l4 u h)
        · have h := ie h c5
          refine w_aload_n 0 97 hX rfl rfl dX11_set_97 ?_
          refine w_getR 98 hX CI_11 s_0 rfl r_0_1 fl_X11_19 rfl dX11_set_98 ?_
          refine w_getR 101 hX CI_0 s_23 rfl r_23_2 fl_X11_125 rfl dX11_set_101 ?_
          refine w_iload_n 2 104 hX rfl rfl dX11_set_104 ?_
          refine w_iload_n 3 105 hX rfl rfl dX11_set_105 ?_
          obtain ⟨u6, gu6, h⟩ := o_bind h
          refine w_iast 106 hX s_26 gu6 dX11_set_106 ?_
          refine w_iconst 1 107 hX ic_1 dX11_set_107 ?_
          refine w_istore (lv' := [(4, .int 1), (0, .ref 0), (1, .int l1), (2, .int l2), (3, .int l3)]) 108 hX dX11_set_108 (by decide) rfl ?_
          exact w_sub [1, 0] rfl (bX11_set_0_110 hX hR 1 u6 h)
def FX11_set_0_b27 (l1 l2 l3 l4 : Int32) (u : Mem) : Option (Int32 × Mem) :=
  (if l1 = 5 then ((FX9_hasMan_1 l2 u).bind fun x2 => (if x2 = 0 then (FX11_set_0_b69 l1 l2 l3 l4 u) else ((if l3 < 0 then (FX11_set_0_b69 l1 l2 l3 l4 u) else ((if 99 < l3 then (FX11_set_0_b69 l1 l2 l3 l4 u) else ((wrA u 24 12 l2 l3).bind fun u6 => FX11_set_0_b110 1 u6))))))) else (FX11_set_0_b69 l1 l2 l3 l4 u))
theorem bX11_set_0_27 {G : Gt} {X : Xt} {v : Int32} {u' : Mem} (hX : CxOk G X cX11_set 5 RX11 (some (.int v), SH, RHO, u') 4) (hR : CxRet G X (some .boolean) (some (.int v), SH, RHO, u')) (l1 l2 l3 l4 : Int32) (u : Mem) (h : FX11_set_0_b27 l1 l2 l3 l4 u = some (v, u')) : WM G X 27 [(0, .ref 0), (1, .int l1), (2, .int l2), (3, .int l3), (4, .int l4)] [] SH RHO u := by
  unfold FX11_set_0_b27 at h
  refine w_iload_n 1 27 hX rfl rfl dX11_set_27 ?_
  refine w_iconst 5 28 hX ic_5 dX11_set_28 ?_
  refine w_icmp_ne (tgt := 69) 29 hX dX11_set_29 (by decide) (fun c1 => ?_) (fun c1 => ?_)
  · have h := ie h c1
    exact bX11_set_0_69 hX hR l1 l2 l3 l4 u h
  · have h := it h c1
    refine w_aload_n 0 32 hX rfl rfl dX11_set_32 ?_
    refine w_getR 33 hX CI_11 s_0 rfl r_0_0 fl_X11_10 rfl dX11_set_33 ?_
    refine w_iload_n 2 36 hX rfl rfl dX11_set_36 ?_
    obtain ⟨x2, gx2, h⟩ := o_bind h
    refine w_invVi (av := [.int l2]) (st := []) 37 hX CI_9 s_1 rfl mv_yX9_hasMan mi_yX9_hasMan ml_X11_119 (CX9_hasMan_1 l2 u gx2) rfl (by decide) (Nat.le_of_ble_eq_true rfl) (Nat.le_refl _) (Nat.le_refl _) dX11_set_37 ?_
    refine w_if_eq (tgt := 69) 40 hX dX11_set_40 (by decide) (fun c3 => ?_) (fun c3 => ?_)
    · have h := it h c3
      exact bX11_set_0_69 hX hR l1 l2 l3 l4 u h
    · have h := ie h c3
      refine w_iload_n 3 43 hX rfl rfl dX11_set_43 ?_
      refine w_if_lt (tgt := 69) 44 hX dX11_set_44 (by decide) (fun c4 => ?_) (fun c4 => ?_)
      · have h := it h c4
        exact bX11_set_0_69 hX hR l1 l2 l3 l4 u h
      · have h := ie h c4
        refine w_iload_n 3 47 hX rfl rfl dX11_set_47 ?_
        refine w_bipush 99 48 hX ib_99 dX11_set_48 ?_
        refine w_icmp_gt (tgt := 69) 50 hX dX11_set_50 (by decide) (fun c5 => ?_) (fun c5 => ?_)
        · have h := it h c5
          exact bX11_set_0_69 hX hR l1 l2 l3 l4 u h
        · have h := ie h c5
          refine w_aload_n 0 53 hX rfl rfl dX11_set_53 ?_
          refine w_getR 54 hX CI_11 s_0 rfl r_0_1 fl_X11_19 rfl dX11_set_54 ?_
          refine w_getR 57 hX CI_0 s_23 rfl r_23_0 fl_X11_122 rfl dX11_set_57 ?_
          refine w_iload_n 2 60 hX rfl rfl dX11_set_60 ?_
          refine w_iload_n 3 61 hX rfl rfl dX11_set_61 ?_
          obtain ⟨u6, gu6, h⟩ := o_bind h
          refine w_iast 62 hX s_24 gu6 dX11_set_62 ?_
          refine w_iconst 1 63 hX ic_1 dX11_set_63 ?_
          refine w_istore (lv' := [(4, .int 1), (0, .ref 0), (1, .int l1), (2, .int l2), (3, .int l3)]) 64 hX dX11_set_64 (by decide) rfl ?_
          refine w_goto (tgt := 110) 66 hX (by decide) dX11_set_66 ?_
          exact w_sub [1, 0] rfl (bX11_set_0_110 hX hR 1 u6 h)
def FX11_set_0 (p1 p2 p3 : Int32) (u : Mem) : Option (Int32 × Mem) :=
  (if p1 < 0 then (FX11_set_0_b27 p1 p2 p3 0 u) else ((if 4 < p1 then (FX11_set_0_b27 p1 p2 p3 0 u) else (bnd2 (FX9_put_1 p1 p2 p3 u) fun x3 u4 => FX11_set_0_b110 x3 u4))))
theorem CX11_set_0 {G : Gt} (p1 p2 p3 : Int32) (u : Mem) {v : Int32} {u' : Mem} (h : FX11_set_0 p1 p2 p3 u = some (v, u')) : CT G yX11_set cX11_set 5 (some .boolean) 4 [.ref 0, .int p1, .int p2, .int p3] SH RHO u (some (.int v), SH, RHO, u') :=
  ct_of (by decide) rfl (Nat.le_of_ble_eq_true rfl) (Nat.le_refl _) (Nat.le_refl _) (fun X hX hR => by
  unfold FX11_set_0 at h
  refine w_iconst 0 0 hX ic_0 dX11_set_0 ?_
  refine w_istore (lv' := [(4, .int 0), (0, .ref 0), (1, .int p1), (2, .int p2), (3, .int p3)]) 1 hX dX11_set_1 (by decide) rfl ?_
  refine w_iload_n 2 3 hX rfl rfl dX11_set_3 ?_
  refine w_if_lt (tgt := 27) 4 hX dX11_set_4 (by decide) (fun c1 => ?_) (fun c1 => ?_)
  · have h := it h c1
    exact w_sub [1, 2, 3, 4, 0] rfl (bX11_set_0_27 hX hR p1 p2 p3 0 u h)
  · have h := ie h c1
    refine w_iload_n 2 7 hX rfl rfl dX11_set_7 ?_
    refine w_iconst 4 8 hX ic_4 dX11_set_8 ?_
    refine w_icmp_gt (tgt := 27) 9 hX dX11_set_9 (by decide) (fun c2 => ?_) (fun c2 => ?_)
    · have h := it h c2
      exact w_sub [1, 2, 3, 4, 0] rfl (bX11_set_0_27 hX hR p1 p2 p3 0 u h)
    · have h := ie h c2
      refine w_aload_n 1 12 hX rfl rfl dX11_set_12 ?_
      refine w_getR 13 hX CI_11 s_0 rfl r_0_0 fl_X11_10 rfl dX11_set_13 ?_
      refine w_iload_n 2 16 hX rfl rfl dX11_set_16 ?_
      refine w_iload_n 3 17 hX rfl rfl dX11_set_17 ?_
      refine w_iload_n 4 18 hX rfl rfl dX11_set_18 ?_
      obtain ⟨x3, u4, gx3, h⟩ := o_bnd2 h
      refine w_invVi (av := [.int p1, .int p2, .int p3]) (st := []) 19 hX CI_9 s_1 rfl mv_yX9_put mi_yX9_put ml_X11_115 (CX9_put_1 p1 p2 p3 u gx3) rfl (by decide) (Nat.le_of_ble_eq_true rfl) (Nat.le_refl _) (Nat.le_refl _) dX11_set_19 ?_
      refine w_istore (lv' := [(4, .int x3), (0, .ref 0), (1, .int p1), (2, .int p2), (3, .int p3)]) 22 hX dX11_set_22 (by decide) rfl ?_
      refine w_goto (tgt := 110) 24 hX (by decide) dX11_set_24 ?_
      exact w_sub [1, 0] rfl (bX11_set_0_110 hX hR x3 u4 h))
def FX12_isMan_146 (p1 : Int32) (u : Mem) : Option Int32 :=
  (FX12_isIn p1 0 ((u 147 78) - 1)).bind fun x1 => (bchk x1).bind fun x2 => some x2
theorem CX12_isMan_146 {G : Gt} (p1 : Int32) (u : Mem) {v : Int32} (h : FX12_isMan_146 p1 u = some v) : CT G yX12_isMan cX12_isMan 2 (some .boolean) 2 [.ref 146, .int p1] SH RHO u (some (.int v), SH, RHO, u) :=
  ct_of (by decide) rfl (Nat.le_of_ble_eq_true rfl) (Nat.le_refl _) (Nat.le_refl _) (fun X hX hR => by
  unfold FX12_isMan_146 at h
  refine w_iload_n 1 0 hX rfl rfl dX12_isMan_0 ?_
  refine w_iconst 0 1 hX ic_0 dX12_isMan_1 ?_
  refine w_aload_n 0 2 hX rfl rfl dX12_isMan_2 ?_
  refine w_getR 3 hX CI_12 s_146 rfl r_146_0 fl_X12_7 rfl dX12_isMan_3 ?_
  refine w_bipush 78 6 hX ib_78 dX12_isMan_6 ?_
  refine w_iald 8 hX s_147 (rdK 78 78 n_78 (by decide) (by decide)) dX12_isMan_8 ?_
  refine w_iconst 1 9 hX ic_1 dX12_isMan_9 ?_
  refine w_isub 10 hX dX12_isMan_10 ?_
  obtain ⟨x1, gx1, h⟩ := o_bind h
  refine w_invSi (av := [.int p1, .int 0, .int ((u 147 78) - 1)]) (st := []) 11 hX ms_yX12_isIn mi_yX12_isIn ml_X12_54 (CX12_isIn p1 0 ((u 147 78) - 1) u gx1) rfl (by decide) (Nat.le_of_ble_eq_true rfl) (Nat.le_refl _) (Nat.le_refl _) dX12_isMan_11 ?_
  obtain ⟨x2, gx2, h⟩ := o_bind h
  obtain ⟨jx2, nx2, mx2⟩ := bchk_ok gx2
  rw [jx2]
  exact w_zret 14 hX hR nx2 dX12_isMan_14 (by cases h; rfl))
def FX12_canSet_146 (p1 p2 p3 : Int32) (u : Mem) : Option Int32 :=
  (if p1 = 0 then ((FX12_isIn p3 0 99).bind fun x2 => (bchk x2).bind fun x3 => some x3) else ((if p1 = 1 then ((FX12_isIn p3 0 9).bind fun x5 => (bchk x5).bind fun x6 => some x6) else ((if p1 = 2 then ((FX12_isIn p3 0 99).bind fun x8 => (bchk x8).bind fun x9 => some x9) else ((if p1 = 3 then ((FX12_isCountry p2).bind fun x11 => (if x11 = 0 then (some 0) else ((FX12_isIn p3 0 9).bind fun x13 => (if x13 = 0 then (some 0) else (some 1))))) else ((if p1 = 4 then ((FX12_isIn p2 0 15).bind fun x16 => (if x16 = 0 then (some 0) else ((FX12_isIn p3 0 1).bind fun x18 => (if x18 = 0 then (some 0) else (some 1))))) else ((if p1 = 5 then ((FX12_isMan_146 p2 u).bind fun x21 => (if x21 = 0 then (some 0) else ((FX12_isIn p3 0 99).bind fun x23 => (if x23 = 0 then (some 0) else (some 1))))) else ((if p1 = 6 then ((FX12_isMan_146 p2 u).bind fun x26 => (if x26 = 0 then (some 0) else ((FX12_isIn p3 0 999).bind fun x28 => (if x28 = 0 then (some 0) else (some 1))))) else (some 0))))))))))))))
theorem CX12_canSet_146 {G : Gt} (p1 p2 p3 : Int32) (u : Mem) {v : Int32} (h : FX12_canSet_146 p1 p2 p3 u = some v) : CT G yX12_canSet cX12_canSet 4 (some .boolean) 3 [.ref 146, .int p1, .int p2, .int p3] SH RHO u (some (.int v), SH, RHO, u) :=
  ct_of (by decide) rfl (Nat.le_of_ble_eq_true rfl) (Nat.le_refl _) (Nat.le_refl _) (fun X hX hR => by
  unfold FX12_canSet_146 at h
  refine w_iload_n 1 0 hX rfl rfl dX12_canSet_0 ?_
  by_cases c1 : p1 = 0
  · have h := it h c1
    refine w_tabIn (tgt := 44) (off := 43) 1 hX dX12_canSet_1 (by rw [c1]; decide) (by rw [c1]; decide) (by rw [c1]; decide) (by decide) ?_
    refine w_iload_n 3 44 hX rfl rfl dX12_canSet_44 ?_
    refine w_iconst 0 45 hX ic_0 dX12_canSet_45 ?_
    refine w_bipush 99 46 hX ib_99 dX12_canSet_46 ?_
    obtain ⟨x2, gx2, h⟩ := o_bind h
    refine w_invSi (av := [.int p3, .int 0, .int 99]) (st := []) 48 hX ms_yX12_isIn mi_yX12_isIn ml_X12_54 (CX12_isIn p3 0 99 u gx2) rfl (by decide) (Nat.le_of_ble_eq_true rfl) (Nat.le_refl _) (Nat.le_refl _) dX12_canSet_48 ?_
    obtain ⟨x3, gx3, h⟩ := o_bind h
    obtain ⟨jx3, nx3, mx3⟩ := bchk_ok gx3
    rw [jx3]
    exact w_zret 51 hX hR nx3 dX12_canSet_51 (by cases h; rfl)
  · have h := ie h c1
    by_cases c4 : p1 = 1
    · have h := it h c4
      refine w_tabIn (tgt := 52) (off := 51) 1 hX dX12_canSet_1 (by rw [c4]; decide) (by rw [c4]; decide) (by rw [c4]; decide) (by decide) ?_
      refine w_iload_n 3 52 hX rfl rfl dX12_canSet_52 ?_
      refine w_iconst 0 53 hX ic_0 dX12_canSet_53 ?_
      refine w_bipush 9 54 hX ib_9 dX12_canSet_54 ?_
      obtain ⟨x5, gx5, h⟩ := o_bind h
      refine w_invSi (av := [.int p3, .int 0, .int 9]) (st := []) 56 hX ms_yX12_isIn mi_yX12_isIn ml_X12_54 (CX12_isIn p3 0 9 u gx5) rfl (by decide) (Nat.le_of_ble_eq_true rfl) (Nat.le_refl _) (Nat.le_refl _) dX12_canSet_56 ?_
      obtain ⟨x6, gx6, h⟩ := o_bind h
      obtain ⟨jx6, nx6, mx6⟩ := bchk_ok gx6
      rw [jx6]
      exact w_zret 59 hX hR nx6 dX12_canSet_59 (by cases h; rfl)
    · have h := ie h c4
      by_cases c7 : p1 = 2
      · have h := it h c7
        refine w_tabIn (tgt := 60) (off := 59) 1 hX dX12_canSet_1 (by rw [c7]; decide) (by rw [c7]; decide) (by rw [c7]; decide) (by decide) ?_
        refine w_iload_n 3 60 hX rfl rfl dX12_canSet_60 ?_
        refine w_iconst 0 61 hX ic_0 dX12_canSet_61 ?_
        refine w_bipush 99 62 hX ib_99 dX12_canSet_62 ?_
        obtain ⟨x8, gx8, h⟩ := o_bind h
        refine w_invSi (av := [.int p3, .int 0, .int 99]) (st := []) 64 hX ms_yX12_isIn mi_yX12_isIn ml_X12_54 (CX12_isIn p3 0 99 u gx8) rfl (by decide) (Nat.le_of_ble_eq_true rfl) (Nat.le_refl _) (Nat.le_refl _) dX12_canSet_64 ?_
        obtain ⟨x9, gx9, h⟩ := o_bind h
        obtain ⟨jx9, nx9, mx9⟩ := bchk_ok gx9
        rw [jx9]
        exact w_zret 67 hX hR nx9 dX12_canSet_67 (by cases h; rfl)
      · have h := ie h c7
        by_cases c10 : p1 = 3
        · have h := it h c10
          refine w_tabIn (tgt := 68) (off := 67) 1 hX dX12_canSet_1 (by rw [c10]; decide) (by rw [c10]; decide) (by rw [c10]; decide) (by decide) ?_
          refine w_iload_n 2 68 hX rfl rfl dX12_canSet_68 ?_
          obtain ⟨x11, gx11, h⟩ := o_bind h
          refine w_invSi (av := [.int p2]) (st := []) 69 hX ms_yX12_isCountry mi_yX12_isCountry ml_X12_66 (CX12_isCountry p2 u gx11) rfl (by decide) (Nat.le_of_ble_eq_true rfl) (Nat.le_refl _) (Nat.le_refl _) dX12_canSet_69 ?_
          refine w_if_eq (tgt := 89) 72 hX dX12_canSet_72 (by decide) (fun c12 => ?_) (fun c12 => ?_)
          · have h := it h c12
            refine w_iconst 0 89 hX ic_0 dX12_canSet_89 ?_
            exact w_zret 90 hX hR (by decide) dX12_canSet_90 (by cases h; rfl)
          · have h := ie h c12
            refine w_iload_n 3 75 hX rfl rfl dX12_canSet_75 ?_
            refine w_iconst 0 76 hX ic_0 dX12_canSet_76 ?_
            refine w_bipush 9 77 hX ib_9 dX12_canSet_77 ?_
            obtain ⟨x13, gx13, h⟩ := o_bind h
            refine w_invSi (av := [.int p3, .int 0, .int 9]) (st := []) 79 hX ms_yX12_isIn mi_yX12_isIn ml_X12_54 (CX12_isIn p3 0 9 u gx13) rfl (by decide) (Nat.le_of_ble_eq_true rfl) (Nat.le_refl _) (Nat.le_refl _) dX12_canSet_79 ?_
            refine w_if_eq (tgt := 89) 82 hX dX12_canSet_82 (by decide) (fun c14 => ?_) (fun c14 => ?_)
            · have h := it h c14
              refine w_iconst 0 89 hX ic_0 dX12_canSet_89 ?_
              exact w_zret 90 hX hR (by decide) dX12_canSet_90 (by cases h; rfl)
            · have h := ie h c14
              refine w_iconst 1 85 hX ic_1 dX12_canSet_85 ?_
              refine w_goto (tgt := 90) 86 hX (by decide) dX12_canSet_86 ?_
              exact w_zret 90 hX hR (by decide) dX12_canSet_90 (by cases h; rfl)
        · have h := ie h c10
          by_cases c15 : p1 = 4
          · have h := it h c15
            refine w_tabIn (tgt := 91) (off := 90) 1 hX dX12_canSet_1 (by rw [c15]; decide) (by rw [c15]; decide) (by rw [c15]; decide) (by decide) ?_
            refine w_iload_n 2 91 hX rfl rfl dX12_canSet_91 ?_
            refine w_iconst 0 92 hX ic_0 dX12_canSet_92 ?_
            refine w_bipush 15 93 hX ib_15 dX12_canSet_93 ?_
            obtain ⟨x16, gx16, h⟩ := o_bind h
            refine w_invSi (av := [.int p2, .int 0, .int 15]) (st := []) 95 hX ms_yX12_isIn mi_yX12_isIn ml_X12_54 (CX12_isIn p2 0 15 u gx16) rfl (by decide) (Nat.le_of_ble_eq_true rfl) (Nat.le_refl _) (Nat.le_refl _) dX12_canSet_95 ?_
            refine w_if_eq (tgt := 114) 98 hX dX12_canSet_98 (by decide) (fun c17 => ?_) (fun c17 => ?_)
            · have h := it h c17
              refine w_iconst 0 114 hX ic_0 dX12_canSet_114 ?_
              exact w_zret 115 hX hR (by decide) dX12_canSet_115 (by cases h; rfl)
            · have h := ie h c17
              refine w_iload_n 3 101 hX rfl rfl dX12_canSet_101 ?_
              refine w_iconst 0 102 hX ic_0 dX12_canSet_102 ?_
              refine w_iconst 1 103 hX ic_1 dX12_canSet_103 ?_
              obtain ⟨x18, gx18, h⟩ := o_bind h
              refine w_invSi (av := [.int p3, .int 0, .int 1]) (st := []) 104 hX ms_yX12_isIn mi_yX12_isIn ml_X12_54 (CX12_isIn p3 0 1 u gx18) rfl (by decide) (Nat.le_of_ble_eq_true rfl) (Nat.le_refl _) (Nat.le_refl _) dX12_canSet_104 ?_
              refine w_if_eq (tgt := 114) 107 hX dX12_canSet_107 (by decide) (fun c19 => ?_) (fun c19 => ?_)
              · have h := it h c19
                refine w_iconst 0 114 hX ic_0 dX12_canSet_114 ?_
                exact w_zret 115 hX hR (by decide) dX12_canSet_115 (by cases h; rfl)
              · have h := ie h c19
                refine w_iconst 1 110 hX ic_1 dX12_canSet_110 ?_
                refine w_goto (tgt := 115) 111 hX (by decide) dX12_canSet_111 ?_
                exact w_zret 115 hX hR (by decide) dX12_canSet_115 (by cases h; rfl)
          · have h := ie h c15
            by_cases c20 : p1 = 5
            · have h := it h c20
              refine w_tabIn (tgt := 116) (off := 115) 1 hX dX12_canSet_1 (by rw [c20]; decide) (by rw [c20]; decide) (by rw [c20]; decide) (by decide) ?_
              refine w_aload_n 0 116 hX rfl rfl dX12_canSet_116 ?_
              refine w_iload_n 2 117 hX rfl rfl dX12_canSet_117 ?_
              obtain ⟨x21, gx21, h⟩ := o_bind h
              refine w_invVi (av := [.int p2]) (st := []) 118 hX CI_12 s_146 rfl mv_yX12_isMan mi_yX12_isMan ml_X12_70 (CX12_isMan_146 p2 u gx21) rfl (by decide) (Nat.le_of_ble_eq_true rfl) (Nat.le_refl _) (Nat.le_refl _) dX12_canSet_118 ?_
              refine w_if_eq (tgt := 138) 121 hX dX12_canSet_121 (by decide) (fun c22 => ?_) (fun c22 => ?_)
              · have h := it h c22
                refine w_iconst 0 138 hX ic_0 dX12_canSet_138 ?_
                exact w_zret 139 hX hR (by decide) dX12_canSet_139 (by cases h; rfl)
              · have h := ie h c22
                refine w_iload_n 3 124 hX rfl rfl dX12_canSet_124 ?_
                refine w_iconst 0 125 hX ic_0 dX12_canSet_125 ?_
                refine w_bipush 99 126 hX ib_99 dX12_canSet_126 ?_
                obtain ⟨x23, gx23, h⟩ := o_bind h
                refine w_invSi (av := [.int p3, .int 0, .int 99]) (st := []) 128 hX ms_yX12_isIn mi_yX12_isIn ml_X12_54 (CX12_isIn p3 0 99 u gx23) rfl (by decide) (Nat.le_of_ble_eq_true rfl) (Nat.le_refl _) (Nat.le_refl _) dX12_canSet_128 ?_
                refine w_if_eq (tgt := 138) 131 hX dX12_canSet_131 (by decide) (fun c24 => ?_) (fun c24 => ?_)
                · have h := it h c24
                  refine w_iconst 0 138 hX ic_0 dX12_canSet_138 ?_
                  exact w_zret 139 hX hR (by decide) dX12_canSet_139 (by cases h; rfl)
                · have h := ie h c24
                  refine w_iconst 1 134 hX ic_1 dX12_canSet_134 ?_
                  refine w_goto (tgt := 139) 135 hX (by decide) dX12_canSet_135 ?_
                  exact w_zret 139 hX hR (by decide) dX12_canSet_139 (by cases h; rfl)
            · have h := ie h c20
              by_cases c25 : p1 = 6
              · have h := it h c25
                refine w_tabIn (tgt := 140) (off := 139) 1 hX dX12_canSet_1 (by rw [c25]; decide) (by rw [c25]; decide) (by rw [c25]; decide) (by decide) ?_
                refine w_aload_n 0 140 hX rfl rfl dX12_canSet_140 ?_
                refine w_iload_n 2 141 hX rfl rfl dX12_canSet_141 ?_
                obtain ⟨x26, gx26, h⟩ := o_bind h
                refine w_invVi (av := [.int p2]) (st := []) 142 hX CI_12 s_146 rfl mv_yX12_isMan mi_yX12_isMan ml_X12_70 (CX12_isMan_146 p2 u gx26) rfl (by decide) (Nat.le_of_ble_eq_true rfl) (Nat.le_refl _) (Nat.le_refl _) dX12_canSet_142 ?_
                refine w_if_eq (tgt := 163) 145 hX dX12_canSet_145 (by decide) (fun c27 => ?_) (fun c27 => ?_)
                · have h := it h c27
                  refine w_iconst 0 163 hX ic_0 dX12_canSet_163 ?_
                  exact w_zret 164 hX hR (by decide) dX12_canSet_164 (by cases h; rfl)
                · have h := ie h c27
                  refine w_iload_n 3 148 hX rfl rfl dX12_canSet_148 ?_
                  refine w_iconst 0 149 hX ic_0 dX12_canSet_149 ?_
                  refine w_sipush 999 150 hX isp_999 dX12_canSet_150 ?_
                  obtain ⟨x28, gx28, h⟩ := o_bind h
                  refine w_invSi (av := [.int p3, .int 0, .int 999]) (st := []) 153 hX ms_yX12_isIn mi_yX12_isIn ml_X12_54 (CX12_isIn p3 0 999 u gx28) rfl (by decide) (Nat.le_of_ble_eq_true rfl) (Nat.le_refl _) (Nat.le_refl _) dX12_canSet_153 ?_
                  refine w_if_eq (tgt := 163) 156 hX dX12_canSet_156 (by decide) (fun c29 => ?_) (fun c29 => ?_)
                  · have h := it h c29
                    refine w_iconst 0 163 hX ic_0 dX12_canSet_163 ?_
                    exact w_zret 164 hX hR (by decide) dX12_canSet_164 (by cases h; rfl)
                  · have h := ie h c29
                    refine w_iconst 1 159 hX ic_1 dX12_canSet_159 ?_
                    refine w_goto (tgt := 164) 160 hX (by decide) dX12_canSet_160 ?_
                    exact w_zret 164 hX hR (by decide) dX12_canSet_164 (by cases h; rfl)
              · have h := ie h c25
                have zc1 := lv_neT c1 (a := 0) (by decide)
                have zc4 := lv_neT c4 (a := 1) (by decide)
                have zc7 := lv_neT c7 (a := 2) (by decide)
                have zc10 := lv_neT c10 (a := 3) (by decide)
                have zc15 := lv_neT c15 (a := 4) (by decide)
                have zc20 := lv_neT c20 (a := 5) (by decide)
                have zc25 := lv_neT c25 (a := 6) (by decide)
                refine w_tabOut (tgt := 165) 1 hX dX12_canSet_1 (by omega) (by decide) ?_
                refine w_iconst 0 165 hX ic_0 dX12_canSet_165 ?_
                exact w_zret 166 hX hR (by decide) dX12_canSet_166 (by cases h; rfl))
def FX12_placeOf (p0 p1 : Int32) : Option Int32 :=
  (if p0 = 0 then (some 79) else ((if p0 = 1 then (some 80) else ((if p0 = 2 then (some 81) else ((if p0 = 3 then (some (82 + p1)) else ((if p0 = 4 then (some (126 + p1)) else ((if p0 = 5 then (some (4 + p1)) else (some (28 + p1)))))))))))))
theorem CX12_placeOf {G : Gt} (p0 p1 : Int32) (u : Mem) {v : Int32} (h : FX12_placeOf p0 p1 = some v) : CT G yX12_placeOf cX12_placeOf 2 (some .int) 1 [.int p0, .int p1] SH RHO u (some (.int v), SH, RHO, u) :=
  ct_of (by decide) rfl (Nat.le_of_ble_eq_true rfl) (Nat.le_refl _) (Nat.le_refl _) (fun X hX hR => by
  unfold FX12_placeOf at h
  refine w_iload_n 0 0 hX rfl rfl dX12_placeOf_0 ?_
  by_cases c1 : p0 = 0
  · have h := it h c1
    refine w_tabIn (tgt := 40) (off := 39) 1 hX dX12_placeOf_1 (by rw [c1]; decide) (by rw [c1]; decide) (by rw [c1]; decide) (by decide) ?_
    refine w_bipush 79 40 hX ib_79 dX12_placeOf_40 ?_
    exact w_iret 42 hX hR dX12_placeOf_42 (by cases h; rfl)
  · have h := ie h c1
    by_cases c2 : p0 = 1
    · have h := it h c2
      refine w_tabIn (tgt := 43) (off := 42) 1 hX dX12_placeOf_1 (by rw [c2]; decide) (by rw [c2]; decide) (by rw [c2]; decide) (by decide) ?_
      refine w_bipush 80 43 hX ib_80 dX12_placeOf_43 ?_
      exact w_iret 45 hX hR dX12_placeOf_45 (by cases h; rfl)
    · have h := ie h c2
      by_cases c3 : p0 = 2
      · have h := it h c3
        refine w_tabIn (tgt := 46) (off := 45) 1 hX dX12_placeOf_1 (by rw [c3]; decide) (by rw [c3]; decide) (by rw [c3]; decide) (by decide) ?_
        refine w_bipush 81 46 hX ib_81 dX12_placeOf_46 ?_
        exact w_iret 48 hX hR dX12_placeOf_48 (by cases h; rfl)
      · have h := ie h c3
        by_cases c4 : p0 = 3
        · have h := it h c4
          refine w_tabIn (tgt := 49) (off := 48) 1 hX dX12_placeOf_1 (by rw [c4]; decide) (by rw [c4]; decide) (by rw [c4]; decide) (by decide) ?_
          refine w_bipush 82 49 hX ib_82 dX12_placeOf_49 ?_
          refine w_iload_n 1 51 hX rfl rfl dX12_placeOf_51 ?_
          refine w_iadd 52 hX dX12_placeOf_52 ?_
          exact w_iret 53 hX hR dX12_placeOf_53 (by cases h; rfl)
        · have h := ie h c4
          by_cases c5 : p0 = 4
          · have h := it h c5
            refine w_tabIn (tgt := 54) (off := 53) 1 hX dX12_placeOf_1 (by rw [c5]; decide) (by rw [c5]; decide) (by rw [c5]; decide) (by decide) ?_
            refine w_bipush 126 54 hX ib_126 dX12_placeOf_54 ?_
            refine w_iload_n 1 56 hX rfl rfl dX12_placeOf_56 ?_
            refine w_iadd 57 hX dX12_placeOf_57 ?_
            exact w_iret 58 hX hR dX12_placeOf_58 (by cases h; rfl)
          · have h := ie h c5
            by_cases c6 : p0 = 5
            · have h := it h c6
              refine w_tabIn (tgt := 59) (off := 58) 1 hX dX12_placeOf_1 (by rw [c6]; decide) (by rw [c6]; decide) (by rw [c6]; decide) (by decide) ?_
              refine w_iconst 4 59 hX ic_4 dX12_placeOf_59 ?_
              refine w_iload_n 1 60 hX rfl rfl dX12_placeOf_60 ?_
              refine w_iadd 61 hX dX12_placeOf_61 ?_
              exact w_iret 62 hX hR dX12_placeOf_62 (by cases h; rfl)
            · have h := ie h c6
              have zc1 := lv_neT c1 (a := 0) (by decide)
              have zc2 := lv_neT c2 (a := 1) (by decide)
              have zc3 := lv_neT c3 (a := 2) (by decide)
              have zc4 := lv_neT c4 (a := 3) (by decide)
              have zc5 := lv_neT c5 (a := 4) (by decide)
              have zc6 := lv_neT c6 (a := 5) (by decide)
              refine w_tabOut (tgt := 63) 1 hX dX12_placeOf_1 (by omega) (by decide) ?_
              refine w_bipush 28 63 hX ib_28 dX12_placeOf_63 ?_
              refine w_iload_n 1 65 hX rfl rfl dX12_placeOf_65 ?_
              refine w_iadd 66 hX dX12_placeOf_66 ?_
              exact w_iret 67 hX hR dX12_placeOf_67 (by cases h; rfl))
def FX12_set_146 (p1 p2 p3 : Int32) (u : Mem) : Option (Int32 × Mem) :=
  (FX12_canSet_146 p1 p2 p3 u).bind fun x1 => (if x1 = 0 then (some (0, u)) else ((FX12_placeOf p1 p2).bind fun x3 => (wrA u 147 1786 x3 p3).bind fun u4 => (FX12_forgetsActs_146 u4).bind fun u6 => some (1, u6)))
theorem CX12_set_146 {G : Gt} (p1 p2 p3 : Int32) (u : Mem) {v : Int32} {u' : Mem} (h : FX12_set_146 p1 p2 p3 u = some (v, u')) : CT G yX12_set cX12_set 4 (some .boolean) 4 [.ref 146, .int p1, .int p2, .int p3] SH RHO u (some (.int v), SH, RHO, u') :=
  ct_of (by decide) rfl (Nat.le_of_ble_eq_true rfl) (Nat.le_refl _) (Nat.le_refl _) (fun X hX hR => by
  unfold FX12_set_146 at h
  refine w_aload_n 0 0 hX rfl rfl dX12_set_0 ?_
  refine w_iload_n 1 1 hX rfl rfl dX12_set_1 ?_
  refine w_iload_n 2 2 hX rfl rfl dX12_set_2 ?_
  refine w_iload_n 3 3 hX rfl rfl dX12_set_3 ?_
  obtain ⟨x1, gx1, h⟩ := o_bind h
  refine w_invVi (av := [.int p1, .int p2, .int p3]) (st := []) 4 hX CI_12 s_146 rfl mv_yX12_canSet mi_yX12_canSet ml_X12_73 (CX12_canSet_146 p1 p2 p3 u gx1) rfl (by decide) (Nat.le_of_ble_eq_true rfl) (Nat.le_refl _) (Nat.le_refl _) dX12_set_4 ?_
  refine w_if_ne (tgt := 12) 7 hX dX12_set_7 (by decide) (fun c2 => ?_) (fun c2 => ?_)
  · have h := ie h c2
    refine w_aload_n 0 12 hX rfl rfl dX12_set_12 ?_
    refine w_getR 13 hX CI_12 s_146 rfl r_146_0 fl_X12_7 rfl dX12_set_13 ?_
    refine w_iload_n 1 16 hX rfl rfl dX12_set_16 ?_
    refine w_iload_n 2 17 hX rfl rfl dX12_set_17 ?_
    obtain ⟨x3, gx3, h⟩ := o_bind h
    refine w_invSi (av := [.int p1, .int p2]) (st := [.ref 147]) 18 hX ms_yX12_placeOf mi_yX12_placeOf ml_X12_76 (CX12_placeOf p1 p2 u gx3) rfl (by decide) (Nat.le_of_ble_eq_true rfl) (Nat.le_refl _) (Nat.le_refl _) dX12_set_18 ?_
    refine w_iload_n 3 21 hX rfl rfl dX12_set_21 ?_
    obtain ⟨u4, gu4, h⟩ := o_bind h
    refine w_iast 22 hX s_147 gu4 dX12_set_22 ?_
    refine w_aload_n 0 23 hX rfl rfl dX12_set_23 ?_
    obtain ⟨u6, gu6, h⟩ := o_bind h
    refine w_invVv (av := []) (st := []) 24 hX CI_12 s_146 rfl mv_yX12_forgetsActs mi_yX12_forgetsActs ml_X12_61 (CX12_forgetsActs_146 u4 gu6) rfl (by decide) (Nat.le_of_ble_eq_true rfl) (Nat.le_refl _) (Nat.le_refl _) dX12_set_24 ?_
    refine w_iconst 1 27 hX ic_1 dX12_set_27 ?_
    exact w_zret 28 hX hR (by decide) dX12_set_28 (by cases h; rfl)
  · have h := it h c2
    refine w_iconst 0 10 hX ic_0 dX12_set_10 ?_
    exact w_zret 11 hX hR (by decide) dX12_set_11 (by cases h; rfl))
def FX11_isFact (p0 : Int32) : Option Int32 :=
  (if p0 < 0 then (some 0) else ((if 8 ≤ p0 then (some 0) else (some 1))))
theorem CX11_isFact {G : Gt} (p0 : Int32) (u : Mem) {v : Int32} (h : FX11_isFact p0 = some v) : CT G yX11_isFact cX11_isFact 1 (some .boolean) 1 [.int p0] SH RHO u (some (.int v), SH, RHO, u) :=
  ct_of (by decide) rfl (Nat.le_of_ble_eq_true rfl) (Nat.le_refl _) (Nat.le_refl _) (fun X hX hR => by
  unfold FX11_isFact at h
  refine w_iload_n 0 0 hX rfl rfl dX11_isFact_0 ?_
  refine w_if_lt (tgt := 14) 1 hX dX11_isFact_1 (by decide) (fun c1 => ?_) (fun c1 => ?_)
  · have h := it h c1
    refine w_iconst 0 14 hX ic_0 dX11_isFact_14 ?_
    exact w_zret 15 hX hR (by decide) dX11_isFact_15 (by cases h; rfl)
  · have h := ie h c1
    refine w_iload_n 0 4 hX rfl rfl dX11_isFact_4 ?_
    refine w_bipush 8 5 hX ib_8 dX11_isFact_5 ?_
    refine w_icmp_ge (tgt := 14) 7 hX dX11_isFact_7 (by decide) (fun c2 => ?_) (fun c2 => ?_)
    · have h := it h c2
      refine w_iconst 0 14 hX ic_0 dX11_isFact_14 ?_
      exact w_zret 15 hX hR (by decide) dX11_isFact_15 (by cases h; rfl)
    · have h := ie h c2
      refine w_iconst 1 10 hX ic_1 dX11_isFact_10 ?_
      refine w_goto (tgt := 15) 11 hX (by decide) dX11_isFact_11 ?_
      exact w_zret 15 hX hR (by decide) dX11_isFact_15 (by cases h; rfl))
def FX11_holds (p0 p1 : Int32) : Option Int32 :=
  (if ((p0 >>> (p1 &&& 31)) &&& 1) = 1 then (some 1) else (some 0))
theorem CX11_holds {G : Gt} (p0 p1 : Int32) (u : Mem) {v : Int32} (h : FX11_holds p0 p1 = some v) : CT G yX11_holds cX11_holds 2 (some .boolean) 1 [.int p0, .int p1] SH RHO u (some (.int v), SH, RHO, u) :=
  ct_of (by decide) rfl (Nat.le_of_ble_eq_true rfl) (Nat.le_refl _) (Nat.le_refl _) (fun X hX hR => by
  unfold FX11_holds at h
  refine w_iload_n 0 0 hX rfl rfl dX11_holds_0 ?_
  refine w_iload_n 1 1 hX rfl rfl dX11_holds_1 ?_
  refine w_ishr 2 hX dX11_holds_2 ?_
  refine w_iconst 1 3 hX ic_1 dX11_holds_3 ?_
  refine w_iand 4 hX dX11_holds_4 ?_
  refine w_iconst 1 5 hX ic_1 dX11_holds_5 ?_
  refine w_icmp_ne (tgt := 13) 6 hX dX11_holds_6 (by decide) (fun c1 => ?_) (fun c1 => ?_)
  · have h := ie h c1
    refine w_iconst 0 13 hX ic_0 dX11_holds_13 ?_
    exact w_zret 14 hX hR (by decide) dX11_holds_14 (by cases h; rfl)
  · have h := it h c1
    refine w_iconst 1 9 hX ic_1 dX11_holds_9 ?_
    refine w_goto (tgt := 14) 10 hX (by decide) dX11_holds_10 ?_
    exact w_zret 14 hX hR (by decide) dX11_holds_14 (by cases h; rfl))
def FX0_knows_23 (p1 p2 : Int32) (u : Mem) : Option Int32 :=
  (if p1 < 0 then (some 0) else ((if 12 ≤ p1 then (some 0) else ((rdA u 25 12 p1).bind fun x3 => (FX11_holds x3 p2).bind fun x4 => (if x4 = 0 then (some 0) else (some 1))))))
theorem CX0_knows_23 {G : Gt} (p1 p2 : Int32) (u : Mem) {v : Int32} (h : FX0_knows_23 p1 p2 u = some v) : CT G yX0_knows cX0_knows 3 (some .boolean) 2 [.ref 23, .int p1, .int p2] SH RHO u (some (.int v), SH, RHO, u) :=
  ct_of (by decide) rfl (Nat.le_of_ble_eq_true rfl) (Nat.le_refl _) (Nat.le_refl _) (fun X hX hR => by
  unfold FX0_knows_23 at h
  refine w_iload_n 1 0 hX rfl rfl dX0_knows_0 ?_
  refine w_if_lt (tgt := 27) 1 hX dX0_knows_1 (by decide) (fun c1 => ?_) (fun c1 => ?_)
  · have h := it h c1
    refine w_iconst 0 27 hX ic_0 dX0_knows_27 ?_
    exact w_zret 28 hX hR (by decide) dX0_knows_28 (by cases h; rfl)
  · have h := ie h c1
    refine w_iload_n 1 4 hX rfl rfl dX0_knows_4 ?_
    refine w_bipush 12 5 hX ib_12 dX0_knows_5 ?_
    refine w_icmp_ge (tgt := 27) 7 hX dX0_knows_7 (by decide) (fun c2 => ?_) (fun c2 => ?_)
    · have h := it h c2
      refine w_iconst 0 27 hX ic_0 dX0_knows_27 ?_
      exact w_zret 28 hX hR (by decide) dX0_knows_28 (by cases h; rfl)
    · have h := ie h c2
      refine w_aload_n 0 10 hX rfl rfl dX0_knows_10 ?_
      refine w_getR 11 hX CI_0 s_23 rfl r_23_1 fl_X0_15 rfl dX0_knows_11 ?_
      refine w_iload_n 1 14 hX rfl rfl dX0_knows_14 ?_
      obtain ⟨x3, gx3, h⟩ := o_bind h
      refine w_iald 15 hX s_25 gx3 dX0_knows_15 ?_
      refine w_iload_n 2 16 hX rfl rfl dX0_knows_16 ?_
      obtain ⟨x4, gx4, h⟩ := o_bind h
      refine w_invSNi (av := [.int x3, .int p2]) (st := []) 17 hX ms_yX11_holds mi_yX11_holds ml_X0_47 (CX11_holds x3 p2 u gx4) rfl (by decide) (Nat.le_of_ble_eq_true rfl) (Nat.le_refl _) (Nat.le_refl _) dX0_knows_17 ?_
      refine w_if_eq (tgt := 27) 20 hX dX0_knows_20 (by decide) (fun c5 => ?_) (fun c5 => ?_)
      · have h := it h c5
        refine w_iconst 0 27 hX ic_0 dX0_knows_27 ?_
        exact w_zret 28 hX hR (by decide) dX0_knows_28 (by cases h; rfl)
      · have h := ie h c5
        refine w_iconst 1 23 hX ic_1 dX0_knows_23 ?_
        refine w_goto (tgt := 28) 24 hX (by decide) dX0_knows_24 ?_
        exact w_zret 28 hX hR (by decide) dX0_knows_28 (by cases h; rfl))
def FX0_become_54_23 (u : Mem) : Option Mem :=
  (some (cpM u 24 55 12)).bind fun u1 => (some (cpM u1 25 56 12)).bind fun u2 => (some (cpM u2 26 57 12)).bind fun u3 => (some (cpM u3 27 58 12)).bind fun u4 => (some (cpM u4 28 59 12)).bind fun u5 => (some (cpM u5 29 60 12)).bind fun u6 => (some (mupd u6 54 6 (u6 23 6))).bind fun u7 => (some (mupd u7 54 7 (u7 23 7))).bind fun u8 => (some (mupd u8 54 8 (u8 23 8))).bind fun u9 => (some (mupd u9 54 9 (u9 23 9))).bind fun u10 => some u10
theorem CX0_become_54_23 {G : Gt} (u : Mem) {u' : Mem} (h : FX0_become_54_23 u = some u') : CT G yX0_become cX0_become 2 none 3 [.ref 54, .ref 23] SH RHO u (none, SH, RHO, u') :=
  ct_of (by decide) rfl (Nat.le_of_ble_eq_true rfl) (Nat.le_refl _) (Nat.le_refl _) (fun X hX hR => by
  unfold FX0_become_54_23 at h
  refine w_aload_n 1 0 hX rfl rfl dX0_become_0 ?_
  refine w_getR 1 hX CI_0 s_23 rfl r_23_0 fl_X0_9 rfl dX0_become_1 ?_
  refine w_aload_n 0 4 hX rfl rfl dX0_become_4 ?_
  refine w_getR 5 hX CI_0 s_54 rfl r_54_0 fl_X0_9 rfl dX0_become_5 ?_
  obtain ⟨u1, gu1, h⟩ := o_bind h
  refine w_invSNv (av := [.ref 24, .ref 55]) (st := []) 8 hX ms_yX11_copy mi_yX11_copy ml_X0_34 (C_copy s_24 s_55 (by decide) (by decide) (by decide) gu1) rfl (by decide) (Nat.le_of_ble_eq_true rfl) (Nat.le_refl _) (Nat.le_refl _) dX0_become_8 ?_
  refine w_aload_n 1 11 hX rfl rfl dX0_become_11 ?_
  refine w_getR 12 hX CI_0 s_23 rfl r_23_1 fl_X0_15 rfl dX0_become_12 ?_
  refine w_aload_n 0 15 hX rfl rfl dX0_become_15 ?_
  refine w_getR 16 hX CI_0 s_54 rfl r_54_1 fl_X0_15 rfl dX0_become_16 ?_
  obtain ⟨u2, gu2, h⟩ := o_bind h
  refine w_invSNv (av := [.ref 25, .ref 56]) (st := []) 19 hX ms_yX11_copy mi_yX11_copy ml_X0_34 (C_copy s_25 s_56 (by decide) (by decide) (by decide) gu2) rfl (by decide) (Nat.le_of_ble_eq_true rfl) (Nat.le_refl _) (Nat.le_refl _) dX0_become_19 ?_
  refine w_aload_n 1 22 hX rfl rfl dX0_become_22 ?_
  refine w_getR 23 hX CI_0 s_23 rfl r_23_2 fl_X0_18 rfl dX0_become_23 ?_
  refine w_aload_n 0 26 hX rfl rfl dX0_become_26 ?_
  refine w_getR 27 hX CI_0 s_54 rfl r_54_2 fl_X0_18 rfl dX0_become_27 ?_
  obtain ⟨u3, gu3, h⟩ := o_bind h
  refine w_invSNv (av := [.ref 26, .ref 57]) (st := []) 30 hX ms_yX11_copy mi_yX11_copy ml_X0_34 (C_copy s_26 s_57 (by decide) (by decide) (by decide) gu3) rfl (by decide) (Nat.le_of_ble_eq_true rfl) (Nat.le_refl _) (Nat.le_refl _) dX0_become_30 ?_
  refine w_aload_n 1 33 hX rfl rfl dX0_become_33 ?_
  refine w_getR 34 hX CI_0 s_23 rfl r_23_3 fl_X0_21 rfl dX0_become_34 ?_
  refine w_aload_n 0 37 hX rfl rfl dX0_become_37 ?_
  refine w_getR 38 hX CI_0 s_54 rfl r_54_3 fl_X0_21 rfl dX0_become_38 ?_
  obtain ⟨u4, gu4, h⟩ := o_bind h
  refine w_invSNv (av := [.ref 27, .ref 58]) (st := []) 41 hX ms_yX11_copy mi_yX11_copy ml_X0_34 (C_copy s_27 s_58 (by decide) (by decide) (by decide) gu4) rfl (by decide) (Nat.le_of_ble_eq_true rfl) (Nat.le_refl _) (Nat.le_refl _) dX0_become_41 ?_
  refine w_aload_n 1 44 hX rfl rfl dX0_become_44 ?_
  refine w_getR 45 hX CI_0 s_23 rfl r_23_4 fl_X0_24 rfl dX0_become_45 ?_
  refine w_aload_n 0 48 hX rfl rfl dX0_become_48 ?_
  refine w_getR 49 hX CI_0 s_54 rfl r_54_4 fl_X0_24 rfl dX0_become_49 ?_
  obtain ⟨u5, gu5, h⟩ := o_bind h
  refine w_invSNv (av := [.ref 28, .ref 59]) (st := []) 52 hX ms_yX11_copy mi_yX11_copy ml_X0_34 (C_copy s_28 s_59 (by decide) (by decide) (by decide) gu5) rfl (by decide) (Nat.le_of_ble_eq_true rfl) (Nat.le_refl _) (Nat.le_refl _) dX0_become_52 ?_
  refine w_aload_n 1 55 hX rfl rfl dX0_become_55 ?_
  refine w_getR 56 hX CI_0 s_23 rfl r_23_5 fl_X0_27 rfl dX0_become_56 ?_
  refine w_aload_n 0 59 hX rfl rfl dX0_become_59 ?_
  refine w_getR 60 hX CI_0 s_54 rfl r_54_5 fl_X0_27 rfl dX0_become_60 ?_
  obtain ⟨u6, gu6, h⟩ := o_bind h
  refine w_invSNv (av := [.ref 29, .ref 60]) (st := []) 63 hX ms_yX11_copy mi_yX11_copy ml_X0_34 (C_copy s_29 s_60 (by decide) (by decide) (by decide) gu6) rfl (by decide) (Nat.le_of_ble_eq_true rfl) (Nat.le_refl _) (Nat.le_refl _) dX0_become_63 ?_
  refine w_aload_n 0 66 hX rfl rfl dX0_become_66 ?_
  refine w_aload_n 1 67 hX rfl rfl dX0_become_67 ?_
  refine w_getI (j := 6) 68 hX CI_0 s_23 rfl fl_X0_30 rfl dX0_become_68 ?_
  obtain ⟨u7, gu7, h⟩ := o_bind h
  refine w_putI (j := 6) 71 hX CI_0 s_54 rfl fl_X0_30 rfl rfl rfl rfl dX0_become_71 ?_
  rw [Option.some.inj gu7]
  refine w_aload_n 0 74 hX rfl rfl dX0_become_74 ?_
  refine w_aload_n 1 75 hX rfl rfl dX0_become_75 ?_
  refine w_getI (j := 7) 76 hX CI_0 s_23 rfl fl_X0_38 rfl dX0_become_76 ?_
  obtain ⟨u8, gu8, h⟩ := o_bind h
  refine w_putI (j := 7) 79 hX CI_0 s_54 rfl fl_X0_38 rfl rfl rfl rfl dX0_become_79 ?_
  rw [Option.some.inj gu8]
  refine w_aload_n 0 82 hX rfl rfl dX0_become_82 ?_
  refine w_aload_n 1 83 hX rfl rfl dX0_become_83 ?_
  refine w_getI (j := 8) 84 hX CI_0 s_23 rfl fl_X0_41 rfl dX0_become_84 ?_
  obtain ⟨u9, gu9, h⟩ := o_bind h
  refine w_putI (j := 8) 87 hX CI_0 s_54 rfl fl_X0_41 rfl rfl rfl rfl dX0_become_87 ?_
  rw [Option.some.inj gu9]
  refine w_aload_n 0 90 hX rfl rfl dX0_become_90 ?_
  refine w_aload_n 1 91 hX rfl rfl dX0_become_91 ?_
  refine w_getI (j := 9) 92 hX CI_0 s_23 rfl fl_X0_44 rfl dX0_become_92 ?_
  obtain ⟨u10, gu10, h⟩ := o_bind h
  refine w_putI (j := 9) 95 hX CI_0 s_54 rfl fl_X0_44 rfl rfl rfl rfl dX0_become_95 ?_
  rw [Option.some.inj gu10]
  exact w_vret 98 hX hR dX0_become_98 (by cases h; rfl))
def FX0_become_61_23 (u : Mem) : Option Mem :=
  (some (cpM u 24 62 12)).bind fun u1 => (some (cpM u1 25 63 12)).bind fun u2 => (some (cpM u2 26 64 12)).bind fun u3 => (some (cpM u3 27 65 12)).bind fun u4 => (some (cpM u4 28 66 12)).bind fun u5 => (some (cpM u5 29 67 12)).bind fun u6 => (some (mupd u6 61 6 (u6 23 6))).bind fun u7 => (some (mupd u7 61 7 (u7 23 7))).bind fun u8 => (some (mupd u8 61 8 (u8 23 8))).bind fun u9 => (some (mupd u9 61 9 (u9 23 9))).bind fun u10 => some u10
theorem CX0_become_61_23 {G : Gt} (u : Mem) {u' : Mem} (h : FX0_become_61_23 u = some u') : CT G yX0_become cX0_become 2 none 3 [.ref 61, .ref 23] SH RHO u (none, SH, RHO, u') :=
  ct_of (by decide) rfl (Nat.le_of_ble_eq_true rfl) (Nat.le_refl _) (Nat.le_refl _) (fun X hX hR => by
  unfold FX0_become_61_23 at h
  refine w_aload_n 1 0 hX rfl rfl dX0_become_0 ?_
  refine w_getR 1 hX CI_0 s_23 rfl r_23_0 fl_X0_9 rfl dX0_become_1 ?_
  refine w_aload_n 0 4 hX rfl rfl dX0_become_4 ?_
  refine w_getR 5 hX CI_0 s_61 rfl r_61_0 fl_X0_9 rfl dX0_become_5 ?_
  obtain ⟨u1, gu1, h⟩ := o_bind h
  refine w_invSNv (av := [.ref 24, .ref 62]) (st := []) 8 hX ms_yX11_copy mi_yX11_copy ml_X0_34 (C_copy s_24 s_62 (by decide) (by decide) (by decide) gu1) rfl (by decide) (Nat.le_of_ble_eq_true rfl) (Nat.le_refl _) (Nat.le_refl _) dX0_become_8 ?_
  refine w_aload_n 1 11 hX rfl rfl dX0_become_11 ?_
  refine w_getR 12 hX CI_0 s_23 rfl r_23_1 fl_X0_15 rfl dX0_become_12 ?_
  refine w_aload_n 0 15 hX rfl rfl dX0_become_15 ?_
  refine w_getR 16 hX CI_0 s_61 rfl r_61_1 fl_X0_15 rfl dX0_become_16 ?_
  obtain ⟨u2, gu2, h⟩ := o_bind h
  refine w_invSNv (av := [.ref 25, .ref 63]) (st := []) 19 hX ms_yX11_copy mi_yX11_copy ml_X0_34 (C_copy s_25 s_63 (by decide) (by decide) (by decide) gu2) rfl (by decide) (Nat.le_of_ble_eq_true rfl) (Nat.le_refl _) (Nat.le_refl _) dX0_become_19 ?_
  refine w_aload_n 1 22 hX rfl rfl dX0_become_22 ?_
  refine w_getR 23 hX CI_0 s_23 rfl r_23_2 fl_X0_18 rfl dX0_become_23 ?_
  refine w_aload_n 0 26 hX rfl rfl dX0_become_26 ?_
  refine w_getR 27 hX CI_0 s_61 rfl r_61_2 fl_X0_18 rfl dX0_become_27 ?_
  obtain ⟨u3, gu3, h⟩ := o_bind h
  refine w_invSNv (av := [.ref 26, .ref 64]) (st := []) 30 hX ms_yX11_copy mi_yX11_copy ml_X0_34 (C_copy s_26 s_64 (by decide) (by decide) (by decide) gu3) rfl (by decide) (Nat.le_of_ble_eq_true rfl) (Nat.le_refl _) (Nat.le_refl _) dX0_become_30 ?_
  refine w_aload_n 1 33 hX rfl rfl dX0_become_33 ?_
  refine w_getR 34 hX CI_0 s_23 rfl r_23_3 fl_X0_21 rfl dX0_become_34 ?_
  refine w_aload_n 0 37 hX rfl rfl dX0_become_37 ?_
  refine w_getR 38 hX CI_0 s_61 rfl r_61_3 fl_X0_21 rfl dX0_become_38 ?_
  obtain ⟨u4, gu4, h⟩ := o_bind h
  refine w_invSNv (av := [.ref 27, .ref 65]) (st := []) 41 hX ms_yX11_copy mi_yX11_copy ml_X0_34 (C_copy s_27 s_65 (by decide) (by decide) (by decide) gu4) rfl (by decide) (Nat.le_of_ble_eq_true rfl) (Nat.le_refl _) (Nat.le_refl _) dX0_become_41 ?_
  refine w_aload_n 1 44 hX rfl rfl dX0_become_44 ?_
  refine w_getR 45 hX CI_0 s_23 rfl r_23_4 fl_X0_24 rfl dX0_become_45 ?_
  refine w_aload_n 0 48 hX rfl rfl dX0_become_48 ?_
  refine w_getR 49 hX CI_0 s_61 rfl r_61_4 fl_X0_24 rfl dX0_become_49 ?_
  obtain ⟨u5, gu5, h⟩ := o_bind h
  refine w_invSNv (av := [.ref 28, .ref 66]) (st := []) 52 hX ms_yX11_copy mi_yX11_copy ml_X0_34 (C_copy s_28 s_66 (by decide) (by decide) (by decide) gu5) rfl (by decide) (Nat.le_of_ble_eq_true rfl) (Nat.le_refl _) (Nat.le_refl _) dX0_become_52 ?_
  refine w_aload_n 1 55 hX rfl rfl dX0_become_55 ?_
  refine w_getR 56 hX CI_0 s_23 rfl r_23_5 fl_X0_27 rfl dX0_become_56 ?_
  refine w_aload_n 0 59 hX rfl rfl dX0_become_59 ?_
  refine w_getR 60 hX CI_0 s_61 rfl r_61_5 fl_X0_27 rfl dX0_become_60 ?_
  obtain ⟨u6, gu6, h⟩ := o_bind h
  refine w_invSNv (av := [.ref 29, .ref 67]) (st := []) 63 hX ms_yX11_copy mi_yX11_copy ml_X0_34 (C_copy s_29 s_67 (by decide) (by decide) (by decide) gu6) rfl (by decide) (Nat.le_of_ble_eq_true rfl) (Nat.le_refl _) (Nat.le_refl _) dX0_become_63 ?_
  refine w_aload_n 0 66 hX rfl rfl dX0_become_66 ?_
  refine w_aload_n 1 67 hX rfl rfl dX0_become_67 ?_
  refine w_getI (j := 6) 68 hX CI_0 s_23 rfl fl_X0_30 rfl dX0_become_68 ?_
  obtain ⟨u7, gu7, h⟩ := o_bind h
  refine w_putI (j := 6) 71 hX CI_0 s_61 rfl fl_X0_30 rfl rfl rfl rfl dX0_become_71 ?_
  rw [Option.some.inj gu7]
  refine w_aload_n 0 74 hX rfl rfl dX0_become_74 ?_
  refine w_aload_n 1 75 hX rfl rfl dX0_become_75 ?_
  refine w_getI (j := 7) 76 hX CI_0 s_23 rfl fl_X0_38 rfl dX0_become_76 ?_
  obtain ⟨u8, gu8, h⟩ := o_bind h
  refine w_putI (j := 7) 79 hX CI_0 s_61 rfl fl_X0_38 rfl rfl rfl rfl dX0_become_79 ?_
  rw [Option.some.inj gu8]
  refine w_aload_n 0 82 hX rfl rfl dX0_become_82 ?_
  refine w_aload_n 1 83 hX rfl rfl dX0_become_83 ?_
  refine w_getI (j := 8) 84 hX CI_0 s_23 rfl fl_X0_41 rfl dX0_become_84 ?_
  obtain ⟨u9, gu9, h⟩ := o_bind h
  refine w_putI (j := 8) 87 hX CI_0 s_61 rfl fl_X0_41 rfl rfl rfl rfl dX0_become_87 ?_
  rw [Option.some.inj gu9]
  refine w_aload_n 0 90 hX rfl rfl dX0_become_90 ?_
  refine w_aload_n 1 91 hX rfl rfl dX0_become_91 ?_
  refine w_getI (j := 9) 92 hX CI_0 s_23 rfl fl_X0_44 rfl dX0_become_92 ?_
  obtain ⟨u10, gu10, h⟩ := o_bind h
  refine w_putI (j := 9) 95 hX CI_0 s_61 rfl fl_X0_44 rfl rfl rfl rfl dX0_become_95 ?_
  rw [Option.some.inj gu10]
  exact w_vret 98 hX hR dX0_become_98 (by cases h; rfl))
def FX0_become_68_23 (u : Mem) : Option Mem :=
  (some (cpM u 24 69 12)).bind fun u1 => (some (cpM u1 25 70 12)).bind fun u2 => (some (cpM u2 26 71 12)).bind fun u3 => (some (cpM u3 27 72 12)).bind fun u4 => (some (cpM u4 28 73 12)).bind fun u5 => (some (cpM u5 29 74 12)).bind fun u6 => (some (mupd u6 68 6 (u6 23 6))).bind fun u7 => (some (mupd u7 68 7 (u7 23 7))).bind fun u8 => (some (mupd u8 68 8 (u8 23 8))).bind fun u9 => (some (mupd u9 68 9 (u9 23 9))).bind fun u10 => some u10
theorem CX0_become_68_23 {G : Gt} (u : Mem) {u' : Mem} (h : FX0_become_68_23 u = some u') : CT G yX0_become cX0_become 2 none 3 [.ref 68, .ref 23] SH RHO u (none, SH, RHO, u') :=
  ct_of (by decide) rfl (Nat.le_of_ble_eq_true rfl) (Nat.le_refl _) (Nat.le_refl _) (fun X hX hR => by
  unfold FX0_become_68_23 at h
  refine w_aload_n 1 0 hX rfl rfl dX0_become_0 ?_
  refine w_getR 1 hX CI_0 s_23 rfl r_23_0 fl_X0_9 rfl dX0_become_1 ?_
  refine w_aload_n 0 4 hX rfl rfl dX0_become_4 ?_
  refine w_getR 5 hX CI_0 s_68 rfl r_68_0 fl_X0_9 rfl dX0_become_5 ?_
  obtain ⟨u1, gu1, h⟩ := o_bind h
  refine w_invSNv (av := [.ref 24, .ref 69]) (st := []) 8 hX ms_yX11_copy mi_yX11_copy ml_X0_34 (C_copy s_24 s_69 (by decide) (by decide) (by decide) gu1) rfl (by decide) (Nat.le_of_ble_eq_true rfl) (Nat.le_refl _) (Nat.le_refl _) dX0_become_8 ?_
  refine w_aload_n 1 11 hX rfl rfl dX0_become_11 ?_
  refine w_getR 12 hX CI_0 s_23 rfl r_23_1 fl_X0_15 rfl dX0_become_12 ?_
  refine w_aload_n 0 15 hX rfl rfl dX0_become_15 ?_
  refine w_getR 16 hX CI_0 s_68 rfl r_68_1 fl_X0_15 rfl dX0_become_16 ?_
  obtain ⟨u2, gu2, h⟩ := o_bind h
  refine w_invSNv (av := [.ref 25, .ref 70]) (st := []) 19 hX ms_yX11_copy mi_yX11_copy ml_X0_34 (C_copy s_25 s_70 (by decide) (by decide) (by decide) gu2) rfl (by decide) (Nat.le_of_ble_eq_true rfl) (Nat.le_refl _) (Nat.le_refl _) dX0_become_19 ?_
  refine w_aload_n 1 22 hX rfl rfl dX0_become_22 ?_
  refine w_getR 23 hX CI_0 s_23 rfl r_23_2 fl_X0_18 rfl dX0_become_23 ?_
  refine w_aload_n 0 26 hX rfl rfl dX0_become_26 ?_
  refine w_getR 27 hX CI_0 s_68 rfl r_68_2 fl_X0_18 rfl dX0_become_27 ?_
  obtain ⟨u3, gu3, h⟩ := o_bind h
  refine w_invSNv (av := [.ref 26, .ref 71]) (st := []) 30 hX ms_yX11_copy mi_yX11_copy ml_X0_34 (C_copy s_26 s_71 (by decide) (by decide) (by decide) gu3) rfl (by decide) (Nat.le_of_ble_eq_true rfl) (Nat.le_refl _) (Nat.le_refl _) dX0_become_30 ?_
  refine w_aload_n 1 33 hX rfl rfl dX0_become_33 ?_
  refine w_getR 34 hX CI_0 s_23 rfl r_23_3 fl_X0_21 rfl dX0_become_34 ?_
  refine w_aload_n 0 37 hX rfl rfl dX0_become_37 ?_
  refine w_getR 38 hX CI_0 s_68 rfl r_68_3 fl_X0_21 rfl dX0_become_38 ?_
  obtain ⟨u4, gu4, h⟩ := o_bind h
  refine w_invSNv (av := [.ref 27, .ref 72]) (st := []) 41 hX ms_yX11_copy mi_yX11_copy ml_X0_34 (C_copy s_27 s_72 (by decide) (by decide) (by decide) gu4) rfl (by decide) (Nat.le_of_ble_eq_true rfl) (Nat.le_refl _) (Nat.le_refl _) dX0_become_41 ?_
  refine w_aload_n 1 44 hX rfl rfl dX0_become_44 ?_
  refine w_getR 45 hX CI_0 s_23 rfl r_23_4 fl_X0_24 rfl dX0_become_45 ?_
  refine w_aload_n 0 48 hX rfl rfl dX0_become_48 ?_
  refine w_getR 49 hX CI_0 s_68 rfl r_68_4 fl_X0_24 rfl dX0_become_49 ?_
  obtain ⟨u5, gu5, h⟩ := o_bind h
  refine w_invSNv (av := [.ref 28, .ref 73]) (st := []) 52 hX ms_yX11_copy mi_yX11_copy ml_X0_34 (C_copy s_28 s_73 (by decide) (by decide) (by decide) gu5) rfl (by decide) (Nat.le_of_ble_eq_true rfl) (Nat.le_refl _) (Nat.le_refl _) dX0_become_52 ?_
  refine w_aload_n 1 55 hX rfl rfl dX0_become_55 ?_
  refine w_getR 56 hX CI_0 s_23 rfl r_23_5 fl_X0_27 rfl dX0_become_56 ?_
  refine w_aload_n 0 59 hX rfl rfl dX0_become_59 ?_
  refine w_getR 60 hX CI_0 s_68 rfl r_68_5 fl_X0_27 rfl dX0_become_60 ?_
  obtain ⟨u6, gu6, h⟩ := o_bind h
  refine w_invSNv (av := [.ref 29, .ref 74]) (st := []) 63 hX ms_yX11_copy mi_yX11_copy ml_X0_34 (C_copy s_29 s_74 (by decide) (by decide) (by decide) gu6) rfl (by decide) (Nat.le_of_ble_eq_true rfl) (Nat.le_refl _) (Nat.le_refl _) dX0_become_63 ?_
  refine w_aload_n 0 66 hX rfl rfl dX0_become_66 ?_
  refine w_aload_n 1 67 hX rfl rfl dX0_become_67 ?_
  refine w_getI (j := 6) 68 hX CI_0 s_23 rfl fl_X0_30 rfl dX0_become_68 ?_
  obtain ⟨u7, gu7, h⟩ := o_bind h
  refine w_putI (j := 6) 71 hX CI_0 s_68 rfl fl_X0_30 rfl rfl rfl rfl dX0_become_71 ?_
  rw [Option.some.inj gu7]
  refine w_aload_n 0 74 hX rfl rfl dX0_become_74 ?_
  refine w_aload_n 1 75 hX rfl rfl dX0_become_75 ?_
  refine w_getI (j := 7) 76 hX CI_0 s_23 rfl fl_X0_38 rfl dX0_become_76 ?_
  obtain ⟨u8, gu8, h⟩ := o_bind h
  refine w_putI (j := 7) 79 hX CI_0 s_68 rfl fl_X0_38 rfl rfl rfl rfl dX0_become_79 ?_
  rw [Option.some.inj gu8]
  refine w_aload_n 0 82 hX rfl rfl dX0_become_82 ?_
  refine w_aload_n 1 83 hX rfl rfl dX0_become_83 ?_
  refine w_getI (j := 8) 84 hX CI_0 s_23 rfl fl_X0_41 rfl dX0_become_84 ?_
  obtain ⟨u9, gu9, h⟩ := o_bind h
  refine w_putI (j := 8) 87 hX CI_0 s_68 rfl fl_X0_41 rfl rfl rfl rfl dX0_become_87 ?_
  rw [Option.some.inj gu9]
  refine w_aload_n 0 90 hX rfl rfl dX0_become_90 ?_
  refine w_aload_n 1 91 hX rfl rfl dX0_become_91 ?_
  refine w_getI (j := 9) 92 hX CI_0 s_23 rfl fl_X0_44 rfl dX0_become_92 ?_
  obtain ⟨u10, gu10, h⟩ := o_bind h
  refine w_putI (j := 9) 95 hX CI_0 s_68 rfl fl_X0_44 rfl rfl rfl rfl dX0_become_95 ?_
  rw [Option.some.inj gu10]
  exact w_vret 98 hX hR dX0_become_98 (by cases h; rfl))
def FX0_become_75_23 (u : Mem) : Option Mem :=
  (some (cpM u 24 76 12)).bind fun u1 => (some (cpM u1 25 77 12)).bind fun u2 => (some (cpM u2 26 78 12)).bind fun u3 => (some (cpM u3 27 79 12)).bind fun u4 => (some (cpM u4 28 80 12)).bind fun u5 => (some (cpM u5 29 81 12)).bind fun u6 => (some (mupd u6 75 6 (u6 23 6))).bind fun u7 => (some (mupd u7 75 7 (u7 23 7))).bind fun u8 => (some (mupd u8 75 8 (u8 23 8))).bind fun u9 => (some (mupd u9 75 9 (u9 23 9))).bind fun u10 => some u10
theorem CX0_become_75_23 {G : Gt} (u : Mem) {u' : Mem} (h : FX0_become_75_23 u = some u') : CT G yX0_become cX0_become 2 none 3 [.ref 75, .ref 23] SH RHO u (none, SH, RHO, u') :=
  ct_of (by decide) rfl (Nat.le_of_ble_eq_true rfl) (Nat.le_refl _) (Nat.le_refl _) (fun X hX hR => by
  unfold FX0_become_75_23 at h
  refine w_aload_n 1 0 hX rfl rfl dX0_become_0 ?_
  refine w_getR 1 hX CI_0 s_23 rfl r_23_0 fl_X0_9 rfl dX0_become_1 ?_
  refine w_aload_n 0 4 hX rfl rfl dX0_become_4 ?_
  refine w_getR 5 hX CI_0 s_75 rfl r_75_0 fl_X0_9 rfl dX0_become_5 ?_
  obtain ⟨u1, gu1, h⟩ := o_bind h
  refine w_invSNv (av := [.ref 24, .ref 76]) (st := []) 8 hX ms_yX11_copy mi_yX11_copy ml_X0_34 (C_copy s_24 s_76 (by decide) (by decide) (by decide) gu1) rfl (by decide) (Nat.le_of_ble_eq_true rfl) (Nat.le_refl _) (Nat.le_refl _) dX0_become_8 ?_
  refine w_aload_n 1 11 hX rfl rfl dX0_become_11 ?_
  refine w_getR 12 hX CI_0 s_23 rfl r_23_1 fl_X0_15 rfl dX0_become_12 ?_
  refine w_aload_n 0 15 hX rfl rfl dX0_become_15 ?_
  refine w_getR 16 hX CI_0 s_75 rfl r_75_1 fl_X0_15 rfl dX0_become_16 ?_
  obtain ⟨u2, gu2, h⟩ := o_bind h
  refine w_invSNv (av := [.ref 25, .ref 77]) (st := []) 19 hX ms_yX11_copy mi_yX11_copy ml_X0_34 (C_copy s_25 s_77 (by decide) (by decide) (by decide) gu2) rfl (by decide) (Nat.le_of_ble_eq_true rfl) (Nat.le_refl _) (Nat.le_refl _) dX0_become_19 ?_
  refine w_aload_n 1 22 hX rfl rfl dX0_become_22 ?_
  refine w_getR 23 hX CI_0 s_23 rfl r_23_2 fl_X0_18 rfl dX0_become_23 ?_
  refine w_aload_n 0 26 hX rfl rfl dX0_become_26 ?_
  refine w_getR 27 hX CI_0 s_75 rfl r_75_2 fl_X0_18 rfl dX0_become_27 ?_
  obtain ⟨u3, gu3, h⟩ := o_bind h
  refine w_invSNv (av := [.ref 26, .ref 78]) (st := []) 30 hX ms_yX11_copy mi_yX11_copy ml_X0_34 (C_copy s_26 s_78 (by decide) (by decide) (by decide) gu3) rfl (by decide) (Nat.le_of_ble_eq_true rfl) (Nat.le_refl _) (Nat.le_refl _) dX0_become_30 ?_
  refine w_aload_n 1 33 hX rfl rfl dX0_become_33 ?_
  refine w_getR 34 hX CI_0 s_23 rfl r_23_3 fl_X0_21 rfl dX0_become_34 ?_
  refine w_aload_n 0 37 hX rfl rfl dX0_become_37 ?_
  refine w_getR 38 hX CI_0 s_75 rfl r_75_3 fl_X0_21 rfl dX0_become_38 ?_
  obtain ⟨u4, gu4, h⟩ := o_bind h
  refine w_invSNv (av := [.ref 27, .ref 79]) (st := []) 41 hX ms_yX11_copy mi_yX11_copy ml_X0_34 (C_copy s_27 s_79 (by decide) (by decide) (by decide) gu4) rfl (by decide) (Nat.le_of_ble_eq_true rfl) (Nat.le_refl _) (Nat.le_refl _) dX0_become_41 ?_
  refine w_aload_n 1 44 hX rfl rfl dX0_become_44 ?_
  refine w_getR 45 hX CI_0 s_23 rfl r_23_4 fl_X0_24 rfl dX0_become_45 ?_
  refine w_aload_n 0 48 hX rfl rfl dX0_become_48 ?_
  refine w_getR 49 hX CI_0 s_75 rfl r_75_4 fl_X0_24 rfl dX0_become_49 ?_
  obtain ⟨u5, gu5, h⟩ := o_bind h
  refine w_invSNv (av := [.ref 28, .ref 80]) (st := []) 52 hX ms_yX11_copy mi_yX11_copy ml_X0_34 (C_copy s_28 s_80 (by decide) (by decide) (by decide) gu5) rfl (by decide) (Nat.le_of_ble_eq_true rfl) (Nat.le_refl _) (Nat.le_refl _) dX0_become_52 ?_
  refine w_aload_n 1 55 hX rfl rfl dX0_become_55 ?_
  refine w_getR 56 hX CI_0 s_23 rfl r_23_5 fl_X0_27 rfl dX0_become_56 ?_
  refine w_aload_n 0 59 hX rfl rfl dX0_become_59 ?_
  refine w_getR 60 hX CI_0 s_75 rfl r_75_5 fl_X0_27 rfl dX0_become_60 ?_
  obtain ⟨u6, gu6, h⟩ := o_bind h
  refine w_invSNv (av := [.ref 29, .ref 81]) (st := []) 63 hX ms_yX11_copy mi_yX11_copy ml_X0_34 (C_copy s_29 s_81 (by decide) (by decide) (by decide) gu6) rfl (by decide) (Nat.le_of_ble_eq_true rfl) (Nat.le_refl _) (Nat.le_refl _) dX0_become_63 ?_
  refine w_aload_n 0 66 hX rfl rfl dX0_become_66 ?_
  refine w_aload_n 1 67 hX rfl rfl dX0_become_67 ?_
  refine w_getI (j := 6) 68 hX CI_0 s_23 rfl fl_X0_30 rfl dX0_become_68 ?_
  obtain ⟨u7, gu7, h⟩ := o_bind h
  refine w_putI (j := 6) 71 hX CI_0 s_75 rfl fl_X0_30 rfl rfl rfl rfl dX0_become_71 ?_
  rw [Option.some.inj gu7]
  refine w_aload_n 0 74 hX rfl rfl dX0_become_74 ?_
  refine w_aload_n 1 75 hX rfl rfl dX0_become_75 ?_
  refine w_getI (j := 7) 76 hX CI_0 s_23 rfl fl_X0_38 rfl dX0_become_76 ?_
  obtain ⟨u8, gu8, h⟩ := o_bind h
  refine w_putI (j := 7) 79 hX CI_0 s_75 rfl fl_X0_38 rfl rfl rfl rfl dX0_become_79 ?_
  rw [Option.some.inj gu8]
  refine w_aload_n 0 82 hX rfl rfl dX0_become_82 ?_
  refine w_aload_n 1 83 hX rfl rfl dX0_become_83 ?_
  refine w_getI (j := 8) 84 hX CI_0 s_23 rfl fl_X0_41 rfl dX0_become_84 ?_
  obtain ⟨u9, gu9, h⟩ := o_bind h
  refine w_putI (j := 8) 87 hX CI_0 s_75 rfl fl_X0_41 rfl rfl rfl rfl dX0_become_87 ?_
  rw [Option.some.inj gu9]
  refine w_aload_n 0 90 hX rfl rfl dX0_become_90 ?_
  refine w_aload_n 1 91 hX rfl rfl dX0_become_91 ?_
  refine w_getI (j := 9) 92 hX CI_0 s_23 rfl fl_X0_44 rfl dX0_become_92 ?_
  obtain ⟨u10, gu10, h⟩ := o_bind h
  refine w_putI (j := 9) 95 hX CI_0 s_75 rfl fl_X0_44 rfl rfl rfl rfl dX0_become_95 ?_
  rw [Option.some.inj gu10]
  exact w_vret 98 hX hR dX0_become_98 (by cases h; rfl))
def FX0_become_82_23 (u : Mem) : Option Mem :=
  (some (cpM u 24 83 12)).bind fun u1 => (some (cpM u1 25 84 12)).bind fun u2 => (some (cpM u2 26 85 12)).bind fun u3 => (some (cpM u3 27 86 12)).bind fun u4 => (some (cpM u4 28 87 12)).bind fun u5 => (some (cpM u5 29 88 12)).bind fun u6 => (some (mupd u6 82 6 (u6 23 6))).bind fun u7 => (some (mupd u7 82 7 (u7 23 7))).bind fun u8 => (some (mupd u8 82 8 (u8 23 8))).bind fun u9 => (some (mupd u9 82 9 (u9 23 9))).bind fun u10 => some u10
theorem CX0_become_82_23 {G : Gt} (u : Mem) {u' : Mem} (h : FX0_become_82_23 u = some u') : CT G yX0_become cX0_become 2 none 3 [.ref 82, .ref 23] SH RHO u (none, SH, RHO, u') :=
  ct_of (by decide) rfl (Nat.le_of_ble_eq_true rfl) (Nat.le_refl _) (Nat.le_refl _) (fun X hX hR => by
  unfold FX0_become_82_23 at h
  refine w_aload_n 1 0 hX rfl rfl dX0_become_0 ?_
  refine w_getR 1 hX CI_0 s_23 rfl r_23_0 fl_X0_9 rfl dX0_become_1 ?_
  refine w_aload_n 0 4 hX rfl rfl dX0_become_4 ?_
  refine w_getR 5 hX CI_0 s_82 rfl r_82_0 fl_X0_9 rfl dX0_become_5 ?_
  obtain ⟨u1, gu1, h⟩ := o_bind h
  refine w_invSNv (av := [.ref 24, .ref 83]) (st := []) 8 hX ms_yX11_copy mi_yX11_copy ml_X0_34 (C_copy s_24 s_83 (by decide) (by decide) (by decide) gu1) rfl (by decide) (Nat.le_of_ble_eq_true rfl) (Nat.le_refl _) (Nat.le_refl _) dX0_become_8 ?_
  refine w_aload_n 1 11 hX rfl rfl dX0_become_11 ?_
  refine w_getR 12 hX CI_0 s_23 rfl r_23_1 fl_X0_15 rfl dX0_become_12 ?_
  refine w_aload_n 0 15 hX rfl rfl dX0_become_15 ?_
  refine w_getR 16 hX CI_0 s_82 rfl r_82_1 fl_X0_15 rfl dX0_become_16 ?_
  obtain ⟨u2, gu2, h⟩ := o_bind h
  refine w_invSNv (av := [.ref 25, .ref 84]) (st := []) 19 hX ms_yX11_copy mi_yX11_copy ml_X0_34 (C_copy s_25 s_84 (by decide) (by decide) (by decide) gu2) rfl (by decide) (Nat.le_of_ble_eq_true rfl) (Nat.le_refl _) (Nat.le_refl _) dX0_become_19 ?_
  refine w_aload_n 1 22 hX rfl rfl dX0_become_22 ?_
  refine w_getR 23 hX CI_0 s_23 rfl r_23_2 fl_X0_18 rfl dX0_become_23 ?_
  refine w_aload_n 0 26 hX rfl rfl dX0_become_26 ?_
  refine w_getR 27 hX CI_0 s_82 rfl r_82_2 fl_X0_18 rfl dX0_become_27 ?_
  obtain ⟨u3, gu3, h⟩ := o_bind h
  refine w_invSNv (av := [.ref 26, .ref 85]) (st := []) 30 hX ms_yX11_copy mi_yX11_copy ml_X0_34 (C_copy s_26 s_85 (by decide) (by decide) (by decide) gu3) rfl (by decide) (Nat.le_of_ble_eq_true rfl) (Nat.le_refl _) (Nat.le_refl _) dX0_become_30 ?_
  refine w_aload_n 1 33 hX rfl rfl dX0_become_33 ?_
  refine w_getR 34 hX CI_0 s_23 rfl r_23_3 fl_X0_21 rfl dX0_become_34 ?_
  refine w_aload_n 0 37 hX rfl rfl dX0_become_37 ?_
  refine w_getR 38 hX CI_0 s_82 rfl r_82_3 fl_X0_21 rfl dX0_become_38 ?_
  obtain ⟨u4, gu4, h⟩ := o_bind h
  refine w_invSNv (av := [.ref 27, .ref 86]) (st := []) 41 hX ms_yX11_copy mi_yX11_copy ml_X0_34 (C_copy s_27 s_86 (by decide) (by decide) (by decide) gu4) rfl (by decide) (Nat.le_of_ble_eq_true rfl) (Nat.le_refl _) (Nat.le_refl _) dX0_become_41 ?_
  refine w_aload_n 1 44 hX rfl rfl dX0_become_44 ?_
  refine w_getR 45 hX CI_0 s_23 rfl r_23_4 fl_X0_24 rfl dX0_become_45 ?_
  refine w_aload_n 0 48 hX rfl rfl dX0_become_48 ?_
  refine w_getR 49 hX CI_0 s_82 rfl r_82_4 fl_X0_24 rfl dX0_become_49 ?_
  obtain ⟨u5, gu5, h⟩ := o_bind h
  refine w_invSNv (av := [.ref 28, .ref 87]) (st := []) 52 hX ms_yX11_copy mi_yX11_copy ml_X0_34 (C_copy s_28 s_87 (by decide) (by decide) (by decide) gu5) rfl (by decide) (Nat.le_of_ble_eq_true rfl) (Nat.le_refl _) (Nat.le_refl _) dX0_become_52 ?_
  refine w_aload_n 1 55 hX rfl rfl dX0_become_55 ?_
  refine w_getR 56 hX CI_0 s_23 rfl r_23_5 fl_X0_27 rfl dX0_become_56 ?_
  refine w_aload_n 0 59 hX rfl rfl dX0_become_59 ?_
  refine w_getR 60 hX CI_0 s_82 rfl r_82_5 fl_X0_27 rfl dX0_become_60 ?_
  obtain ⟨u6, gu6, h⟩ := o_bind h
  refine w_invSNv (av := [.ref 29, .ref 88]) (st := []) 63 hX ms_yX11_copy mi_yX11_copy ml_X0_34 (C_copy s_29 s_88 (by decide) (by decide) (by decide) gu6) rfl (by decide) (Nat.le_of_ble_eq_true rfl) (Nat.le_refl _) (Nat.le_refl _) dX0_become_63 ?_
  refine w_aload_n 0 66 hX rfl rfl dX0_become_66 ?_
  refine w_aload_n 1 67 hX rfl rfl dX0_become_67 ?_
  refine w_getI (j := 6) 68 hX CI_0 s_23 rfl fl_X0_30 rfl dX0_become_68 ?_
  obtain ⟨u7, gu7, h⟩ := o_bind h
  refine w_putI (j := 6) 71 hX CI_0 s_82 rfl fl_X0_30 rfl rfl rfl rfl dX0_become_71 ?_
  rw [Option.some.inj gu7]
  refine w_aload_n 0 74 hX rfl rfl dX0_become_74 ?_
  refine w_aload_n 1 75 hX rfl rfl dX0_become_75 ?_
  refine w_getI (j := 7) 76 hX CI_0 s_23 rfl fl_X0_38 rfl dX0_become_76 ?_
  obtain ⟨u8, gu8, h⟩ := o_bind h
  refine w_putI (j := 7) 79 hX CI_0 s_82 rfl fl_X0_38 rfl rfl rfl rfl dX0_become_79 ?_
  rw [Option.some.inj gu8]
  refine w_aload_n 0 82 hX rfl rfl dX0_become_82 ?_
  refine w_aload_n 1 83 hX rfl rfl dX0_become_83 ?_
  refine w_getI (j := 8) 84 hX CI_0 s_23 rfl fl_X0_41 rfl dX0_become_84 ?_
  obtain ⟨u9, gu9, h⟩ := o_bind h
  refine w_putI (j := 8) 87 hX CI_0 s_82 rfl fl_X0_41 rfl rfl rfl rfl dX0_become_87 ?_
  rw [Option.some.inj gu9]
  refine w_aload_n 0 90 hX rfl rfl dX0_become_90 ?_
  refine w_aload_n 1 91 hX rfl rfl dX0_become_91 ?_
  refine w_getI (j := 9) 92 hX CI_0 s_23 rfl fl_X0_44 rfl dX0_become_92 ?_
  obtain ⟨u10, gu10, h⟩ := o_bind h
  refine w_putI (j := 9) 95 hX CI_0 s_82 rfl fl_X0_44 rfl rfl rfl rfl dX0_become_95 ?_
  rw [Option.some.inj gu10]
  exact w_vret 98 hX hR dX0_become_98 (by cases h; rfl))
def FX0_become_89_23 (u : Mem) : Option Mem :=
  (some (cpM u 24 90 12)).bind fun u1 => (some (cpM u1 25 91 12)).bind fun u2 => (some (cpM u2 26 92 12)).bind fun u3 => (some (cpM u3 27 93 12)).bind fun u4 => (some (cpM u4 28 94 12)).bind fun u5 => (some (cpM u5 29 95 12)).bind fun u6 => (some (mupd u6 89 6 (u6 23 6))).bind fun u7 => (some (mupd u7 89 7 (u7 23 7))).bind fun u8 => (some (mupd u8 89 8 (u8 23 8))).bind fun u9 => (some (mupd u9 89 9 (u9 23 9))).bind fun u10 => some u10
theorem CX0_become_89_23 {G : Gt} (u : Mem) {u' : Mem} (h : FX0_become_89_23 u = some u') : CT G yX0_become cX0_become 2 none 3 [.ref 89, .ref 23] SH RHO u (none, SH, RHO, u') :=
  ct_of (by decide) rfl (Nat.le_of_ble_eq_true rfl) (Nat.le_refl _) (Nat.le_refl _) (fun X hX hR => by
  unfold FX0_become_89_23 at h
  refine w_aload_n 1 0 hX rfl rfl dX0_become_0 ?_
  refine w_getR 1 hX CI_0 s_23 rfl r_23_0 fl_X0_9 rfl dX0_become_1 ?_
  refine w_aload_n 0 4 hX rfl rfl dX0_become_4 ?_
  refine w_getR 5 hX CI_0 s_89 rfl r_89_0 fl_X0_9 rfl dX0_become_5 ?_
  obtain ⟨u1, gu1, h⟩ := o_bind h
  refine w_invSNv (av := [.ref 24, .ref 90]) (st := []) 8 hX ms_yX11_copy mi_yX11_copy ml_X0_34 (C_copy s_24 s_90 (by decide) (by decide) (by decide) gu1) rfl (by decide) (Nat.le_of_ble_eq_true rfl) (Nat.le_refl _) (Nat.le_refl _) dX0_become_8 ?_
  refine w_aload_n 1 11 hX rfl rfl dX0_become_11 ?_
  refine w_getR 12 hX CI_0 s_23 rfl r_23_1 fl_X0_15 rfl dX0_become_12 ?_
  refine w_aload_n 0 15 hX rfl rfl dX0_become_15 ?_
  refine w_getR 16 hX CI_0 s_89 rfl r_89_1 fl_X0_15 rfl dX0_become_16 ?_
  obtain ⟨u2, gu2, h⟩ := o_bind h
  refine w_invSNv (av := [.ref 25, .ref 91]) (st := []) 19 hX ms_yX11_copy mi_yX11_copy ml_X0_34 (C_copy s_25 s_91 (by decide) (by decide) (by decide) gu2) rfl (by decide) (Nat.le_of_ble_eq_true rfl) (Nat.le_refl _) (Nat.le_refl _) dX0_become_19 ?_
  refine w_aload_n 1 22 hX rfl rfl dX0_become_22 ?_
  refine w_getR 23 hX CI_0 s_23 rfl r_23_2 fl_X0_18 rfl dX0_become_23 ?_
  refine w_aload_n 0 26 hX rfl rfl dX0_become_26 ?_
  refine w_getR 27 hX CI_0 s_89 rfl r_89_2 fl_X0_18 rfl dX0_become_27 ?_
  obtain ⟨u3, gu3, h⟩ := o_bind h
  refine w_invSNv (av := [.ref 26, .ref 92]) (st := []) 30 hX ms_yX11_copy mi_yX11_copy ml_X0_34 (C_copy s_26 s_92 (by decide) (by decide) (by decide) gu3) rfl (by decide) (Nat.le_of_ble_eq_true rfl) (Nat.le_refl _) (Nat.le_refl _) dX0_become_30 ?_
  refine w_aload_n 1 33 hX rfl rfl dX0_become_33 ?_
  refine w_getR 34 hX CI_0 s_23 rfl r_23_3 fl_X0_21 rfl dX0_become_34 ?_
  refine w_aload_n 0 37 hX rfl rfl dX0_become_37 ?_
  refine w_getR 38 hX CI_0 s_89 rfl r_89_3 fl_X0_21 rfl dX0_become_38 ?_
  obtain ⟨u4, gu4, h⟩ := o_bind h
  refine w_invSNv (av := [.ref 27, .ref 93]) (st := []) 41 hX ms_yX11_copy mi_yX11_copy ml_X0_34 (C_copy s_27 s_93 (by decide) (by decide) (by decide) gu4) rfl (by decide) (Nat.le_of_ble_eq_true rfl) (Nat.le_refl _) (Nat.le_refl _) dX0_become_41 ?_
  refine w_aload_n 1 44 hX rfl rfl dX0_become_44 ?_
  refine w_getR 45 hX CI_0 s_23 rfl r_23_4 fl_X0_24 rfl dX0_become_45 ?_
  refine w_aload_n 0 48 hX rfl rfl dX0_become_48 ?_
  refine w_getR 49 hX CI_0 s_89 rfl r_89_4 fl_X0_24 rfl dX0_become_49 ?_
  obtain ⟨u5, gu5, h⟩ := o_bind h
  refine w_invSNv (av := [.ref 28, .ref 94]) (st := []) 52 hX ms_yX11_copy mi_yX11_copy ml_X0_34 (C_copy s_28 s_94 (by decide) (by decide) (by decide) gu5) rfl (by decide) (Nat.le_of_ble_eq_true rfl) (Nat.le_refl _) (Nat.le_refl _) dX0_become_52 ?_
  refine w_aload_n 1 55 hX rfl rfl dX0_become_55 ?_
  refine w_getR 56 hX CI_0 s_23 rfl r_23_5 fl_X0_27 rfl dX0_become_56 ?_
  refine w_aload_n 0 59 hX rfl rfl dX0_become_59 ?_
  refine w_getR 60 hX CI_0 s_89 rfl r_89_5 fl_X0_27 rfl dX0_become_60 ?_
  obtain ⟨u6, gu6, h⟩ := o_bind h
  refine w_invSNv (av := [.ref 29, .ref 95]) (st := []) 63 hX ms_yX11_copy mi_yX11_copy ml_X0_34 (C_copy s_29 s_95 (by decide) (by decide) (by decide) gu6) rfl (by decide) (Nat.le_of_ble_eq_true rfl) (Nat.le_refl _) (Nat.le_refl _) dX0_become_63 ?_
  refine w_aload_n 0 66 hX rfl rfl dX0_become_66 ?_
  refine w_aload_n 1 67 hX rfl rfl dX0_become_67 ?_
  refine w_getI (j := 6) 68 hX CI_0 s_23 rfl fl_X0_30 rfl dX0_become_68 ?_
  obtain ⟨u7, gu7, h⟩ := o_bind h
  refine w_putI (j := 6) 71 hX CI_0 s_89 rfl fl_X0_30 rfl rfl rfl rfl dX0_become_71 ?_
  rw [Option.some.inj gu7]
  refine w_aload_n 0 74 hX rfl rfl dX0_become_74 ?_
  refine w_aload_n 1 75 hX rfl rfl dX0_become_75 ?_
  refine w_getI (j := 7) 76 hX CI_0 s_23 rfl fl_X0_38 rfl dX0_become_76 ?_
  obtain ⟨u8, gu8, h⟩ := o_bind h
  refine w_putI (j := 7) 79 hX CI_0 s_89 rfl fl_X0_38 rfl rfl rfl rfl dX0_become_79 ?_
  rw [Option.some.inj gu8]
  refine w_aload_n 0 82 hX rfl rfl dX0_become_82 ?_
  refine w_aload_n 1 83 hX rfl rfl dX0_become_83 ?_
  refine w_getI (j := 8) 84 hX CI_0 s_23 rfl fl_X0_41 rfl dX0_become_84 ?_
  obtain ⟨u9, gu9, h⟩ := o_bind h
  refine w_putI (j := 8) 87 hX CI_0 s_89 rfl fl_X0_41 rfl rfl rfl rfl dX0_become_87 ?_
  rw [Option.some.inj gu9]
  refine w_aload_n 0 90 hX rfl rfl dX0_become_90 ?_
  refine w_aload_n 1 91 hX rfl rfl dX0_become_91 ?_
  refine w_getI (j := 9) 92 hX CI_0 s_23 rfl fl_X0_44 rfl dX0_become_92 ?_
  obtain ⟨u10, gu10, h⟩ := o_bind h
  refine w_putI (j := 9) 95 hX CI_0 s_89 rfl fl_X0_44 rfl rfl rfl rfl dX0_become_95 ?_
  rw [Option.some.inj gu10]
  exact w_vret 98 hX hR dX0_become_98 (by cases h; rfl))
def FX10_remember_52_23 (u : Mem) : Option Mem :=
  (if (u 52 1) < 0 then (some u) else ((if 6 ≤ (u 52 1) then (some u) else ((if (u 52 1) = 0 then ((FX0_become_54_23 u).bind fun u5 => (rmI ((u5 52 1) + 1) 6).bind fun x6 => (some (mupd u5 52 1 x6)).bind fun u7 => (some (mupd u7 52 2 (if ((u7 52 2) + 1) < 6 then ((u7 52 2) + 1) else 6))).bind fun u8 => some u8) else ((if (u 52 1) = 1 then ((FX0_become_61_23 u).bind fun u11 => (rmI ((u11 52 1) + 1) 6).bind fun x12 => (some (mupd u11 52 1 x12)).bind fun u13 => (some (mupd u13 52 2 (if ((u13 52 2) + 1) < 6 then ((u13 52 2) + 1) else 6))).bind fun u14 => some u14) else ((if (u 52 1) = 2 then ((FX0_become_68_23 u).bind fun u17 => (rmI ((u17 52 1) + 1) 6).bind fun x18 => (some (mupd u17 52 1 x18)).bind fun u19 => (some (mupd u19 52 2 (if ((u19 52 2) + 1) < 6 then ((u19 52 2) + 1) else 6))).bind fun u20 => some u20) else ((if (u 52 1) = 3 then ((FX0_become_75_23 u).bind fun u23 => (rmI ((u23 52 1) + 1) 6).bind fun x24 => (some (mupd u23 52 1 x24)).bind fun u25 => (some (mupd u25 52 2 (if ((u25 52 2) + 1) < 6 then ((u25 52 2) + 1) else 6))).bind fun u26 => some u26) else ((if (u 52 1) = 4 then ((FX0_become_82_23 u).bind fun u29 => (rmI ((u29 52 1) + 1) 6).bind fun x30 => (some (mupd u29 52 1 x30)).bind fun u31 => (some (mupd u31 52 2 (if ((u31 52 2) + 1) < 6 then ((u31 52 2) + 1) else 6))).bind fun u32 => some u32) else ((if (u 52 1) = 5 then ((FX0_become_89_23 u).bind fun u35 => (rmI ((u35 52 1) + 1) 6).bind fun x36 => (some (mupd u35 52 1 x36)).bind fun u37 => (some (mupd u37 52 2 (if ((u37 52 2) + 1) < 6 then ((u37 52 2) + 1) else 6))).bind fun u38 => some u38) else (none))))))))))))))))
theorem CX10_remember_52_23 {G : Gt} (u : Mem) {u' : Mem} (h : FX10_remember_52_23 u = some u') : CT G yX10_remember cX10_remember 2 none 4 [.ref 52, .ref 23] SH RHO u (none, SH, RHO, u') :=
  ct_of (by decide) rfl (Nat.le_of_ble_eq_true rfl) (Nat.le_refl _) (Nat.le_refl _) (fun X hX hR => by
  unfold FX10_remember_52_23 at h
  refine w_aload_n 0 0 hX rfl rfl dX10_remember_0 ?_
  refine w_getI (j := 1) 1 hX CI_10 s_52 rfl fl_X10_20 rfl dX10_remember_1 ?_
  refine w_if_lt (tgt := 69) 4 hX dX10_remember_4 (by decide) (fun c1 => ?_) (fun c1 => ?_)
  · have h := it h c1
    exact w_vret 69 hX hR dX10_remember_69 (by cases h; rfl)
  · have h := ie h c1
    refine w_aload_n 0 7 hX rfl rfl dX10_remember_7 ?_
    refine w_getI (j := 1) 8 hX CI_10 s_52 rfl fl_X10_20 rfl dX10_remember_8 ?_
    refine w_bipush 6 11 hX ib_6 dX10_remember_11 ?_
    refine w_icmp_ge (tgt := 69) 13 hX dX10_remember_13 (by decide) (fun c2 => ?_) (fun c2 => ?_)
    · have h := it h c2
      exact w_vret 69 hX hR dX10_remember_69 (by cases h; rfl)
    · have h := ie h c2
      refine w_aload_n 0 16 hX rfl rfl dX10_remember_16 ?_
      refine w_getR 17 hX CI_10 s_52 rfl r_52_0 fl_X10_11 rfl dX10_remember_17 ?_
      refine w_aload_n 0 20 hX rfl rfl dX10_remember_20 ?_
      refine w_getI (j := 1) 21 hX CI_10 s_52 rfl fl_X10_20 rfl dX10_remember_21 ?_
      by_cases c3 : (u 52 1) = 0
      · have h := it h c3
        refine w_aald 24 hX s_53 (by rw [c3]; unfold vp_in; decide) (by rw [c3]; exact r_53_0) dX10_remember_24 ?_
        refine w_ifnull 25 hX dX10_remember_25 ?_
        refine w_aload_n 0 28 hX rfl rfl dX10_remember_28 ?_
        refine w_getR 29 hX CI_10 s_52 rfl r_52_0 fl_X10_11 rfl dX10_remember_29 ?_
        refine w_aload_n 0 32 hX rfl rfl dX10_remember_32 ?_
        refine w_getI (j := 1) 33 hX CI_10 s_52 rfl fl_X10_20 rfl dX10_remember_33 ?_
        refine w_aald 36 hX s_53 (by rw [c3]; unfold vp_in; decide) (by rw [c3]; exact r_53_0) dX10_remember_36 ?_
        refine w_aload_n 1 37 hX rfl rfl dX10_remember_37 ?_
        obtain ⟨u5, gu5, h⟩ := o_bind h
        refine w_invVv (av := [.ref 23]) (st := []) 38 hX CI_0 s_54 rfl mv_yX0_become mi_yX0_become ml_X10_23 (CX0_become_54_23 u gu5) rfl (by decide) (Nat.le_of_ble_eq_true rfl) (Nat.le_refl _) (Nat.le_refl _) dX10_remember_38 ?_
        refine w_aload_n 0 41 hX rfl rfl dX10_remember_41 ?_
        refine w_aload_n 0 42 hX rfl rfl dX10_remember_42 ?_
        refine w_getI (j := 1) 43 hX CI_10 s_52 rfl fl_X10_20 rfl dX10_remember_43 ?_
        refine w_iconst 1 46 hX ic_1 dX10_remember_46 ?_
        refine w_iadd 47 hX dX10_remember_47 ?_
        refine w_bipush 6 48 hX ib_6 dX10_remember_48 ?_
        obtain ⟨x6, gx6, h⟩ := o_bind h
        obtain ⟨qx6, jx6⟩ := rmI_ok gx6
        refine w_irem 50 hX qx6 dX10_remember_50 ?_
        rw [jx6]
        obtain ⟨u7, gu7, h⟩ := o_bind h
        refine w_putI (j := 1) 51 hX CI_10 s_52 rfl fl_X10_20 rfl rfl rfl rfl dX10_remember_51 ?_
        rw [Option.some.inj gu7]
        refine w_aload_n 0 54 hX rfl rfl dX10_remember_54 ?_
        refine w_bipush 6 55 hX ib_6 dX10_remember_55 ?_
        refine w_aload_n 0 57 hX rfl rfl dX10_remember_57 ?_
        refine w_getI (j := 2) 58 hX CI_10 s_52 rfl fl_X10_16 rfl dX10_remember_58 ?_
        refine w_iconst 1 61 hX ic_1 dX10_remember_61 ?_
        refine w_iadd 62 hX dX10_remember_62 ?_
        refine w_min 63 hX ml_X10_27 jm_min_s jm_i jm_min_c (by decide) (Nat.le_of_ble_eq_true rfl) (Nat.le_refl _) (Nat.le_refl _) dX10_remember_63 ?_
        obtain ⟨u8, gu8, h⟩ := o_bind h
        refine w_putI (j := 2) 66 hX CI_10 s_52 rfl fl_X10_16 rfl rfl rfl rfl dX10_remember_66 ?_
        rw [Option.some.inj gu8]
        exact w_vret 69 hX hR dX10_remember_69 (by cases h; rfl)
      · have h := ie h c3
        by_cases c9 : (u 52 1) = 1
        · have h := it h c9
          refine w_aald 24 hX s_53 (by rw [c9]; unfold vp_in; decide) (by rw [c9]; exact r_53_1) dX10_remember_24 ?_
          refine w_ifnull 25 hX dX10_remember_25 ?_
          refine w_aload_n 0 28 hX rfl rfl dX10_remember_28 ?_
          refine w_getR 29 hX CI_10 s_52 rfl r_52_0 fl_X10_11 rfl dX10_remember_29 ?_
          refine w_aload_n 0 32 hX rfl rfl dX10_remember_32 ?_
          refine w_getI (j := 1) 33 hX CI_10 s_52 rfl fl_X10_20 rfl dX10_remember_33 ?_
          refine w_aald 36 hX s_53 (by rw [c9]; unfold vp_in; decide) (by rw [c9]; exact r_53_1) dX10_remember_36 ?_
          refine w_aload_n 1 37 hX rfl rfl dX10_remember_37 ?_
          obtain ⟨u11, gu11, h⟩ := o_bind h
          refine w_invVv (av := [.ref 23]) (st := []) 38 hX CI_0 s_61 rfl mv_yX0_become mi_yX0_become ml_X10_23 (CX0_become_61_23 u gu11) rfl (by decide) (Nat.le_of_ble_eq_true rfl) (Nat.le_refl _) (Nat.le_refl _) dX10_remember_38 ?_
          refine w_aload_n 0 41 hX rfl rfl dX10_remember_41 ?_
          refine w_aload_n 0 42 hX rfl rfl dX10_remember_42 ?_
          refine w_getI (j := 1) 43 hX CI_10 s_52 rfl fl_X10_20 rfl dX10_remember_43 ?_
          refine w_iconst 1 46 hX ic_1 dX10_remember_46 ?_
          refine w_iadd 47 hX dX10_remember_47 ?_
          refine w_bipush 6 48 hX ib_6 dX10_remember_48 ?_
          obtain ⟨x12, gx12, h⟩ := o_bind h
          obtain ⟨qx12, jx12⟩ := rmI_ok gx12
          refine w_irem 50 hX qx12 dX10_remember_50 ?_
          rw [jx12]
          obtain ⟨u13, gu13, h⟩ := o_bind h
          refine w_putI (j := 1) 51 hX CI_10 s_52 rfl fl_X10_20 rfl rfl rfl rfl dX10_remember_51 ?_
          rw [Option.some.inj gu13]
          refine w_aload_n 0 54 hX rfl rfl dX10_remember_54 ?_
          refine w_bipush 6 55 hX ib_6 dX10_remember_55 ?_
          refine w_aload_n 0 57 hX rfl rfl dX10_remember_57 ?_
          refine w_getI (j := 2) 58 hX CI_10 s_52 rfl fl_X10_16 rfl dX10_remember_58 ?_
          refine w_iconst 1 61 hX ic_1 dX10_remember_61 ?_
          refine w_iadd 62 hX dX10_remember_62 ?_
          refine w_min 63 hX ml_X10_27 jm_min_s jm_i jm_min_c (by decide) (Nat.le_of_ble_eq_true rfl) (Nat.le_refl _) (Nat.le_refl _) dX10_remember_63 ?_
          obtain ⟨u14, gu14, h⟩ := o_bind h
          refine w_putI (j := 2) 66 hX CI_10 s_52 rfl fl_X10_16 rfl rfl rfl rfl dX10_remember_66 ?_
          rw [Option.some.inj gu14]
          exact w_vret 69 hX hR dX10_remember_69 (by cases h; rfl)
        · have h := ie h c9
          by_cases c15 : (u 52 1) = 2
          · have h := it h c15
            refine w_aald 24 hX s_53 (by rw [c15]; unfold vp_in; decide) (by rw [c15]; exact r_53_2) dX10_remember_24 ?_
            refine w_ifnull 25 hX dX10_remember_25 ?_
            refine w_aload_n 0 28 hX rfl rfl dX10_remember_28 ?_
            refine w_getR 29 hX CI_10 s_52 rfl r_52_0 fl_X10_11 rfl dX10_remember_29 ?_
            refine w_aload_n 0 32 hX rfl rfl dX10_remember_32 ?_
            refine w_getI (j := 1) 33 hX CI_10 s_52 rfl fl_X10_20 rfl dX10_remember_33 ?_
            refine w_aald 36 hX s_53 (by rw [c15]; unfold vp_in; decide) (by rw [c15]; exact r_53_2) dX10_remember_36 ?_
            refine w_aload_n 1 37 hX rfl rfl dX10_remember_37 ?_
            obtain ⟨u17, gu17, h⟩ := o_bind h
            refine w_invVv (av := [.ref 23]) (st := []) 38 hX CI_0 s_68 rfl mv_yX0_become mi_yX0_become ml_X10_23 (CX0_become_68_23 u gu17) rfl (by decide) (Nat.le_of_ble_eq_true rfl) (Nat.le_refl _) (Nat.le_refl _) dX10_remember_38 ?_
            refine w_aload_n 0 41 hX rfl rfl dX10_remember_41 ?_
            refine w_aload_n 0 42 hX rfl rfl dX10_remember_42 ?_
            refine w_getI (j := 1) 43 hX CI_10 s_52 rfl fl_X10_20 rfl dX10_remember_43 ?_
            refine w_iconst 1 46 hX ic_1 dX10_remember_46 ?_
            refine w_iadd 47 hX dX10_remember_47 ?_
            refine w_bipush 6 48 hX ib_6 dX10_remember_48 ?_
            obtain ⟨x18, gx18, h⟩ := o_bind h
            obtain ⟨qx18, jx18⟩ := rmI_ok gx18
            refine w_irem 50 hX qx18 dX10_remember_50 ?_
            rw [jx18]
            obtain ⟨u19, gu19, h⟩ := o_bind h
            refine w_putI (j := 1) 51 hX CI_10 s_52 rfl fl_X10_20 rfl rfl rfl rfl dX10_remember_51 ?_
            rw [Option.some.inj gu19]
            refine w_aload_n 0 54 hX rfl rfl dX10_remember_54 ?_
            refine w_bipush 6 55 hX ib_6 dX10_remember_55 ?_
            refine w_aload_n 0 57 hX rfl rfl dX10_remember_57 ?_
            refine w_getI (j := 2) 58 hX CI_10 s_52 rfl fl_X10_16 rfl dX10_remember_58 ?_
            refine w_iconst 1 61 hX ic_1 dX10_remember_61 ?_
            refine w_iadd 62 hX dX10_remember_62 ?_
            refine w_min 63 hX ml_X10_27 jm_min_s jm_i jm_min_c (by decide) (Nat.le_of_ble_eq_true rfl) (Nat.le_refl _) (Nat.le_refl _) dX10_remember_63 ?_
            obtain ⟨u20, gu20, h⟩ := o_bind h
            refine w_putI (j := 2) 66 hX CI_10 s_52 rfl fl_X10_16 rfl rfl rfl rfl dX10_remember_66 ?_
            rw [Option.some.inj gu20]
            exact w_vret 69 hX hR dX10_remember_69 (by cases h; rfl)
          · have h := ie h c15
            by_cases c21 : (u 52 1) = 3
            · have h := it h c21
              refine w_aald 24 hX s_53 (by rw [c21]; unfold vp_in; decide) (by rw [c21]; exact r_53_3) dX10_remember_24 ?_
              refine w_ifnull 25 hX dX10_remember_25 ?_
              refine w_aload_n 0 28 hX rfl rfl dX10_remember_28 ?_
              refine w_getR 29 hX CI_10 s_52 rfl r_52_0 fl_X10_11 rfl dX10_remember_29 ?_
              refine w_aload_n 0 32 hX rfl rfl dX10_remember_32 ?_
              refine w_getI (j := 1) 33 hX CI_10 s_52 rfl fl_X10_20 rfl dX10_remember_33 ?_
              refine w_aald 36 hX s_53 (by rw [c21]; unfold vp_in; decide) (by rw [c21]; exact r_53_3) dX10_remember_36 ?_
              refine w_aload_n 1 37 hX rfl rfl dX10_remember_37 ?_
              obtain ⟨u23, gu23, h⟩ := o_bind h
              refine w_invVv (av := [.ref 23]) (st := []) 38 hX CI_0 s_75 rfl mv_yX0_become mi_yX0_become ml_X10_23 (CX0_become_75_23 u gu23) rfl (by decide) (Nat.le_of_ble_eq_true rfl) (Nat.le_refl _) (Nat.le_refl _) dX10_remember_38 ?_
              refine w_aload_n 0 41 hX rfl rfl dX10_remember_41 ?_
              refine w_aload_n 0 42 hX rfl rfl dX10_remember_42 ?_
              refine w_getI (j := 1) 43 hX CI_10 s_52 rfl fl_X10_20 rfl dX10_remember_43 ?_
              refine w_iconst 1 46 hX ic_1 dX10_remember_46 ?_
              refine w_iadd 47 hX dX10_remember_47 ?_
              refine w_bipush 6 48 hX ib_6 dX10_remember_48 ?_
              obtain ⟨x24, gx24, h⟩ := o_bind h
              obtain ⟨qx24, jx24⟩ := rmI_ok gx24
              refine w_irem 50 hX qx24 dX10_remember_50 ?_
              rw [jx24]
              obtain ⟨u25, gu25, h⟩ := o_bind h
              refine w_putI (j := 1) 51 hX CI_10 s_52 rfl fl_X10_20 rfl rfl rfl rfl dX10_remember_51 ?_
              rw [Option.some.inj gu25]
              refine w_aload_n 0 54 hX rfl rfl dX10_remember_54 ?_
              refine w_bipush 6 55 hX ib_6 dX10_remember_55 ?_
              refine w_aload_n 0 57 hX rfl rfl dX10_remember_57 ?_
              refine w_getI (j := 2) 58 hX CI_10 s_52 rfl fl_X10_16 rfl dX10_remember_58 ?_
              refine w_iconst 1 61 hX ic_1 dX10_remember_61 ?_
              refine w_iadd 62 hX dX10_remember_62 ?_
              refine w_min 63 hX ml_X10_27 jm_min_s jm_i jm_min_c (by decide) (Nat.le_of_ble_eq_true rfl) (Nat.le_refl _) (Nat.le_refl _) dX10_remember_63 ?_
              obtain ⟨u26, gu26, h⟩ := o_bind h
              refine w_putI (j := 2) 66 hX CI_10 s_52 rfl fl_X10_16 rfl rfl rfl rfl dX10_remember_66 ?_
              rw [Option.some.inj gu26]
              exact w_vret 69 hX hR dX10_remember_69 (by cases h; rfl)
            · have h := ie h c21
              by_cases c27 : (u 52 1) = 4
              · have h := it h c27
                refine w_aald 24 hX s_53 (by rw [c27]; unfold vp_in; decide) (by rw [c27]; exact r_53_4) dX10_remember_24 ?_
                refine w_ifnull 25 hX dX10_remember_25 ?_
                refine w_aload_n 0 28 hX rfl rfl dX10_remember_28 ?_
                refine w_getR 29 hX CI_10 s_52 rfl r_52_0 fl_X10_11 rfl dX10_remember_29 ?_
                refine w_aload_n 0 32 hX rfl rfl dX10_remember_32 ?_
                refine w_getI (j := 1) 33 hX CI_10 s_52 rfl fl_X10_20 rfl dX10_remember_33 ?_
                refine w_aald 36 hX s_53 (by rw [c27]; unfold vp_in; decide) (by rw [c27]; exact r_53_4) dX10_remember_36 ?_
                refine w_aload_n 1 37 hX rfl rfl dX10_remember_37 ?_
                obtain ⟨u29, gu29, h⟩ := o_bind h
                refine w_invVv (av := [.ref 23]) (st := []) 38 hX CI_0 s_82 rfl mv_yX0_become mi_yX0_become ml_X10_23 (CX0_become_82_23 u gu29) rfl (by decide) (Nat.le_of_ble_eq_true rfl) (Nat.le_refl _) (Nat.le_refl _) dX10_remember_38 ?_
                refine w_aload_n 0 41 hX rfl rfl dX10_remember_41 ?_
                refine w_aload_n 0 42 hX rfl rfl dX10_remember_42 ?_
                refine w_getI (j := 1) 43 hX CI_10 s_52 rfl fl_X10_20 rfl dX10_remember_43 ?_
                refine w_iconst 1 46 hX ic_1 dX10_remember_46 ?_
                refine w_iadd 47 hX dX10_remember_47 ?_
                refine w_bipush 6 48 hX ib_6 dX10_remember_48 ?_
                obtain ⟨x30, gx30, h⟩ := o_bind h
                obtain ⟨qx30, jx30⟩ := rmI_ok gx30
                refine w_irem 50 hX qx30 dX10_remember_50 ?_
                rw [jx30]
                obtain ⟨u31, gu31, h⟩ := o_bind h
                refine w_putI (j := 1) 51 hX CI_10 s_52 rfl fl_X10_20 rfl rfl rfl rfl dX10_remember_51 ?_
                rw [Option.some.inj gu31]
                refine w_aload_n 0 54 hX rfl rfl dX10_remember_54 ?_
                refine w_bipush 6 55 hX ib_6 dX10_remember_55 ?_
                refine w_aload_n 0 57 hX rfl rfl dX10_remember_57 ?_
                refine w_getI (j := 2) 58 hX CI_10 s_52 rfl fl_X10_16 rfl dX10_remember_58 ?_
                refine w_iconst 1 61 hX ic_1 dX10_remember_61 ?_
                refine w_iadd 62 hX dX10_remember_62 ?_
                refine w_min 63 hX ml_X10_27 jm_min_s jm_i jm_min_c (by decide) (Nat.le_of_ble_eq_true rfl) (Nat.le_refl _) (Nat.le_refl _) dX10_remember_63 ?_
                obtain ⟨u32, gu32, h⟩ := o_bind h
                refine w_putI (j := 2) 66 hX CI_10 s_52 rfl fl_X10_16 rfl rfl rfl rfl dX10_remember_66 ?_
                rw [Option.some.inj gu32]
                exact w_vret 69 hX hR dX10_remember_69 (by cases h; rfl)
              · have h := ie h c27
                by_cases c33 : (u 52 1) = 5
                · have h := it h c33
                  refine w_aald 24 hX s_53 (by rw [c33]; unfold vp_in; decide) (by rw [c33]; exact r_53_5) dX10_remember_24 ?_
                  refine w_ifnull 25 hX dX10_remember_25 ?_
                  refine w_aload_n 0 28 hX rfl rfl dX10_remember_28 ?_
                  refine w_getR 29 hX CI_10 s_52 rfl r_52_0 fl_X10_11 rfl dX10_remember_29 ?_
                  refine w_aload_n 0 32 hX rfl rfl dX10_remember_32 ?_
                  refine w_getI (j := 1) 33 hX CI_10 s_52 rfl fl_X10_20 rfl dX10_remember_33 ?_
                  refine w_aald 36 hX s_53 (by rw [c33]; unfold vp_in; decide) (by rw [c33]; exact r_53_5) dX10_remember_36 ?_
                  refine w_aload_n 1 37 hX rfl rfl dX10_remember_37 ?_
                  obtain ⟨u35, gu35, h⟩ := o_bind h
                  refine w_invVv (av := [.ref 23]) (st := []) 38 hX CI_0 s_89 rfl mv_yX0_become mi_yX0_become ml_X10_23 (CX0_become_89_23 u gu35) rfl (by decide) (Nat.le_of_ble_eq_true rfl) (Nat.le_refl _) (Nat.le_refl _) dX10_remember_38 ?_
                  refine w_aload_n 0 41 hX rfl rfl dX10_remember_41 ?_
                  refine w_aload_n 0 42 hX rfl rfl dX10_remember_42 ?_
                  refine w_getI (j := 1) 43 hX CI_10 s_52 rfl fl_X10_20 rfl dX10_remember_43 ?_
                  refine w_iconst 1 46 hX ic_1 dX10_remember_46 ?_
                  refine w_iadd 47 hX dX10_remember_47 ?_
                  refine w_bipush 6 48 hX ib_6 dX10_remember_48 ?_
                  obtain ⟨x36, gx36, h⟩ := o_bind h
                  obtain ⟨qx36, jx36⟩ := rmI_ok gx36
                  refine w_irem 50 hX qx36 dX10_remember_50 ?_
                  rw [jx36]
                  obtain ⟨u37, gu37, h⟩ := o_bind h
                  refine w_putI (j := 1) 51 hX CI_10 s_52 rfl fl_X10_20 rfl rfl rfl rfl dX10_remember_51 ?_
                  rw [Option.some.inj gu37]
                  refine w_aload_n 0 54 hX rfl rfl dX10_remember_54 ?_
                  refine w_bipush 6 55 hX ib_6 dX10_remember_55 ?_
                  refine w_aload_n 0 57 hX rfl rfl dX10_remember_57 ?_
                  refine w_getI (j := 2) 58 hX CI_10 s_52 rfl fl_X10_16 rfl dX10_remember_58 ?_
                  refine w_iconst 1 61 hX ic_1 dX10_remember_61 ?_
                  refine w_iadd 62 hX dX10_remember_62 ?_
                  refine w_min 63 hX ml_X10_27 jm_min_s jm_i jm_min_c (by decide) (Nat.le_of_ble_eq_true rfl) (Nat.le_refl _) (Nat.le_refl _) dX10_remember_63 ?_
                  obtain ⟨u38, gu38, h⟩ := o_bind h
                  refine w_putI (j := 2) 66 hX CI_10 s_52 rfl fl_X10_16 rfl rfl rfl rfl dX10_remember_66 ?_
                  rw [Option.some.inj gu38]
                  exact w_vret 69 hX hR dX10_remember_69 (by cases h; rfl)
                · have h := ie h c33
                  cases h)
def FX11_teach_0 (p1 p2 : Int32) (u : Mem) : Option (Int32 × Mem) :=
  (FX9_hasMan_1 p1 u).bind fun x1 => (if x1 = 0 then (some (0, u)) else ((FX11_isFact p2).bind fun x3 => (if x3 = 0 then (some (0, u)) else ((FX0_knows_23 p1 p2 u).bind fun x5 => (if x5 = 0 then ((FX10_remember_52_23 u).bind fun u8 => (rdA u8 25 12 p1).bind fun x9 => (wrA u8 25 12 p1 (x9 ||| ((1 : Int32) <<< (p2 &&& 31)))).bind fun u10 => some (1, u10)) else (some (0, u)))))))
theorem CX11_teach_0 {G : Gt} (p1 p2 : Int32) (u : Mem) {v : Int32} {u' : Mem} (h : FX11_teach_0 p1 p2 u = some (v, u')) : CT G yX11_teach cX11_teach 3 (some .boolean) 5 [.ref 0, .int p1, .int p2] SH RHO u (some (.int v), SH, RHO, u') :=
  ct_of (by decide) rfl (Nat.le_of_ble_eq_true rfl) (Nat.le_refl _) (Nat.le_refl _) (fun X hX hR => by
  unfold FX11_teach_0 at h
  refine w_aload_n 0 0 hX rfl rfl dX11_teach_0 ?_
  refine w_getR 1 hX CI_11 s_0 rfl r_0_0 fl_X11_10 rfl dX11_teach_1 ?_
  refine w_iload_n 1 4 hX rfl rfl dX11_teach_4 ?_
  obtain ⟨x1, gx1, h⟩ := o_bind h
  refine w_invVi (av := [.int p1]) (st := []) 5 hX CI_9 s_1 rfl mv_yX9_hasMan mi_yX9_hasMan ml_X11_119 (CX9_hasMan_1 p1 u gx1) rfl (by decide) (Nat.le_of_ble_eq_true rfl) (Nat.le_refl _) (Nat.le_refl _) dX11_teach_5 ?_
  refine w_if_eq (tgt := 30) 8 hX dX11_teach_8 (by decide) (fun c2 => ?_) (fun c2 => ?_)
  · have h := it h c2
    refine w_iconst 0 30 hX ic_0 dX11_teach_30 ?_
    exact w_zret 31 hX hR (by decide) dX11_teach_31 (by cases h; rfl)
  · have h := ie h c2
    refine w_iload_n 2 11 hX rfl rfl dX11_teach_11 ?_
    obtain ⟨x3, gx3, h⟩ := o_bind h
    refine w_invSi (av := [.int p2]) (st := []) 12 hX ms_yX11_isFact mi_yX11_isFact ml_X11_128 (CX11_isFact p2 u gx3) rfl (by decide) (Nat.le_of_ble_eq_true rfl) (Nat.le_refl _) (Nat.le_refl _) dX11_teach_12 ?_
    refine w_if_eq (tgt := 30) 15 hX dX11_teach_15 (by decide) (fun c4 => ?_) (fun c4 => ?_)
    · have h := it h c4
      refine w_iconst 0 30 hX ic_0 dX11_teach_30 ?_
      exact w_zret 31 hX hR (by decide) dX11_teach_31 (by cases h; rfl)
    · have h := ie h c4
      refine w_aload_n 0 18 hX rfl rfl dX11_teach_18 ?_
      refine w_getR 19 hX CI_11 s_0 rfl r_0_1 fl_X11_19 rfl dX11_teach_19 ?_
      refine w_iload_n 1 22 hX rfl rfl dX11_teach_22 ?_
      refine w_iload_n 2 23 hX rfl rfl dX11_teach_23 ?_
      obtain ⟨x5, gx5, h⟩ := o_bind h
      refine w_invVi (av := [.int p1, .int p2]) (st := []) 24 hX CI_0 s_23 rfl mv_yX0_knows mi_yX0_knows ml_X11_131 (CX0_knows_23 p1 p2 u gx5) rfl (by decide) (Nat.le_of_ble_eq_true rfl) (Nat.le_refl _) (Nat.le_refl _) dX11_teach_24 ?_
      refine w_if_eq (tgt := 32) 27 hX dX11_teach_27 (by decide) (fun c6 => ?_) (fun c6 => ?_)
      · have h := it h c6
        refine w_aload_n 0 32 hX rfl rfl dX11_teach_32 ?_
        refine w_getR 33 hX CI_11 s_0 rfl r_0_5 fl_X11_49 rfl dX11_teach_33 ?_
        refine w_aload_n 0 36 hX rfl rfl dX11_teach_36 ?_
        refine w_getR 37 hX CI_11 s_0 rfl r_0_1 fl_X11_19 rfl dX11_teach_37 ?_
        obtain ⟨u8, gu8, h⟩ := o_bind h
        refine w_invVv (av := [.ref 23]) (st := []) 40 hX CI_10 s_52 rfl mv_yX10_remember mi_yX10_remember ml_X11_135 (CX10_remember_52_23 u gu8) rfl (by decide) (Nat.le_of_ble_eq_true rfl) (Nat.le_refl _) (Nat.le_refl _) dX11_teach_40 ?_
        refine w_aload_n 0 43 hX rfl rfl dX11_teach_43 ?_
        refine w_getR 44 hX CI_11 s_0 rfl r_0_1 fl_X11_19 rfl dX11_teach_44 ?_
        refine w_getR 47 hX CI_0 s_23 rfl r_23_1 fl_X11_139 rfl dX11_teach_47 ?_
        refine w_iload_n 1 50 hX rfl rfl dX11_teach_50 ?_
        refine w_dup2 51 hX rfl rfl dX11_teach_51 ?_
        obtain ⟨x9, gx9, h⟩ := o_bind h
        refine w_iald 52 hX s_25 gx9 dX11_teach_52 ?_
        refine w_iconst 1 53 hX ic_1 dX11_teach_53 ?_
        refine w_iload_n 2 54 hX rfl rfl dX11_teach_54 ?_
        refine w_ishl 55 hX dX11_teach_55 ?_
        refine w_ior 56 hX dX11_teach_56 ?_
        obtain ⟨u10, gu10, h⟩ := o_bind h
        refine w_iast 57 hX s_25 gu10 dX11_teach_57 ?_
        refine w_iconst 1 58 hX ic_1 dX11_teach_58 ?_
        exact w_zret 59 hX hR (by decide) dX11_teach_59 (by cases h; rfl)
      · have h := ie h c6
        refine w_iconst 0 30 hX ic_0 dX11_teach_30 ?_
        exact w_zret 31 hX hR (by decide) dX11_teach_31 (by cases h; rfl))
def FX12_keeps_146_b51 (k51 : Int32 → Mem → Option Mem) (l1 : Int32) (u : Mem) : Option Mem :=
  (if 78 ≤ l1 then ((some (mupd u 146 4 ((u 146 4) + 1))).bind fun u2 => some u2) else ((rdA u 147 1786 l1).bind fun x3 => (wrA u 149 468 ((78 * (u 146 4)) + l1) x3).bind fun u4 => k51 (l1 + 1) u4))
theorem bX12_keeps_146_51 {G : Gt} {X : Xt} {u' : Mem} (hX : CxOk G X cX12_keeps 2 RX12 (none, SH, RHO, u') 1) (hR : CxRet G X none (none, SH, RHO, u')) {k51 : Int32 → Mem → Option Mem} (hk51 : ∀ (l1 : Int32) (u : Mem), k51 l1 u = some u' → WM G X 51 [(0, .ref 146), (1, .int l1)] [] SH RHO u) (l1 : Int32) (u : Mem) (h : FX12_keeps_146_b51 k51 l1 u = some u') : WM G X 51 [(0, .ref 146), (1, .int l1)] [] SH RHO u := by
  unfold FX12_keeps_146_b51 at h
  refine w_iload_n 1 51 hX rfl rfl dX12_keeps_51 ?_
  refine w_bipush 78 52 hX ib_78 dX12_keeps_52 ?_
  refine w_icmp_ge (tgt := 83) 54 hX dX12_keeps_54 (by decide) (fun c1 => ?_) (fun c1 => ?_)
  · have h := it h c1
    refine w_aload_n 0 83 hX rfl rfl dX12_keeps_83 ?_
    refine w_dup 84 hX rfl dX12_keeps_84 ?_
    refine w_getI (j := 4) 85 hX CI_12 s_146 rfl fl_X12_58 rfl dX12_keeps_85 ?_
    refine w_iconst 1 88 hX ic_1 dX12_keeps_88 ?_
    refine w_iadd 89 hX dX12_keeps_89 ?_
    obtain ⟨u2, gu2, h⟩ := o_bind h
    refine w_putI (j := 4) 90 hX CI_12 s_146 rfl fl_X12_58 rfl rfl rfl rfl dX12_keeps_90 ?_
    rw [Option.some.inj gu2]
    exact w_vret 93 hX hR dX12_keeps_93 (by cases h; rfl)
  · have h := ie h c1
    refine w_aload_n 0 57 hX rfl rfl dX12_keeps_57 ?_
    refine w_getR 58 hX CI_12 s_146 rfl r_146_2 fl_X12_16 rfl dX12_keeps_58 ?_
    refine w_bipush 78 61 hX ib_78 dX12_keeps_61 ?_
    refine w_aload_n 0 63 hX rfl rfl dX12_keeps_63 ?_
    refine w_getI (j := 4) 64 hX CI_12 s_146 rfl fl_X12_58 rfl dX12_keeps_64 ?_
    refine w_imul 67 hX dX12_keeps_67 ?_
    refine w_iload_n 1 68 hX rfl rfl dX12_keeps_68 ?_
    refine w_iadd 69 hX dX12_keeps_69 ?_
    refine w_aload_n 0 70 hX rfl rfl dX12_keeps_70 ?_
    refine w_getR 71 hX CI_12 s_146 rfl r_146_0 fl_X12_7 rfl dX12_keeps_71 ?_
    refine w_iload_n 1 74 hX rfl rfl dX12_keeps_74 ?_
    obtain ⟨x3, gx3, h⟩ := o_bind h
    refine w_iald 75 hX s_147 gx3 dX12_keeps_75 ?_
    obtain ⟨u4, gu4, h⟩ := o_bind h
    refine w_iast 76 hX s_149 gu4 dX12_keeps_76 ?_
    refine w_iinc (lv' := [(1, .int (l1 + 1)), (0, .ref 146)]) 77 1 hX dX12_keeps_77 rfl (inc_1 _) (by decide) rfl ?_
    refine w_goto (tgt := 51) 80 hX (by decide) dX12_keeps_80 ?_
    exact w_sub [1, 0] rfl (hk51 (l1 + 1) u4 h)
def FX12_keeps_146_L51 : Nat → Int32 → Mem → Option Mem
  | 0, _, _ => none
  | n + 1, l1, u => FX12_keeps_146_b51 (FX12_keeps_146_L51 n) l1 u
theorem lX12_keeps_146_51 {G : Gt} {X : Xt} {u' : Mem} (hX : CxOk G X cX12_keeps 2 RX12 (none, SH, RHO, u') 1) (hR : CxRet G X none (none, SH, RHO, u')) : ∀ (n : Nat) (l1 : Int32) (u : Mem), FX12_keeps_146_L51 n l1 u = some u' → WM G X 51 [(0, .ref 146), (1, .int l1)] [] SH RHO u := by
  intro n
  induction n with
  | zero =>
    intro l1 u h
    exact nn_ h
  | succ n ih =>
    intro l1 u h
    exact bX12_keeps_146_51 hX hR ih l1 u h
def FX12_keeps_146_b49 (u : Mem) : Option Mem :=
  FX12_keeps_146_L51 FU 0 u
theorem bX12_keeps_146_49 {G : Gt} {X : Xt} {u' : Mem} (hX : CxOk G X cX12_keeps 2 RX12 (none, SH, RHO, u') 1) (hR : CxRet G X none (none, SH, RHO, u')) (u : Mem) (h : FX12_keeps_146_b49 u = some u') : WM G X 49 [(0, .ref 146)] [] SH RHO u := by
  unfold FX12_keeps_146_b49 at h
  refine w_iconst 0 49 hX ic_0 dX12_keeps_49 ?_
  refine w_istore_n (lv' := [(1, .int 0), (0, .ref 146)]) 50 hX rfl dX12_keeps_50 (by decide) rfl ?_
  exact w_sub [1, 0] rfl (lX12_keeps_146_51 hX hR FU 0 u h)
def FX12_keeps_146_b11 (k11 : Int32 → Mem → Option Mem) (l1 : Int32) (u : Mem) : Option Mem :=
  (if 390 ≤ l1 then ((some (mupd u 146 4 ((u 146 4) - 1))).bind fun u2 => FX12_keeps_146_b49 u2) else ((rdA u 149 468 (l1 + 78)).bind fun x3 => (wrA u 149 468 l1 x3).bind fun u4 => k11 (l1 + 1) u4))
theorem bX12_keeps_146_11 {G : Gt} {X : Xt} {u' : Mem} (hX : CxOk G X cX12_keeps 2 RX12 (none, SH, RHO, u') 1) (hR : CxRet G X none (none, SH, RHO, u')) {k11 : Int32 → Mem → Option Mem} (hk11 : ∀ (l1 : Int32) (u : Mem), k11 l1 u = some u' → WM G X 11 [(0, .ref 146), (1, .int l1)] [] SH RHO u) (l1 : Int32) (u : Mem) (h : FX12_keeps_146_b11 k11 l1 u = some u') : WM G X 11 [(0, .ref 146), (1, .int l1)] [] SH RHO u := by
  unfold FX12_keeps_146_b11 at h
  refine w_iload_n 1 11 hX rfl rfl dX12_keeps_11 ?_
  refine w_sipush 390 12 hX isp_390 dX12_keeps_12 ?_
  refine w_icmp_ge (tgt := 39) 15 hX dX12_keeps_15 (by decide) (fun c1 => ?_) (fun c1 => ?_)
  · have h := it h c1
    refine w_aload_n 0 39 hX rfl rfl dX12_keeps_39 ?_
    refine w_dup 40 hX rfl dX12_keeps_40 ?_
    refine w_getI (j := 4) 41 hX CI_12 s_146 rfl fl_X12_58 rfl dX12_keeps_41 ?_
    refine w_iconst 1 44 hX ic_1 dX12_keeps_44 ?_
    refine w_isub 45 hX dX12_keeps_45 ?_
    obtain ⟨u2, gu2, h⟩ := o_bind h
    refine w_putI (j := 4) 46 hX CI_12 s_146 rfl fl_X12_58 rfl rfl rfl rfl dX12_keeps_46 ?_
    rw [Option.some.inj gu2]
    exact w_sub [0] rfl (bX12_keeps_146_49 hX hR u2 h)
  · have h := ie h c1
    refine w_aload_n 0 18 hX rfl rfl dX12_keeps_18 ?_
    refine w_getR 19 hX CI_12 s_146 rfl r_146_2 fl_X12_16 rfl dX12_keeps_19 ?_
    refine w_iload_n 1 22 hX rfl rfl dX12_keeps_22 ?_
    refine w_aload_n 0 23 hX rfl rfl dX12_keeps_23 ?_
    refine w_getR 24 hX CI_12 s_146 rfl r_146_2 fl_X12_16 rfl dX12_keeps_24 ?_
    refine w_iload_n 1 27 hX rfl rfl dX12_keeps_27 ?_
    refine w_bipush 78 28 hX ib_78 dX12_keeps_28 ?_
    refine w_iadd 30 hX dX12_keeps_30 ?_
    obtain ⟨x3, gx3, h⟩ := o_bind h
    refine w_iald 31 hX s_149 gx3 dX12_keeps_31 ?_
    obtain ⟨u4, gu4, h⟩ := o_bind h
    refine w_iast 32 hX s_149 gu4 dX12_keeps_32 ?_
    refine w_iinc (lv' := [(1, .int (l1 + 1)), (0, .ref 146)]) 33 1 hX dX12_keeps_33 rfl (inc_1 _) (by decide) rfl ?_
    refine w_goto (tgt := 11) 36 hX (by decide) dX12_keeps_36 ?_
    exact w_sub [1, 0] rfl (hk11 (l1 + 1) u4 h)
def FX12_keeps_146_L11 : Nat → Int32 → Mem → Option Mem
  | 0, _, _ => none
  | n + 1, l1, u => FX12_keeps_146_b11 (FX12_keeps_146_L11 n) l1 u
theorem lX12_keeps_146_11 {G : Gt} {X : Xt} {u' : Mem} (hX : CxOk G X cX12_keeps 2 RX12 (none, SH, RHO, u') 1) (hR : CxRet G X none (none, SH, RHO, u')) : ∀ (n : Nat) (l1 : Int32) (u : Mem), FX12_keeps_146_L11 n l1 u = some u' → WM G X 11 [(0, .ref 146), (1, .int l1)] [] SH RHO u := by
  intro n
  induction n with
  | zero =>
    intro l1 u h
    exact nn_ h
  | succ n ih =>
    intro l1 u h
    exact bX12_keeps_146_11 hX hR ih l1 u h
def FX12_keeps_146 (u : Mem) : Option Mem :=
  (if (u 146 4) = 6 then (FX12_keeps_146_L11 FU 0 u) else (FX12_keeps_146_b49 u))
theorem CX12_keeps_146 {G : Gt} (u : Mem) {u' : Mem} (h : FX12_keeps_146 u = some u') : CT G yX12_keeps cX12_keeps 2 none 1 [.ref 146] SH RHO u (none, SH, RHO, u') :=
  ct_of (by decide) rfl (Nat.le_of_ble_eq_true rfl) (Nat.le_refl _) (Nat.le_refl _) (fun X hX hR => by
  unfold FX12_keeps_146 at h
  refine w_aload_n 0 0 hX rfl rfl dX12_keeps_0 ?_
  refine w_getI (j := 4) 1 hX CI_12 s_146 rfl fl_X12_58 rfl dX12_keeps_1 ?_
  refine w_bipush 6 4 hX ib_6 dX12_keeps_4 ?_
  refine w_icmp_ne (tgt := 49) 6 hX dX12_keeps_6 (by decide) (fun c1 => ?_) (fun c1 => ?_)
  · have h := ie h c1
    exact bX12_keeps_146_49 hX hR u h
  · have h := it h c1
    refine w_iconst 0 9 hX ic_0 dX12_keeps_9 ?_
    refine w_istore_n (lv' := [(1, .int 0), (0, .ref 146)]) 10 hX rfl dX12_keeps_10 (by decide) rfl ?_
    exact w_sub [1, 0] rfl (lX12_keeps_146_11 hX hR FU 0 u h))
def FX12_teach_146 (p1 p2 : Int32) (u : Mem) : Option (Int32 × Mem) :=
  (FX12_isMan_146 p1 u).bind fun x1 => (if x1 = 0 then (some (0, u)) else ((FX12_isIn p2 0 7).bind fun x3 => (if x3 = 0 then (some (0, u)) else ((rdA u 147 1786 (16 + p1)).bind fun x5 => (if ((x5 >>> (p2 &&& 31)) &&& 1) = 1 then (some (0, u)) else ((FX12_keeps_146 u).bind fun u8 => (rdA u8 147 1786 (16 + p1)).bind fun x9 => (wrA u8 147 1786 (16 + p1) (x9 ||| ((1 : Int32) <<< (p2 &&& 31)))).bind fun u10 => some (1, u10)))))))
theorem CX12_teach_146 {G : Gt} (p1 p2 : Int32) (u : Mem) {v : Int32} {u' : Mem} (h : FX12_teach_146 p1 p2 u = some (v, u')) : CT G yX12_teach cX12_teach 3 (some .boolean) 3 [.ref 146, .int p1, .int p2] SH RHO u (some (.int v), SH, RHO, u') :=
  ct_of (by decide) rfl (Nat.le_of_ble_eq_true rfl) (Nat.le_refl _) (Nat.le_refl _) (fun X hX hR => by
  unfold FX12_teach_146 at h
  refine w_aload_n 0 0 hX rfl rfl dX12_teach_0 ?_
  refine w_iload_n 1 1 hX rfl rfl dX12_teach_1 ?_
  obtain ⟨x1, gx1, h⟩ := o_bind h
  refine w_invVi (av := [.int p1]) (st := []) 2 hX CI_12 s_146 rfl mv_yX12_isMan mi_yX12_isMan ml_X12_70 (CX12_isMan_146 p1 u gx1) rfl (by decide) (Nat.le_of_ble_eq_true rfl) (Nat.le_refl _) (Nat.le_refl _) dX12_teach_2 ?_
  refine w_if_eq (tgt := 35) 5 hX dX12_teach_5 (by decide) (fun c2 => ?_) (fun c2 => ?_)
  · have h := it h c2
    refine w_iconst 0 35 hX ic_0 dX12_teach_35 ?_
    exact w_zret 36 hX hR (by decide) dX12_teach_36 (by cases h; rfl)
  · have h := ie h c2
    refine w_iload_n 2 8 hX rfl rfl dX12_teach_8 ?_
    refine w_iconst 0 9 hX ic_0 dX12_teach_9 ?_
    refine w_bipush 7 10 hX ib_7 dX12_teach_10 ?_
    obtain ⟨x3, gx3, h⟩ := o_bind h
    refine w_invSi (av := [.int p2, .int 0, .int 7]) (st := []) 12 hX ms_yX12_isIn mi_yX12_isIn ml_X12_54 (CX12_isIn p2 0 7 u gx3) rfl (by decide) (Nat.le_of_ble_eq_true rfl) (Nat.le_refl _) (Nat.le_refl _) dX12_teach_12 ?_
    refine w_if_eq (tgt := 35) 15 hX dX12_teach_15 (by decide) (fun c4 => ?_) (fun c4 => ?_)
    · have h := it h c4
      refine w_iconst 0 35 hX ic_0 dX12_teach_35 ?_
      exact w_zret 36 hX hR (by decide) dX12_teach_36 (by cases h; rfl)
    · have h := ie h c4
      refine w_aload_n 0 18 hX rfl rfl dX12_teach_18 ?_
      refine w_getR 19 hX CI_12 s_146 rfl r_146_0 fl_X12_7 rfl dX12_teach_19 ?_
      refine w_bipush 16 22 hX ib_16 dX12_teach_22 ?_
      refine w_iload_n 1 24 hX rfl rfl dX12_teach_24 ?_
      refine w_iadd 25 hX dX12_teach_25 ?_
      obtain ⟨x5, gx5, h⟩ := o_bind h
      refine w_iald 26 hX s_147 gx5 dX12_teach_26 ?_
      refine w_iload_n 2 27 hX rfl rfl dX12_teach_27 ?_
      refine w_ishr 28 hX dX12_teach_28 ?_
      refine w_iconst 1 29 hX ic_1 dX12_teach_29 ?_
      refine w_iand 30 hX dX12_teach_30 ?_
      refine w_iconst 1 31 hX ic_1 dX12_teach_31 ?_
      refine w_icmp_ne (tgt := 37) 32 hX dX12_teach_32 (by decide) (fun c6 => ?_) (fun c6 => ?_)
      · have h := ie h c6
        refine w_aload_n 0 37 hX rfl rfl dX12_teach_37 ?_
        obtain ⟨u8, gu8, h⟩ := o_bind h
        refine w_invVv (av := []) (st := []) 38 hX CI_12 s_146 rfl mv_yX12_keeps mi_yX12_keeps ml_X12_317 (CX12_keeps_146 u gu8) rfl (by decide) (Nat.le_of_ble_eq_true rfl) (Nat.le_refl _) (Nat.le_refl _) dX12_teach_38 ?_
        refine w_aload_n 0 41 hX rfl rfl dX12_teach_41 ?_
        refine w_getR 42 hX CI_12 s_146 rfl r_146_0 fl_X12_7 rfl dX12_teach_42 ?_
        refine w_bipush 16 45 hX ib_16 dX12_teach_45 ?_
        refine w_iload_n 1 47 hX rfl rfl dX12_teach_47 ?_
        refine w_iadd 48 hX dX12_teach_48 ?_
        refine w_dup2 49 hX rfl rfl dX12_teach_49 ?_
        obtain ⟨x9, gx9, h⟩ := o_bind h
        refine w_iald 50 hX s_147 gx9 dX12_teach_50 ?_
        refine w_iconst 1 51 hX ic_1 dX12_teach_51 ?_
        refine w_iload_n 2 52 hX rfl rfl dX12_teach_52 ?_
        refine w_ishl 53 hX dX12_teach_53 ?_
        refine w_ior 54 hX dX12_teach_54 ?_
        obtain ⟨u10, gu10, h⟩ := o_bind h
        refine w_iast 55 hX s_147 gu10 dX12_teach_55 ?_
        refine w_iconst 1 56 hX ic_1 dX12_teach_56 ?_
        exact w_zret 57 hX hR (by decide) dX12_teach_57 (by cases h; rfl)
      · have h := it h c6
        refine w_iconst 0 35 hX ic_0 dX12_teach_35 ?_
        exact w_zret 36 hX hR (by decide) dX12_teach_36 (by cases h; rfl))
