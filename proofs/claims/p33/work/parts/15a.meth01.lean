def FX10_forgetAll_52 (u : Mem) : Option Mem :=
  (some (mupd u 52 2 0)).bind fun u1 => some u1
theorem CX10_forgetAll_52 {G : Gt} (u : Mem) {u' : Mem} (h : FX10_forgetAll_52 u = some u') : CT G yX10_forgetAll cX10_forgetAll 1 none 1 [.ref 52] (SHg G) (RHg G) u (none, (SHg G), (RHg G), u') :=
  ct_of (by decide) rfl (Nat.le_of_ble_eq_true rfl) (Nat.le_refl _) (Nat.le_refl _) (fun X hX hR => by
  unfold FX10_forgetAll_52 at h
  refine w_aload_n 0 0 hX rfl rfl dX10_forgetAll_0 ?_
  refine w_iconst 0 1 hX ic_0 dX10_forgetAll_1 ?_
  obtain ⟨u1, gu1, h⟩ := o_bind h
  refine w_putI (j := 2) 2 hX CI_10 s_52 rfl fl_X10_16 rfl rfl rfl rfl dX10_forgetAll_2 ?_
  rw [Option.some.inj gu1]
  exact w_vret 5 hX hR dX10_forgetAll_5 (by cases h; rfl))
def FX11_state_0 (p1 : Int32) (u : Mem) : Option (Int32 × Mem) :=
  (some (mupd u 23 8 p1)).bind fun u1 => (FX10_forgetAll_52 u1).bind fun u3 => some (u 23 8, u3)
theorem CX11_state_0 {G : Gt} (p1 : Int32) (u : Mem) {v : Int32} {u' : Mem} (h : FX11_state_0 p1 u = some (v, u')) : CT G yX11_state cX11_state 3 (some .int) 2 [.ref 0, .int p1] (SHg G) (RHg G) u (some (.int v), (SHg G), (RHg G), u') :=
  ct_of (by decide) rfl (Nat.le_of_ble_eq_true rfl) (Nat.le_refl _) (Nat.le_refl _) (fun X hX hR => by
  unfold FX11_state_0 at h
  refine w_aload_n 0 0 hX rfl rfl dX11_state_0 ?_
  refine w_getR 1 hX CI_11 s_0 rfl r_0_1 fl_X11_19 rfl dX11_state_1 ?_
  refine w_getI (j := 8) 4 hX CI_0 s_23 rfl fl_X11_84 rfl dX11_state_4 ?_
  refine w_istore_n (lv' := [(2, .int (u 23 8)), (0, .ref 0), (1, .int p1)]) 7 hX rfl dX11_state_7 (by decide) rfl ?_
  refine w_aload_n 1 8 hX rfl rfl dX11_state_8 ?_
  refine w_getR 9 hX CI_11 s_0 rfl r_0_1 fl_X11_19 rfl dX11_state_9 ?_
  refine w_iload_n 2 12 hX rfl rfl dX11_state_12 ?_
  obtain ⟨u1, gu1, h⟩ := o_bind h
  refine w_putI (j := 8) 13 hX CI_0 s_23 rfl fl_X11_84 rfl rfl rfl rfl dX11_state_13 ?_
  rw [Option.some.inj gu1]
  refine w_aload_n 1 16 hX rfl rfl dX11_state_16 ?_
  refine w_getR 17 hX CI_11 s_0 rfl r_0_5 fl_X11_49 rfl dX11_state_17 ?_
  obtain ⟨u3, gu3, h⟩ := o_bind h
  refine w_invVv (av := []) (st := []) 20 hX CI_10 s_52 rfl mv_yX10_forgetAll mi_yX10_forgetAll ml_X11_88 (CX10_forgetAll_52 u1 gu3) rfl (by decide) (Nat.le_of_ble_eq_true rfl) (Nat.le_refl _) (Nat.le_refl _) dX11_state_20 ?_
  refine w_iload_n 0 23 hX rfl rfl dX11_state_23 ?_
  exact w_iret 24 hX hR dX11_state_24 (by cases h; rfl))
def FX11_isCountry (p0 : Int32) : Option Int32 :=
  (if p0 = 0 then (some 1) else ((if p0 = 1 then (some 1) else (some 0))))
theorem CX11_isCountry {G : Gt} (p0 : Int32) (u : Mem) {v : Int32} (h : FX11_isCountry p0 = some v) : CT G yX11_isCountry cX11_isCountry 1 (some .boolean) 1 [.int p0] (SHg G) (RHg G) u (some (.int v), (SHg G), (RHg G), u) :=
  ct_of (by decide) rfl (Nat.le_of_ble_eq_true rfl) (Nat.le_refl _) (Nat.le_refl _) (fun X hX hR => by
  unfold FX11_isCountry at h
  refine w_iload_n 0 0 hX rfl rfl dX11_isCountry_0 ?_
  refine w_if_eq (tgt := 9) 1 hX dX11_isCountry_1 (by decide) (fun c1 => ?_) (fun c1 => ?_)
  · have h := it h c1
    refine w_iconst 1 9 hX ic_1 dX11_isCountry_9 ?_
    refine w_goto (tgt := 14) 10 hX (by decide) dX11_isCountry_10 ?_
    exact w_zret 14 hX hR (by decide) dX11_isCountry_14 (by cases h; rfl)
  · have h := ie h c1
    refine w_iload_n 0 4 hX rfl rfl dX11_isCountry_4 ?_
    refine w_iconst 1 5 hX ic_1 dX11_isCountry_5 ?_
    refine w_icmp_ne (tgt := 13) 6 hX dX11_isCountry_6 (by decide) (fun c2 => ?_) (fun c2 => ?_)
    · have h := ie h c2
      refine w_iconst 0 13 hX ic_0 dX11_isCountry_13 ?_
      exact w_zret 14 hX hR (by decide) dX11_isCountry_14 (by cases h; rfl)
    · have h := it h c2
      refine w_iconst 1 9 hX ic_1 dX11_isCountry_9 ?_
      refine w_goto (tgt := 14) 10 hX (by decide) dX11_isCountry_10 ?_
      exact w_zret 14 hX hR (by decide) dX11_isCountry_14 (by cases h; rfl))
def FX0_start_23 (p1 : Int32) (u : Mem) : Option Mem :=
  (if p1 < 0 then (some u) else ((if p1 < 12 then ((wrA u 24 12 p1 50).bind fun u3 => (wrA u3 25 12 p1 0).bind fun u4 => (wrA u4 26 12 p1 0).bind fun u5 => (wrA u5 27 12 p1 0).bind fun u6 => (wrA u6 28 12 p1 0).bind fun u7 => (wrA u7 29 12 p1 0).bind fun u8 => some u8) else (some u))))
theorem CX0_start_23 {G : Gt} (p1 : Int32) (u : Mem) {u' : Mem} (h : FX0_start_23 p1 u = some u') : CT G yX0_start cX0_start 2 none 1 [.ref 23, .int p1] (SHg G) (RHg G) u (none, (SHg G), (RHg G), u') :=
  ct_of (by decide) rfl (Nat.le_of_ble_eq_true rfl) (Nat.le_refl _) (Nat.le_refl _) (fun X hX hR => by
  unfold FX0_start_23 at h
  refine w_iload_n 1 0 hX rfl rfl dX0_start_0 ?_
  refine w_if_lt (tgt := 10) 1 hX dX0_start_1 (by decide) (fun c1 => ?_) (fun c1 => ?_)
  · have h := it h c1
    exact w_vret 10 hX hR dX0_start_10 (by cases h; rfl)
  · have h := ie h c1
    refine w_iload_n 1 4 hX rfl rfl dX0_start_4 ?_
    refine w_bipush 12 5 hX ib_12 dX0_start_5 ?_
    refine w_icmp_lt (tgt := 11) 7 hX dX0_start_7 (by decide) (fun c2 => ?_) (fun c2 => ?_)
    · have h := it h c2
      refine w_aload_n 0 11 hX rfl rfl dX0_start_11 ?_
      refine w_getR 12 hX CI_0 s_23 rfl r_23_0 fl_X0_9 rfl dX0_start_12 ?_
      refine w_iload_n 1 15 hX rfl rfl dX0_start_15 ?_
      refine w_bipush 50 16 hX ib_50 dX0_start_16 ?_
      obtain ⟨u3, gu3, h⟩ := o_bind h
      refine w_iast 18 hX s_24 gu3 dX0_start_18 ?_
      refine w_aload_n 0 19 hX rfl rfl dX0_start_19 ?_
      refine w_getR 20 hX CI_0 s_23 rfl r_23_1 fl_X0_15 rfl dX0_start_20 ?_
      refine w_iload_n 1 23 hX rfl rfl dX0_start_23 ?_
      refine w_iconst 0 24 hX ic_0 dX0_start_24 ?_
      obtain ⟨u4, gu4, h⟩ := o_bind h
      refine w_iast 25 hX s_25 gu4 dX0_start_25 ?_
      refine w_aload_n 0 26 hX rfl rfl dX0_start_26 ?_
      refine w_getR 27 hX CI_0 s_23 rfl r_23_2 fl_X0_18 rfl dX0_start_27 ?_
      refine w_iload_n 1 30 hX rfl rfl dX0_start_30 ?_
      refine w_iconst 0 31 hX ic_0 dX0_start_31 ?_
      obtain ⟨u5, gu5, h⟩ := o_bind h
      refine w_iast 32 hX s_26 gu5 dX0_start_32 ?_
      refine w_aload_n 0 33 hX rfl rfl dX0_start_33 ?_
      refine w_getR 34 hX CI_0 s_23 rfl r_23_3 fl_X0_21 rfl dX0_start_34 ?_
      refine w_iload_n 1 37 hX rfl rfl dX0_start_37 ?_
      refine w_iconst 0 38 hX ic_0 dX0_start_38 ?_
      obtain ⟨u6, gu6, h⟩ := o_bind h
      refine w_iast 39 hX s_27 gu6 dX0_start_39 ?_
      refine w_aload_n 0 40 hX rfl rfl dX0_start_40 ?_
      refine w_getR 41 hX CI_0 s_23 rfl r_23_4 fl_X0_24 rfl dX0_start_41 ?_
      refine w_iload_n 1 44 hX rfl rfl dX0_start_44 ?_
      refine w_iconst 0 45 hX ic_0 dX0_start_45 ?_
      obtain ⟨u7, gu7, h⟩ := o_bind h
      refine w_iast 46 hX s_28 gu7 dX0_start_46 ?_
      refine w_aload_n 0 47 hX rfl rfl dX0_start_47 ?_
      refine w_getR 48 hX CI_0 s_23 rfl r_23_5 fl_X0_27 rfl dX0_start_48 ?_
      refine w_iload_n 1 51 hX rfl rfl dX0_start_51 ?_
      refine w_iconst 0 52 hX ic_0 dX0_start_52 ?_
      obtain ⟨u8, gu8, h⟩ := o_bind h
      refine w_iast 53 hX s_29 gu8 dX0_start_53 ?_
      exact w_vret 54 hX hR dX0_start_54 (by cases h; rfl)
    · have h := ie h c2
      exact w_vret 10 hX hR dX0_start_10 (by cases h; rfl))
def FX11_man_0_b33 (l1 l2 l3 t0 : Int32) (u : Mem) : Option (Int32 × Mem) :=
  (if t0 = 0 then (some ((-1), u)) else ((if (u 1 0) < 0 then (some ((-1), u)) else ((if (u 1 0) < 12 then ((wrA u 2 12 (u 1 0) l1).bind fun u4 => (wrA u4 3 12 (u 1 0) l2).bind fun u5 => (wrA u5 4 12 (u 1 0) l3).bind fun u6 => (wrA u6 5 12 (u 1 0) 0).bind fun u7 => (FX0_start_23 (u 1 0) u7).bind fun u9 => (some (mupd u9 1 0 ((u 1 0) + 1))).bind fun u10 => (FX10_forgetAll_52 u10).bind fun u12 => some (u 1 0, u12)) else (some ((-1), u)))))))
theorem bX11_man_0_33 {G : Gt} {X : Xt} {v : Int32} {u' : Mem} (hX : CxOk G X cX11_man 6 RX11 (some (.int v), (SHg G), (RHg G), u') 2) (hR : CxRet G X (some .int) (some (.int v), (SHg G), (RHg G), u')) (l1 l2 l3 t0 : Int32) (u : Mem) (h : FX11_man_0_b33 l1 l2 l3 t0 u = some (v, u')) : WM G X 33 [(0, .ref 0), (1, .int l1), (2, .int l2), (3, .int l3)] [.int t0] (SHg G) (RHg G) u := by
  unfold FX11_man_0_b33 at h
  refine w_istore (lv' := [(4, .int t0), (0, .ref 0), (1, .int l1), (2, .int l2), (3, .int l3)]) 33 hX dX11_man_33 (by decide) rfl ?_
  refine w_aload_n 1 35 hX rfl rfl dX11_man_35 ?_
  refine w_getR 36 hX CI_11 s_0 rfl r_0_0 fl_X11_10 rfl dX11_man_36 ?_
  refine w_getI (j := 0) 39 hX CI_9 s_1 rfl fl_X11_95 rfl dX11_man_39 ?_
  refine w_istore (lv' := [(5, .int (u 1 0)), (4, .int t0), (0, .ref 0), (1, .int l1), (2, .int l2), (3, .int l3)]) 42 hX dX11_man_42 (by decide) rfl ?_
  refine w_iload 1 44 hX rfl dX11_man_44 ?_
  refine w_if_eq (tgt := 61) 46 hX dX11_man_46 (by decide) (fun c1 => ?_) (fun c1 => ?_)
  · have h := it h c1
    refine w_iconst (-1) 61 hX ic_m1 dX11_man_61 ?_
    exact w_iret 62 hX hR dX11_man_62 (by cases h; rfl)
  · have h := ie h c1
    refine w_iload 0 49 hX rfl dX11_man_49 ?_
    refine w_if_lt (tgt := 61) 51 hX dX11_man_51 (by decide) (fun c2 => ?_) (fun c2 => ?_)
    · have h := it h c2
      refine w_iconst (-1) 61 hX ic_m1 dX11_man_61 ?_
      exact w_iret 62 hX hR dX11_man_62 (by cases h; rfl)
    · have h := ie h c2
      refine w_iload 0 54 hX rfl dX11_man_54 ?_
      refine w_bipush 12 56 hX ib_12 dX11_man_56 ?_
      refine w_icmp_lt (tgt := 63) 58 hX dX11_man_58 (by decide) (fun c3 => ?_) (fun c3 => ?_)
      · have h := it h c3
        refine w_aload_n 2 63 hX rfl rfl dX11_man_63 ?_
        refine w_getR 64 hX CI_11 s_0 rfl r_0_0 fl_X11_10 rfl dX11_man_64 ?_
        refine w_getR 67 hX CI_9 s_1 rfl r_1_1 fl_X11_98 rfl dX11_man_67 ?_
        refine w_iload 0 70 hX rfl dX11_man_70 ?_
        refine w_iload_n 3 72 hX rfl rfl dX11_man_72 ?_
        obtain ⟨u4, gu4, h⟩ := o_bind h
        refine w_iast 73 hX s_2 gu4 dX11_man_73 ?_
        refine w_aload_n 2 74 hX rfl rfl dX11_man_74 ?_
        refine w_getR 75 hX CI_11 s_0 rfl r_0_0 fl_X11_10 rfl dX11_man_75 ?_
        refine w_getR 78 hX CI_9 s_1 rfl r_1_2 fl_X11_102 rfl dX11_man_78 ?_
        refine w_iload 0 81 hX rfl dX11_man_81 ?_
        refine w_iload_n 4 83 hX rfl rfl dX11_man_83 ?_
        obtain ⟨u5, gu5, h⟩ := o_bind h
        refine w_iast 84 hX s_3 gu5 dX11_man_84 ?_
        refine w_aload_n 2 85 hX rfl rfl dX11_man_85 ?_
        refine w_getR 86 hX CI_11 s_0 rfl r_0_0 fl_X11_10 rfl dX11_man_86 ?_
        refine w_getR 89 hX CI_9 s_1 rfl r_1_3 fl_X11_105 rfl dX11_man_89 ?_
        refine w_iload 0 92 hX rfl dX11_man_92 ?_
        refine w_iload_n 5 94 hX rfl rfl dX11_man_94 ?_
        obtain ⟨u6, gu6, h⟩ := o_bind h
        refine w_iast 95 hX s_4 gu6 dX11_man_95 ?_
        refine w_aload_n 2 96 hX rfl rfl dX11_man_96 ?_
        refine w_getR 97 hX CI_11 s_0 rfl r_0_0 fl_X11_10 rfl dX11_man_97 ?_
        refine w_getR 100 hX CI_9 s_1 rfl r_1_4 fl_X11_108 rfl dX11_man_100 ?_
        refine w_iload 0 103 hX rfl dX11_man_103 ?_
        refine w_iconst 0 105 hX ic_0 dX11_man_105 ?_
        obtain ⟨u7, gu7, h⟩ := o_bind h
        refine w_iast 106 hX s_5 gu7 dX11_man_106 ?_
        refine w_aload_n 2 107 hX rfl rfl dX11_man_107 ?_
        refine w_getR 108 hX CI_11 s_0 rfl r_0_1 fl_X11_19 rfl dX11_man_108 ?_
        refine w_iload 0 111 hX rfl dX11_man_111 ?_
        obtain ⟨u9, gu9, h⟩ := o_bind h
        refine w_invVv (av := [.int (u 1 0)]) (st := []) 113 hX CI_0 s_23 rfl mv_yX0_start mi_yX0_start ml_X11_111 (CX0_start_23 (u 1 0) u7 gu9) rfl (by decide) (Nat.le_of_ble_eq_true rfl) (Nat.le_refl _) (Nat.le_refl _) dX11_man_113 ?_
        refine w_aload_n 2 116 hX rfl rfl dX11_man_116 ?_
        refine w_getR 117 hX CI_11 s_0 rfl r_0_0 fl_X11_10 rfl dX11_man_117 ?_
        refine w_iload 0 120 hX rfl dX11_man_120 ?_
        refine w_iconst 1 122 hX ic_1 dX11_man_122 ?_
        refine w_iadd 123 hX dX11_man_123 ?_
        obtain ⟨u10, gu10, h⟩ := o_bind h
        refine w_putI (j := 0) 124 hX CI_9 s_1 rfl fl_X11_95 rfl rfl rfl rfl dX11_man_124 ?_
        rw [Option.some.inj gu10]
        refine w_aload_n 2 127 hX rfl rfl dX11_man_127 ?_
        refine w_getR 128 hX CI_11 s_0 rfl r_0_5 fl_X11_49 rfl dX11_man_128 ?_
        obtain ⟨u12, gu12, h⟩ := o_bind h
        refine w_invVv (av := []) (st := []) 131 hX CI_10 s_52 rfl mv_yX10_forgetAll mi_yX10_forgetAll ml_X11_88 (CX10_forgetAll_52 u10 gu12) rfl (by decide) (Nat.le_of_ble_eq_true rfl) (Nat.le_refl _) (Nat.le_refl _) dX11_man_131 ?_
        refine w_iload 0 134 hX rfl dX11_man_134 ?_
        exact w_iret 136 hX hR dX11_man_136 (by cases h; rfl)
      · have h := ie h c3
        refine w_iconst (-1) 61 hX ic_m1 dX11_man_61 ?_
        exact w_iret 62 hX hR dX11_man_62 (by cases h; rfl)
def FX11_man_0 (p1 p2 p3 : Int32) (u : Mem) : Option (Int32 × Mem) :=
  (FX11_isCountry p1).bind fun x1 => (if x1 = 0 then (FX11_man_0_b33 p1 p2 p3 0 u) else ((if p2 < 0 then (FX11_man_0_b33 p1 p2 p3 0 u) else ((if 120 < p2 then (FX11_man_0_b33 p1 p2 p3 0 u) else ((if p3 < 1 then (FX11_man_0_b33 p1 p2 p3 0 u) else ((if 9 < p3 then (FX11_man_0_b33 p1 p2 p3 0 u) else (FX11_man_0_b33 p1 p2 p3 1 u))))))))))
theorem CX11_man_0 {G : Gt} (p1 p2 p3 : Int32) (u : Mem) {v : Int32} {u' : Mem} (h : FX11_man_0 p1 p2 p3 u = some (v, u')) : CT G yX11_man cX11_man 6 (some .int) 2 [.ref 0, .int p1, .int p2, .int p3] (SHg G) (RHg G) u (some (.int v), (SHg G), (RHg G), u') :=
  ct_of (by decide) rfl (Nat.le_of_ble_eq_true rfl) (Nat.le_refl _) (Nat.le_refl _) (fun X hX hR => by
  unfold FX11_man_0 at h
  refine w_iload_n 1 0 hX rfl rfl dX11_man_0 ?_
  obtain ⟨x1, gx1, h⟩ := o_bind h
  refine w_invSi (av := [.int p1]) (st := []) 1 hX ms_yX11_isCountry mi_yX11_isCountry ml_X11_91 (CX11_isCountry p1 u gx1) rfl (by decide) (Nat.le_of_ble_eq_true rfl) (Nat.le_refl _) (Nat.le_refl _) dX11_man_1 ?_
  refine w_if_eq (tgt := 32) 4 hX dX11_man_4 (by decide) (fun c2 => ?_) (fun c2 => ?_)
  · have h := it h c2
    refine w_iconst 0 32 hX ic_0 dX11_man_32 ?_
    exact bX11_man_0_33 hX hR p1 p2 p3 0 u h
  · have h := ie h c2
    refine w_iload_n 2 7 hX rfl rfl dX11_man_7 ?_
    refine w_if_lt (tgt := 32) 8 hX dX11_man_8 (by decide) (fun c3 => ?_) (fun c3 => ?_)
    · have h := it h c3
      refine w_iconst 0 32 hX ic_0 dX11_man_32 ?_
      exact bX11_man_0_33 hX hR p1 p2 p3 0 u h
    · have h := ie h c3
      refine w_iload_n 2 11 hX rfl rfl dX11_man_11 ?_
      refine w_bipush 120 12 hX ib_120 dX11_man_12 ?_
      refine w_icmp_gt (tgt := 32) 14 hX dX11_man_14 (by decide) (fun c4 => ?_) (fun c4 => ?_)
      · have h := it h c4
        refine w_iconst 0 32 hX ic_0 dX11_man_32 ?_
        exact bX11_man_0_33 hX hR p1 p2 p3 0 u h
      · have h := ie h c4
        refine w_iload_n 3 17 hX rfl rfl dX11_man_17 ?_
        refine w_iconst 1 18 hX ic_1 dX11_man_18 ?_
        refine w_icmp_lt (tgt := 32) 19 hX dX11_man_19 (by decide) (fun c5 => ?_) (fun c5 => ?_)
        · have h := it h c5
          refine w_iconst 0 32 hX ic_0 dX11_man_32 ?_
          exact bX11_man_0_33 hX hR p1 p2 p3 0 u h
        · have h := ie h c5
          refine w_iload_n 3 22 hX rfl rfl dX11_man_22 ?_
          refine w_bipush 9 23 hX ib_9 dX11_man_23 ?_
          refine w_icmp_gt (tgt := 32) 25 hX dX11_man_25 (by decide) (fun c6 => ?_) (fun c6 => ?_)
          · have h := it h c6
            refine w_iconst 0 32 hX ic_0 dX11_man_32 ?_
            exact bX11_man_0_33 hX hR p1 p2 p3 0 u h
          · have h := ie h c6
            refine w_iconst 1 28 hX ic_1 dX11_man_28 ?_
            refine w_goto (tgt := 33) 29 hX (by decide) dX11_man_29 ?_
            exact bX11_man_0_33 hX hR p1 p2 p3 1 u h)
def FX9_mostOf (p0 : Int32) : Option Int32 :=
  (if p0 = 1 then (some 9) else ((if p0 = 2 then (some 99) else ((if p0 = 3 then (some 9) else ((if p0 = 4 then (some 1) else (some 99))))))))
theorem CX9_mostOf {G : Gt} (p0 : Int32) (u : Mem) {v : Int32} (h : FX9_mostOf p0 = some v) : CT G yX9_mostOf cX9_mostOf 1 (some .int) 1 [.int p0] (SHg G) (RHg G) u (some (.int v), (SHg G), (RHg G), u) :=
  ct_of (by decide) rfl (Nat.le_of_ble_eq_true rfl) (Nat.le_refl _) (Nat.le_refl _) (fun X hX hR => by
  unfold FX9_mostOf at h
  refine w_iload_n 0 0 hX rfl rfl dX9_mostOf_0 ?_
  by_cases c1 : p0 = 1
  · have h := it h c1
    refine w_tabIn (tgt := 32) (off := 31) 1 hX dX9_mostOf_1 (by rw [c1]; decide) (by rw [c1]; decide) (by rw [c1]; decide) (by decide) ?_
    refine w_bipush 9 32 hX ib_9 dX9_mostOf_32 ?_
    exact w_iret 34 hX hR dX9_mostOf_34 (by cases h; rfl)
  · have h := ie h c1
    by_cases c2 : p0 = 2
    · have h := it h c2
      refine w_tabIn (tgt := 40) (off := 39) 1 hX dX9_mostOf_1 (by rw [c2]; decide) (by rw [c2]; decide) (by rw [c2]; decide) (by decide) ?_
      refine w_bipush 99 40 hX ib_99 dX9_mostOf_40 ?_
      exact w_iret 42 hX hR dX9_mostOf_42 (by cases h; rfl)
    · have h := ie h c2
      by_cases c3 : p0 = 3
      · have h := it h c3
        refine w_tabIn (tgt := 35) (off := 34) 1 hX dX9_mostOf_1 (by rw [c3]; decide) (by rw [c3]; decide) (by rw [c3]; decide) (by decide) ?_
        refine w_bipush 9 35 hX ib_9 dX9_mostOf_35 ?_
        exact w_iret 37 hX hR dX9_mostOf_37 (by cases h; rfl)
      · have h := ie h c3
        by_cases c4 : p0 = 4
        · have h := it h c4
          refine w_tabIn (tgt := 38) (off := 37) 1 hX dX9_mostOf_1 (by rw [c4]; decide) (by rw [c4]; decide) (by rw [c4]; decide) (by decide) ?_
          refine w_iconst 1 38 hX ic_1 dX9_mostOf_38 ?_
          exact w_iret 39 hX hR dX9_mostOf_39 (by cases h; rfl)
        · have h := ie h c4
          have zc1 := lv_neT c1 (a := 1) (by decide)
          have zc2 := lv_neT c2 (a := 2) (by decide)
          have zc3 := lv_neT c3 (a := 3) (by decide)
          have zc4 := lv_neT c4 (a := 4) (by decide)
          refine w_tabOut (tgt := 40) 1 hX dX9_mostOf_1 (by omega) (by decide) ?_
          refine w_bipush 99 40 hX ib_99 dX9_mostOf_40 ?_
          exact w_iret 42 hX hR dX9_mostOf_42 (by cases h; rfl))
def FX9_putWant_1 (p1 p2 : Int32) (u : Mem) : Option (Int32 × Mem) :=
  (FX11_isCountry p1).bind fun x1 => (if x1 = 0 then (some (0, u)) else ((wrA u 6 2 p1 p2).bind fun u3 => some (1, u3)))
theorem CX9_putWant_1 {G : Gt} (p1 p2 : Int32) (u : Mem) {v : Int32} {u' : Mem} (h : FX9_putWant_1 p1 p2 u = some (v, u')) : CT G yX9_putWant cX9_putWant 3 (some .boolean) 2 [.ref 1, .int p1, .int p2] (SHg G) (RHg G) u (some (.int v), (SHg G), (RHg G), u') :=
  ct_of (by decide) rfl (Nat.le_of_ble_eq_true rfl) (Nat.le_refl _) (Nat.le_refl _) (fun X hX hR => by
  unfold FX9_putWant_1 at h
  refine w_iload_n 1 0 hX rfl rfl dX9_putWant_0 ?_
  obtain ⟨x1, gx1, h⟩ := o_bind h
  refine w_invSNi (av := [.int p1]) (st := []) 1 hX ms_yX11_isCountry mi_yX11_isCountry ml_X9_102 (CX11_isCountry p1 u gx1) rfl (by decide) (Nat.le_of_ble_eq_true rfl) (Nat.le_refl _) (Nat.le_refl _) dX9_putWant_1 ?_
  refine w_if_ne (tgt := 9) 4 hX dX9_putWant_4 (by decide) (fun c2 => ?_) (fun c2 => ?_)
  · have h := ie h c2
    refine w_aload_n 0 9 hX rfl rfl dX9_putWant_9 ?_
    refine w_getR 10 hX CI_9 s_1 rfl r_1_5 fl_X9_24 rfl dX9_putWant_10 ?_
    refine w_iload_n 1 13 hX rfl rfl dX9_putWant_13 ?_
    refine w_iload_n 2 14 hX rfl rfl dX9_putWant_14 ?_
    obtain ⟨u3, gu3, h⟩ := o_bind h
    refine w_iast 15 hX s_6 gu3 dX9_putWant_15 ?_
    refine w_iconst 1 16 hX ic_1 dX9_putWant_16 ?_
    exact w_zret 17 hX hR (by decide) dX9_putWant_17 (by cases h; rfl)
  · have h := it h c2
    refine w_iconst 0 7 hX ic_0 dX9_putWant_7 ?_
    exact w_zret 8 hX hR (by decide) dX9_putWant_8 (by cases h; rfl))
def FX9_putHill_1_b39 (t1 : Int32) (u : Mem) : Option (Int32 × Mem) :=
  (some (mupd u 1 10 t1)).bind fun u1 => some (1, u1)
theorem bX9_putHill_1_39 {G : Gt} {X : Xt} {v : Int32} {u' : Mem} (hX : CxOk G X cX9_putHill 3 RX9 (some (.int v), (SHg G), (RHg G), u') 1) (hR : CxRet G X (some .boolean) (some (.int v), (SHg G), (RHg G), u')) (t1 : Int32) (u : Mem) (h : FX9_putHill_1_b39 t1 u = some (v, u')) : WM G X 39 [] [.int t1, .ref 1] (SHg G) (RHg G) u := by
  unfold FX9_putHill_1_b39 at h
  obtain ⟨u1, gu1, h⟩ := o_bind h
  refine w_putI (j := 10) 39 hX CI_9 s_1 rfl fl_X9_68 rfl rfl rfl rfl dX9_putHill_39 ?_
  rw [Option.some.inj gu1]
  refine w_iconst 1 42 hX ic_1 dX9_putHill_42 ?_
  exact w_zret 43 hX hR (by decide) dX9_putHill_43 (by cases h; rfl)
def FX9_putHill_1 (p1 p2 : Int32) (u : Mem) : Option (Int32 × Mem) :=
  (if p1 < 0 then (some (0, u)) else ((if p1 < 16 then ((if p2 = 1 then (FX9_putHill_1_b39 ((u 1 10) ||| ((1 : Int32) <<< (p1 &&& 31))) u) else (FX9_putHill_1_b39 ((u 1 10) &&& (((1 : Int32) <<< (p1 &&& 31)) ^^^ (-1))) u))) else (some (0, u)))))
theorem CX9_putHill_1 {G : Gt} (p1 p2 : Int32) (u : Mem) {v : Int32} {u' : Mem} (h : FX9_putHill_1 p1 p2 u = some (v, u')) : CT G yX9_putHill cX9_putHill 3 (some .boolean) 1 [.ref 1, .int p1, .int p2] (SHg G) (RHg G) u (some (.int v), (SHg G), (RHg G), u') :=
  ct_of (by decide) rfl (Nat.le_of_ble_eq_true rfl) (Nat.le_refl _) (Nat.le_refl _) (fun X hX hR => by
  unfold FX9_putHill_1 at h
  refine w_iload_n 1 0 hX rfl rfl dX9_putHill_0 ?_
  refine w_if_lt (tgt := 10) 1 hX dX9_putHill_1 (by decide) (fun c1 => ?_) (fun c1 => ?_)
  · have h := it h c1
    refine w_iconst 0 10 hX ic_0 dX9_putHill_10 ?_
    exact w_zret 11 hX hR (by decide) dX9_putHill_11 (by cases h; rfl)
  · have h := ie h c1
    refine w_iload_n 1 4 hX rfl rfl dX9_putHill_4 ?_
    refine w_bipush 16 5 hX ib_16 dX9_putHill_5 ?_
    refine w_icmp_lt (tgt := 12) 7 hX dX9_putHill_7 (by decide) (fun c2 => ?_) (fun c2 => ?_)
    · have h := it h c2
      refine w_aload_n 0 12 hX rfl rfl dX9_putHill_12 ?_
      refine w_iload_n 2 13 hX rfl rfl dX9_putHill_13 ?_
      refine w_iconst 1 14 hX ic_1 dX9_putHill_14 ?_
      refine w_icmp_ne (tgt := 29) 15 hX dX9_putHill_15 (by decide) (fun c3 => ?_) (fun c3 => ?_)
      · have h := ie h c3
        refine w_aload_n 0 29 hX rfl rfl dX9_putHill_29 ?_
        refine w_getI (j := 10) 30 hX CI_9 s_1 rfl fl_X9_68 rfl dX9_putHill_30 ?_
        refine w_iconst 1 33 hX ic_1 dX9_putHill_33 ?_
        refine w_iload_n 1 34 hX rfl rfl dX9_putHill_34 ?_
        refine w_ishl 35 hX dX9_putHill_35 ?_
        refine w_iconst (-1) 36 hX ic_m1 dX9_putHill_36 ?_
        refine w_ixor 37 hX dX9_putHill_37 ?_
        refine w_iand 38 hX dX9_putHill_38 ?_
        exact w_sub [] rfl (bX9_putHill_1_39 hX hR ((u 1 10) &&& (((1 : Int32) <<< (p1 &&& 31)) ^^^ (-1))) u h)
      · have h := it h c3
        refine w_aload_n 0 18 hX rfl rfl dX9_putHill_18 ?_
        refine w_getI (j := 10) 19 hX CI_9 s_1 rfl fl_X9_68 rfl dX9_putHill_19 ?_
        refine w_iconst 1 22 hX ic_1 dX9_putHill_22 ?_
        refine w_iload_n 1 23 hX rfl rfl dX9_putHill_23 ?_
        refine w_ishl 24 hX dX9_putHill_24 ?_
        refine w_ior 25 hX dX9_putHill_25 ?_
        refine w_goto (tgt := 39) 26 hX (by decide) dX9_putHill_26 ?_
        exact w_sub [] rfl (bX9_putHill_1_39 hX hR ((u 1 10) ||| ((1 : Int32) <<< (p1 &&& 31))) u h)
    · have h := ie h c2
      refine w_iconst 0 10 hX ic_0 dX9_putHill_10 ?_
      exact w_zret 11 hX hR (by decide) dX9_putHill_11 (by cases h; rfl))
def FX9_put_1 (p1 p2 p3 : Int32) (u : Mem) : Option (Int32 × Mem) :=
  (if p3 < 0 then (some (0, u)) else ((FX9_mostOf p1).bind fun x2 => (if p3 ≤ x2 then ((if p1 = 0 then ((some (mupd u 1 7 p3)).bind fun u5 => some (1, u5)) else ((if p1 = 1 then ((some (mupd u 1 8 p3)).bind fun u7 => some (1, u7)) else ((if p1 = 2 then ((some (mupd u 1 9 p3)).bind fun u9 => some (1, u9)) else ((if p1 = 3 then (bnd2 (FX9_putWant_1 p2 p3 u) fun x11 u12 => (bchk x11).bind fun x13 => some (x13, u12)) else ((if p1 = 4 then (bnd2 (FX9_putHill_1 p2 p3 u) fun x15 u16 => (bchk x15).bind fun x17 => some (x17, u16)) else (some (0, u)))))))))))) else (some (0, u)))))
theorem CX9_put_1 {G : Gt} (p1 p2 p3 : Int32) (u : Mem) {v : Int32} {u' : Mem} (h : FX9_put_1 p1 p2 p3 u = some (v, u')) : CT G yX9_put cX9_put 4 (some .boolean) 3 [.ref 1, .int p1, .int p2, .int p3] (SHg G) (RHg G) u (some (.int v), (SHg G), (RHg G), u') :=
  ct_of (by decide) rfl (Nat.le_of_ble_eq_true rfl) (Nat.le_refl _) (Nat.le_refl _) (fun X hX hR => by
  unfold FX9_put_1 at h
  refine w_iload_n 3 0 hX rfl rfl dX9_put_0 ?_
  refine w_if_lt (tgt := 12) 1 hX dX9_put_1 (by decide) (fun c1 => ?_) (fun c1 => ?_)
  · have h := it h c1
    refine w_iconst 0 12 hX ic_0 dX9_put_12 ?_
    exact w_zret 13 hX hR (by decide) dX9_put_13 (by cases h; rfl)
  · have h := ie h c1
    refine w_iload_n 3 4 hX rfl rfl dX9_put_4 ?_
    refine w_iload_n 1 5 hX rfl rfl dX9_put_5 ?_
    obtain ⟨x2, gx2, h⟩ := o_bind h
    refine w_invSi (av := [.int p1]) (st := [.int p3]) 6 hX ms_yX9_mostOf mi_yX9_mostOf ml_X9_91 (CX9_mostOf p1 u gx2) rfl (by decide) (Nat.le_of_ble_eq_true rfl) (Nat.le_refl _) (Nat.le_refl _) dX9_put_6 ?_
    refine w_icmp_le (tgt := 14) 9 hX dX9_put_9 (by decide) (fun c3 => ?_) (fun c3 => ?_)
    · have h := it h c3
      refine w_iload_n 1 14 hX rfl rfl dX9_put_14 ?_
      by_cases c4 : p1 = 0
      · have h := it h c4
        refine w_tabIn (tgt := 48) (off := 33) 15 hX dX9_put_15 (by rw [c4]; decide) (by rw [c4]; decide) (by rw [c4]; decide) (by decide) ?_
        refine w_aload_n 0 48 hX rfl rfl dX9_put_48 ?_
        refine w_iload_n 3 49 hX rfl rfl dX9_put_49 ?_
        obtain ⟨u5, gu5, h⟩ := o_bind h
        refine w_putI (j := 7) 50 hX CI_9 s_1 rfl fl_X9_30 rfl rfl rfl rfl dX9_put_50 ?_
        rw [Option.some.inj gu5]
        refine w_iconst 1 53 hX ic_1 dX9_put_53 ?_
        exact w_zret 54 hX hR (by decide) dX9_put_54 (by cases h; rfl)
      · have h := ie h c4
        by_cases c6 : p1 = 1
        · have h := it h c6
          refine w_tabIn (tgt := 55) (off := 40) 15 hX dX9_put_15 (by rw [c6]; decide) (by rw [c6]; decide) (by rw [c6]; decide) (by decide) ?_
          refine w_aload_n 0 55 hX rfl rfl dX9_put_55 ?_
          refine w_iload_n 3 56 hX rfl rfl dX9_put_56 ?_
          obtain ⟨u7, gu7, h⟩ := o_bind h
          refine w_putI (j := 8) 57 hX CI_9 s_1 rfl fl_X9_65 rfl rfl rfl rfl dX9_put_57 ?_
          rw [Option.some.inj gu7]
          refine w_iconst 1 60 hX ic_1 dX9_put_60 ?_
          exact w_zret 61 hX hR (by decide) dX9_put_61 (by cases h; rfl)
        · have h := ie h c6
          by_cases c8 : p1 = 2
          · have h := it h c8
            refine w_tabIn (tgt := 62) (off := 47) 15 hX dX9_put_15 (by rw [c8]; decide) (by rw [c8]; decide) (by rw [c8]; decide) (by decide) ?_
            refine w_aload_n 0 62 hX rfl rfl dX9_put_62 ?_
            refine w_iload_n 3 63 hX rfl rfl dX9_put_63 ?_
            obtain ⟨u9, gu9, h⟩ := o_bind h
            refine w_putI (j := 9) 64 hX CI_9 s_1 rfl fl_X9_34 rfl rfl rfl rfl dX9_put_64 ?_
            rw [Option.some.inj gu9]
            refine w_iconst 1 67 hX ic_1 dX9_put_67 ?_
            exact w_zret 68 hX hR (by decide) dX9_put_68 (by cases h; rfl)
          · have h := ie h c8
            by_cases c10 : p1 = 3
            · have h := it h c10
              refine w_tabIn (tgt := 69) (off := 54) 15 hX dX9_put_15 (by rw [c10]; decide) (by rw [c10]; decide) (by rw [c10]; decide) (by decide) ?_
              refine w_aload_n 0 69 hX rfl rfl dX9_put_69 ?_
              refine w_iload_n 2 70 hX rfl rfl dX9_put_70 ?_
              refine w_iload_n 3 71 hX rfl rfl dX9_put_71 ?_
              obtain ⟨x11, u12, gx11, h⟩ := o_bnd2 h
              refine w_invVi (av := [.int p2, .int p3]) (st := []) 72 hX CI_9 s_1 rfl mv_yX9_putWant mi_yX9_putWant ml_X9_95 (CX9_putWant_1 p2 p3 u gx11) rfl (by decide) (Nat.le_of_ble_eq_true rfl) (Nat.le_refl _) (Nat.le_refl _) dX9_put_72 ?_
              obtain ⟨x13, gx13, h⟩ := o_bind h
              obtain ⟨jx13, nx13, mx13⟩ := bchk_ok gx13
              rw [jx13]
              exact w_zret 75 hX hR nx13 dX9_put_75 (by cases h; rfl)
            · have h := ie h c10
              by_cases c14 : p1 = 4
              · have h := it h c14
                refine w_tabIn (tgt := 76) (off := 61) 15 hX dX9_put_15 (by rw [c14]; decide) (by rw [c14]; decide) (by rw [c14]; decide) (by decide) ?_
                refine w_aload_n 0 76 hX rfl rfl dX9_put_76 ?_
                refine w_iload_n 2 77 hX rfl rfl dX9_put_77 ?_
                refine w_iload_n 3 78 hX rfl rfl dX9_put_78 ?_
                obtain ⟨x15, u16, gx15, h⟩ := o_bnd2 h
                refine w_invVi (av := [.int p2, .int p3]) (st := []) 79 hX CI_9 s_1 rfl mv_yX9_putHill mi_yX9_putHill ml_X9_99 (CX9_putHill_1 p2 p3 u gx15) rfl (by decide) (Nat.le_of_ble_eq_true rfl) (Nat.le_refl _) (Nat.le_refl _) dX9_put_79 ?_
                obtain ⟨x17, gx17, h⟩ := o_bind h
                obtain ⟨jx17, nx17, mx17⟩ := bchk_ok gx17
                rw [jx17]
                exact w_zret 82 hX hR nx17 dX9_put_82 (by cases h; rfl)
              · have h := ie h c14
                have zc4 := lv_neT c4 (a := 0) (by decide)
                have zc6 := lv_neT c6 (a := 1) (by decide)
                have zc8 := lv_neT c8 (a := 2) (by decide)
                have zc10 := lv_neT c10 (a := 3) (by decide)
                have zc14 := lv_neT c14 (a := 4) (by decide)
                refine w_tabOut (tgt := 83) 15 hX dX9_put_15 (by omega) (by decide) ?_
                refine w_iconst 0 83 hX ic_0 dX9_put_83 ?_
                exact w_zret 84 hX hR (by decide) dX9_put_84 (by cases h; rfl)
    · have h := ie h c3
      refine w_iconst 0 12 hX ic_0 dX9_put_12 ?_
      exact w_zret 13 hX hR (by decide) dX9_put_13 (by cases h; rfl))
def FX9_hasMan_1 (p1 : Int32) (u : Mem) : Option Int32 :=
  (if p1 < 0 then (some 0) else ((if (u 1 0) ≤ p1 then (some 0) else ((if 12 ≤ p1 then (some 0) else (some 1))))))
theorem CX9_hasMan_1 {G : Gt} (p1 : Int32) (u : Mem) {v : Int32} (h : FX9_hasMan_1 p1 u = some v) : CT G yX9_hasMan cX9_hasMan 2 (some .boolean) 1 [.ref 1, .int p1] (SHg G) (RHg G) u (some (.int v), (SHg G), (RHg G), u) :=
  ct_of (by decide) rfl (Nat.le_of_ble_eq_true rfl) (Nat.le_refl _) (Nat.le_refl _) (fun X hX hR => by
  unfold FX9_hasMan_1 at h
  refine w_iload_n 1 0 hX rfl rfl dX9_hasMan_0 ?_
  refine w_if_lt (tgt := 22) 1 hX dX9_hasMan_1 (by decide) (fun c1 => ?_) (fun c1 => ?_)
  · have h := it h c1
    refine w_iconst 0 22 hX ic_0 dX9_hasMan_22 ?_
    exact w_zret 23 hX hR (by decide) dX9_hasMan_23 (by cases h; rfl)
  · have h := ie h c1
    refine w_iload_n 1 4 hX rfl rfl dX9_hasMan_4 ?_
    refine w_aload_n 0 5 hX rfl rfl dX9_hasMan_5 ?_
    refine w_getI (j := 0) 6 hX CI_9 s_1 rfl fl_X9_58 rfl dX9_hasMan_6 ?_
    refine w_icmp_ge (tgt := 22) 9 hX dX9_hasMan_9 (by decide) (fun c2 => ?_) (fun c2 => ?_)
    · have h := it h c2
      refine w_iconst 0 22 hX ic_0 dX9_hasMan_22 ?_
      exact w_zret 23 hX hR (by decide) dX9_hasMan_23 (by cases h; rfl)
    · have h := ie h c2
      refine w_iload_n 1 12 hX rfl rfl dX9_hasMan_12 ?_
      refine w_bipush 12 13 hX ib_12 dX9_hasMan_13 ?_
      refine w_icmp_ge (tgt := 22) 15 hX dX9_hasMan_15 (by decide) (fun c3 => ?_) (fun c3 => ?_)
      · have h := it h c3
        refine w_iconst 0 22 hX ic_0 dX9_hasMan_22 ?_
        exact w_zret 23 hX hR (by decide) dX9_hasMan_23 (by cases h; rfl)
      · have h := ie h c3
        refine w_iconst 1 18 hX ic_1 dX9_hasMan_18 ?_
        refine w_goto (tgt := 23) 19 hX (by decide) dX9_hasMan_19 ?_
        exact w_zret 23 hX hR (by decide) dX9_hasMan_23 (by cases h; rfl))
def FX11_set_0_b122 (l4 : Int32) (u : Mem) : Option (Int32 × Mem) :=
  (bchk l4).bind fun x1 => some (x1, u)
theorem bX11_set_0_122 {G : Gt} {X : Xt} {v : Int32} {u' : Mem} (hX : CxOk G X cX11_set 5 RX11 (some (.int v), (SHg G), (RHg G), u') 4) (hR : CxRet G X (some .boolean) (some (.int v), (SHg G), (RHg G), u')) (l4 : Int32) (u : Mem) (h : FX11_set_0_b122 l4 u = some (v, u')) : WM G X 122 [(4, .int l4)] [] (SHg G) (RHg G) u := by
  unfold FX11_set_0_b122 at h
  refine w_iload 0 122 hX rfl dX11_set_122 ?_
  obtain ⟨x1, gx1, h⟩ := o_bind h
  obtain ⟨jx1, nx1, mx1⟩ := bchk_ok gx1
  rw [jx1]
  exact w_zret 124 hX hR nx1 dX11_set_124 (by cases h; rfl)
def FX11_set_0_b110 (l4 : Int32) (u : Mem) : Option (Int32 × Mem) :=
  (if l4 = 0 then (FX11_set_0_b122 l4 u) else ((FX10_forgetAll_52 u).bind fun u3 => FX11_set_0_b122 l4 u3))
theorem bX11_set_0_110 {G : Gt} {X : Xt} {v : Int32} {u' : Mem} (hX : CxOk G X cX11_set 5 RX11 (some (.int v), (SHg G), (RHg G), u') 4) (hR : CxRet G X (some .boolean) (some (.int v), (SHg G), (RHg G), u')) (l4 : Int32) (u : Mem) (h : FX11_set_0_b110 l4 u = some (v, u')) : WM G X 110 [(0, .ref 0), (4, .int l4)] [] (SHg G) (RHg G) u := by
  unfold FX11_set_0_b110 at h
  refine w_iload 1 110 hX rfl dX11_set_110 ?_
  refine w_if_eq (tgt := 122) 112 hX dX11_set_112 (by decide) (fun c1 => ?_) (fun c1 => ?_)
  · have h := it h c1
    exact w_sub [1] rfl (bX11_set_0_122 hX hR l4 u h)
  · have h := ie h c1
    refine w_aload_n 0 115 hX rfl rfl dX11_set_115 ?_
    refine w_getR 116 hX CI_11 s_0 rfl r_0_5 fl_X11_49 rfl dX11_set_116 ?_
    obtain ⟨u3, gu3, h⟩ := o_bind h
    refine w_invVv (av := []) (st := []) 119 hX CI_10 s_52 rfl mv_yX10_forgetAll mi_yX10_forgetAll ml_X11_88 (CX10_forgetAll_52 u gu3) rfl (by decide) (Nat.le_of_ble_eq_true rfl) (Nat.le_refl _) (Nat.le_refl _) dX11_set_119 ?_
    exact w_sub [1] rfl (bX11_set_0_122 hX hR l4 u3 h)
def FX11_set_0_b69 (l1 l2 l3 l4 : Int32) (u : Mem) : Option (Int32 × Mem) :=
  (if l1 = 6 then ((FX9_hasMan_1 l2 u).bind fun x2 => (if x2 = 0 then (FX11_set_0_b110 l4 u) else ((if l3 < 0 then (FX11_set_0_b110 l4 u) else ((if 999 < l3 then (FX11_set_0_b110 l4 u) else ((wrA u 26 12 l2 l3).bind fun u6 => FX11_set_0_b110 1 u6))))))) else (FX11_set_0_b110 l4 u))
theorem bX11_set_0_69 {G : Gt} {X : Xt} {v : Int32} {u' : Mem} (hX : CxOk G X cX11_set 5 RX11 (some (.int v), (SHg G), (RHg G), u') 4) (hR : CxRet G X (some .boolean) (some (.int v), (SHg G), (RHg G), u')) (l1 l2 l3 l4 : Int32) (u : Mem) (h : FX11_set_0_b69 l1 l2 l3 l4 u = some (v, u')) : WM G X 69 [(0, .ref 0), (1, .int l1), (2, .int l2), (3, .int l3), (4, .int l4)] [] (SHg G) (RHg G) u := by
  unfold FX11_set_0_b69 at h
  refine w_iload_n 1 69 hX rfl rfl dX11_set_69 ?_
  refine w_bipush 6 70 hX ib_6 dX11_set_70 ?_
  refine w_icmp_ne (tgt := 110) 72 hX dX11_set_72 (by decide) (fun c1 => ?_) (fun c1 => ?_)
  · have h := ie h c1
    exact w_sub [0, 4] rfl (bX11_set_0_110 hX hR l4 u h)
  · have h := it h c1
    refine w_aload_n 0 75 hX rfl rfl dX11_set_75 ?_
    refine w_getR 76 hX CI_11 s_0 rfl r_0_0 fl_X11_10 rfl dX11_set_76 ?_
    refine w_iload_n 2 79 hX rfl rfl dX11_set_79 ?_
    obtain ⟨x2, gx2, h⟩ := o_bind h
    refine w_invVi (av := [.int l2]) (st := []) 80 hX CI_9 s_1 rfl mv_yX9_hasMan mi_yX9_hasMan ml_X11_119 (CX9_hasMan_1 l2 u gx2) rfl (by decide) (Nat.le_of_ble_eq_true rfl) (Nat.le_refl _) (Nat.le_refl _) dX11_set_80 ?_
    refine w_if_eq (tgt := 110) 83 hX dX11_set_83 (by decide) (fun c3 => ?_) (fun c3 => ?_)
    · have h := it h c3
      exact w_sub [0, 4] rfl (bX11_set_0_110 hX hR l4 u h)
    · have h := ie h c3
      refine w_iload_n 3 86 hX rfl rfl dX11_set_86 ?_
      refine w_if_lt (tgt := 110) 87 hX dX11_set_87 (by decide) (fun c4 => ?_) (fun c4 => ?_)
      · have h := it h c4
        exact w_sub [0, 4] rfl (bX11_set_0_110 hX hR l4 u h)
      · have h := ie h c4
        refine w_iload_n 3 90 hX rfl rfl dX11_set_90 ?_
        refine w_sipush 999 91 hX isp_999 dX11_set_91 ?_
        refine w_icmp_gt (tgt := 110) 94 hX dX11_set_94 (by decide) (fun c5 => ?_) (fun c5 => ?_)
        · have h := it h c5
          exact w_sub [0, 4] rfl (bX11_set_0_110 hX hR l4 u h)
        · have h := ie h c5
          refine w_aload_n 0 97 hX rfl rfl dX11_set_97 ?_
          refine w_getR 98 hX CI_11 s_0 rfl r_0_1 fl_X11_19 rfl dX11_set_98 ?_
          refine w_getR 101 hX CI_0 s_23 rfl r_23_2 fl_X11_125 rfl dX11_set_101 ?_
          refine w_iload_n 2 104 hX rfl rfl dX11_set_104 ?_
          refine w_iload_n 3 105 hX rfl rfl dX11_set_105 ?_
          obtain ⟨u6, gu6, h⟩ := o_bind h
          refine w_iast 106 hX s_26 gu6 dX11_set_106 ?_
          refine w_iconst 1 107 hX ic_1 dX11_set_107 ?_
          refine w_istore (lv' := [(4, .int 1), (0, .ref 0), (1, .int l1), (2, .int l2), (3, .int l3)]) 108 hX dX11_set_108 (by decide) rfl ?_
          exact w_sub [1, 0] rfl (bX11_set_0_110 hX hR 1 u6 h)
def FX11_set_0_b27 (l1 l2 l3 l4 : Int32) (u : Mem) : Option (Int32 × Mem) :=
  (if l1 = 5 then ((FX9_hasMan_1 l2 u).bind fun x2 => (if x2 = 0 then (FX11_set_0_b69 l1 l2 l3 l4 u) else ((if l3 < 0 then (FX11_set_0_b69 l1 l2 l3 l4 u) else ((if 99 < l3 then (FX11_set_0_b69 l1 l2 l3 l4 u) else ((wrA u 24 12 l2 l3).bind fun u6 => FX11_set_0_b110 1 u6))))))) else (FX11_set_0_b69 l1 l2 l3 l4 u))
theorem bX11_set_0_27 {G : Gt} {X : Xt} {v : Int32} {u' : Mem} (hX : CxOk G X cX11_set 5 RX11 (some (.int v), (SHg G), (RHg G), u') 4) (hR : CxRet G X (some .boolean) (some (.int v), (SHg G), (RHg G), u')) (l1 l2 l3 l4 : Int32) (u : Mem) (h : FX11_set_0_b27 l1 l2 l3 l4 u = some (v, u')) : WM G X 27 [(0, .ref 0), (1, .int l1), (2, .int l2), (3, .int l3), (4, .int l4)] [] (SHg G) (RHg G) u := by
  unfold FX11_set_0_b27 at h
  refine w_iload_n 1 27 hX rfl rfl dX11_set_27 ?_
  refine w_iconst 5 28 hX ic_5 dX11_set_28 ?_
  refine w_icmp_ne (tgt := 69) 29 hX dX11_set_29 (by decide) (fun c1 => ?_) (fun c1 => ?_)
  · have h := ie h c1
    exact bX11_set_0_69 hX hR l1 l2 l3 l4 u h
  · have h := it h c1
    refine w_aload_n 0 32 hX rfl rfl dX11_set_32 ?_
    refine w_getR 33 hX CI_11 s_0 rfl r_0_0 fl_X11_10 rfl dX11_set_33 ?_
    refine w_iload_n 2 36 hX rfl rfl dX11_set_36 ?_
    obtain ⟨x2, gx2, h⟩ := o_bind h
    refine w_invVi (av := [.int l2]) (st := []) 37 hX CI_9 s_1 rfl mv_yX9_hasMan mi_yX9_hasMan ml_X11_119 (CX9_hasMan_1 l2 u gx2) rfl (by decide) (Nat.le_of_ble_eq_true rfl) (Nat.le_refl _) (Nat.le_refl _) dX11_set_37 ?_
    refine w_if_eq (tgt := 69) 40 hX dX11_set_40 (by decide) (fun c3 => ?_) (fun c3 => ?_)
    · have h := it h c3
      exact bX11_set_0_69 hX hR l1 l2 l3 l4 u h
    · have h := ie h c3
      refine w_iload_n 3 43 hX rfl rfl dX11_set_43 ?_
      refine w_if_lt (tgt := 69) 44 hX dX11_set_44 (by decide) (fun c4 => ?_) (fun c4 => ?_)
      · have h := it h c4
        exact bX11_set_0_69 hX hR l1 l2 l3 l4 u h
      · have h := ie h c4
        refine w_iload_n 3 47 hX rfl rfl dX11_set_47 ?_
        refine w_bipush 99 48 hX ib_99 dX11_set_48 ?_
        refine w_icmp_gt (tgt := 69) 50 hX dX11_set_50 (by decide) (fun c5 => ?_) (fun c5 => ?_)
        · have h := it h c5
          exact bX11_set_0_69 hX hR l1 l2 l3 l4 u h
        · have h := ie h c5
          refine w_aload_n 0 53 hX rfl rfl dX11_set_53 ?_
          refine w_getR 54 hX CI_11 s_0 rfl r_0_1 fl_X11_19 rfl dX11_set_54 ?_
          refine w_getR 57 hX CI_0 s_23 rfl r_23_0 fl_X11_122 rfl dX11_set_57 ?_
          refine w_iload_n 2 60 hX rfl rfl dX11_set_60 ?_
          refine w_iload_n 3 61 hX rfl rfl dX11_set_61 ?_
          obtain ⟨u6, gu6, h⟩ := o_bind h
          refine w_iast 62 hX s_24 gu6 dX11_set_62 ?_
          refine w_iconst 1 63 hX ic_1 dX11_set_63 ?_
          refine w_istore (lv' := [(4, .int 1), (0, .ref 0), (1, .int l1), (2, .int l2), (3, .int l3)]) 64 hX dX11_set_64 (by decide) rfl ?_
          refine w_goto (tgt := 110) 66 hX (by decide) dX11_set_66 ?_
          exact w_sub [1, 0] rfl (bX11_set_0_110 hX hR 1 u6 h)
def FX11_set_0 (p1 p2 p3 : Int32) (u : Mem) : Option (Int32 × Mem) :=
  (if p1 < 0 then (FX11_set_0_b27 p1 p2 p3 0 u) else ((if 4 < p1 then (FX11_set_0_b27 p1 p2 p3 0 u) else (bnd2 (FX9_put_1 p1 p2 p3 u) fun x3 u4 => FX11_set_0_b110 x3 u4))))
theorem CX11_set_0 {G : Gt} (p1 p2 p3 : Int32) (u : Mem) {v : Int32} {u' : Mem} (h : FX11_set_0 p1 p2 p3 u = some (v, u')) : CT G yX11_set cX11_set 5 (some .boolean) 4 [.ref 0, .int p1, .int p2, .int p3] (SHg G) (RHg G) u (some (.int v), (SHg G), (RHg G), u') :=
  ct_of (by decide) rfl (Nat.le_of_ble_eq_true rfl) (Nat.le_refl _) (Nat.le_refl _) (fun X hX hR => by
  unfold FX11_set_0 at h
  refine w_iconst 0 0 hX ic_0 dX11_set_0 ?_
  refine w_istore (lv' := [(4, .int 0), (0, .ref 0), (1, .int p1), (2, .int p2), (3, .int p3)]) 1 hX dX11_set_1 (by decide) rfl ?_
  refine w_iload_n 2 3 hX rfl rfl dX11_set_3 ?_
  refine w_if_lt (tgt := 27) 4 hX dX11_set_4 (by decide) (fun c1 => ?_) (fun c1 => ?_)
  · have h := it h c1
    exact w_sub [1, 2, 3, 4, 0] rfl (bX11_set_0_27 hX hR p1 p2 p3 0 u h)
  · have h := ie h c1
    refine w_iload_n 2 7 hX rfl rfl dX11_set_7 ?_
    refine w_iconst 4 8 hX ic_4 dX11_set_8 ?_
    refine w_icmp_gt (tgt := 27) 9 hX dX11_set_9 (by decide) (fun c2 => ?_) (fun c2 => ?_)
    · have h := it h c2
      exact w_sub [1, 2, 3, 4, 0] rfl (bX11_set_0_27 hX hR p1 p2 p3 0 u h)
    · have h := ie h c2
      refine w_aload_n 1 12 hX rfl rfl dX11_set_12 ?_
      refine w_getR 13 hX CI_11 s_0 rfl r_0_0 fl_X11_10 rfl dX11_set_13 ?_
      refine w_iload_n 2 16 hX rfl rfl dX11_set_16 ?_
      refine w_iload_n 3 17 hX rfl rfl dX11_set_17 ?_
      refine w_iload_n 4 18 hX rfl rfl dX11_set_18 ?_
      obtain ⟨x3, u4, gx3, h⟩ := o_bnd2 h
      refine w_invVi (av := [.int p1, .int p2, .int p3]) (st := []) 19 hX CI_9 s_1 rfl mv_yX9_put mi_yX9_put ml_X11_115 (CX9_put_1 p1 p2 p3 u gx3) rfl (by decide) (Nat.le_of_ble_eq_true rfl) (Nat.le_refl _) (Nat.le_refl _) dX11_set_19 ?_
      refine w_istore (lv' := [(4, .int x3), (0, .ref 0), (1, .int p1), (2, .int p2), (3, .int p3)]) 22 hX dX11_set_22 (by decide) rfl ?_
      refine w_goto (tgt := 110) 24 hX (by decide) dX11_set_24 ?_
      exact w_sub [1, 0] rfl (bX11_set_0_110 hX hR x3 u4 h))
def FX11_isFact (p0 : Int32) : Option Int32 :=
  (if p0 < 0 then (some 0) else ((if 8 ≤ p0 then (some 0) else (some 1))))
theorem CX11_isFact {G : Gt} (p0 : Int32) (u : Mem) {v : Int32} (h : FX11_isFact p0 = some v) : CT G yX11_isFact cX11_isFact 1 (some .boolean) 1 [.int p0] (SHg G) (RHg G) u (some (.int v), (SHg G), (RHg G), u) :=
  ct_of (by decide) rfl (Nat.le_of_ble_eq_true rfl) (Nat.le_refl _) (Nat.le_refl _) (fun X hX hR => by
  unfold FX11_isFact at h
  refine w_iload_n 0 0 hX rfl rfl dX11_isFact_0 ?_
  refine w_if_lt (tgt := 14) 1 hX dX11_isFact_1 (by decide) (fun c1 => ?_) (fun c1 => ?_)
  · have h := it h c1
    refine w_iconst 0 14 hX ic_0 dX11_isFact_14 ?_
    exact w_zret 15 hX hR (by decide) dX11_isFact_15 (by cases h; rfl)
  · have h := ie h c1
    refine w_iload_n 0 4 hX rfl rfl dX11_isFact_4 ?_
    refine w_bipush 8 5 hX ib_8 dX11_isFact_5 ?_
    refine w_icmp_ge (tgt := 14) 7 hX dX11_isFact_7 (by decide) (fun c2 => ?_) (fun c2 => ?_)
    · have h := it h c2
      refine w_iconst 0 14 hX ic_0 dX11_isFact_14 ?_
      exact w_zret 15 hX hR (by decide) dX11_isFact_15 (by cases h; rfl)
    · have h := ie h c2
      refine w_iconst 1 10 hX ic_1 dX11_isFact_10 ?_
      refine w_goto (tgt := 15) 11 hX (by decide) dX11_isFact_11 ?_
      exact w_zret 15 hX hR (by decide) dX11_isFact_15 (by cases h; rfl))
def FX11_holds (p0 p1 : Int32) : Option Int32 :=
  (if ((p0 >>> (p1 &&& 31)) &&& 1) = 1 then (some 1) else (some 0))
theorem CX11_holds {G : Gt} (p0 p1 : Int32) (u : Mem) {v : Int32} (h : FX11_holds p0 p1 = some v) : CT G yX11_holds cX11_holds 2 (some .boolean) 1 [.int p0, .int p1] (SHg G) (RHg G) u (some (.int v), (SHg G), (RHg G), u) :=
  ct_of (by decide) rfl (Nat.le_of_ble_eq_true rfl) (Nat.le_refl _) (Nat.le_refl _) (fun X hX hR => by
  unfold FX11_holds at h
  refine w_iload_n 0 0 hX rfl rfl dX11_holds_0 ?_
  refine w_iload_n 1 1 hX rfl rfl dX11_holds_1 ?_
  refine w_ishr 2 hX dX11_holds_2 ?_
  refine w_iconst 1 3 hX ic_1 dX11_holds_3 ?_
  refine w_iand 4 hX dX11_holds_4 ?_
  refine w_iconst 1 5 hX ic_1 dX11_holds_5 ?_
  refine w_icmp_ne (tgt := 13) 6 hX dX11_holds_6 (by decide) (fun c1 => ?_) (fun c1 => ?_)
  · have h := ie h c1
    refine w_iconst 0 13 hX ic_0 dX11_holds_13 ?_
    exact w_zret 14 hX hR (by decide) dX11_holds_14 (by cases h; rfl)
  · have h := it h c1
    refine w_iconst 1 9 hX ic_1 dX11_holds_9 ?_
    refine w_goto (tgt := 14) 10 hX (by decide) dX11_holds_10 ?_
    exact w_zret 14 hX hR (by decide) dX11_holds_14 (by cases h; rfl))
def FX0_knows_23 (p1 p2 : Int32) (u : Mem) : Option Int32 :=
  (if p1 < 0 then (some 0) else ((if 12 ≤ p1 then (some 0) else ((rdA u 25 12 p1).bind fun x3 => (FX11_holds x3 p2).bind fun x4 => (if x4 = 0 then (some 0) else (some 1))))))
theorem CX0_knows_23 {G : Gt} (p1 p2 : Int32) (u : Mem) {v : Int32} (h : FX0_knows_23 p1 p2 u = some v) : CT G yX0_knows cX0_knows 3 (some .boolean) 2 [.ref 23, .int p1, .int p2] (SHg G) (RHg G) u (some (.int v), (SHg G), (RHg G), u) :=
  ct_of (by decide) rfl (Nat.le_of_ble_eq_true rfl) (Nat.le_refl _) (Nat.le_refl _) (fun X hX hR => by
  unfold FX0_knows_23 at h
  refine w_iload_n 1 0 hX rfl rfl dX0_knows_0 ?_
  refine w_if_lt (tgt := 27) 1 hX dX0_knows_1 (by decide) (fun c1 => ?_) (fun c1 => ?_)
  · have h := it h c1
    refine w_iconst 0 27 hX ic_0 dX0_knows_27 ?_
    exact w_zret 28 hX hR (by decide) dX0_knows_28 (by cases h; rfl)
  · have h := ie h c1
    refine w_iload_n 1 4 hX rfl rfl dX0_knows_4 ?_
    refine w_bipush 12 5 hX ib_12 dX0_knows_5 ?_
    refine w_icmp_ge (tgt := 27) 7 hX dX0_knows_7 (by decide) (fun c2 => ?_) (fun c2 => ?_)
    · have h := it h c2
      refine w_iconst 0 27 hX ic_0 dX0_knows_27 ?_
      exact w_zret 28 hX hR (by decide) dX0_knows_28 (by cases h; rfl)
    · have h := ie h c2
      refine w_aload_n 0 10 hX rfl rfl dX0_knows_10 ?_
      refine w_getR 11 hX CI_0 s_23 rfl r_23_1 fl_X0_15 rfl dX0_knows_11 ?_
      refine w_iload_n 1 14 hX rfl rfl dX0_knows_14 ?_
      obtain ⟨x3, gx3, h⟩ := o_bind h
      refine w_iald 15 hX s_25 gx3 dX0_knows_15 ?_
      refine w_iload_n 2 16 hX rfl rfl dX0_knows_16 ?_
      obtain ⟨x4, gx4, h⟩ := o_bind h
      refine w_invSNi (av := [.int x3, .int p2]) (st := []) 17 hX ms_yX11_holds mi_yX11_holds ml_X0_47 (CX11_holds x3 p2 u gx4) rfl (by decide) (Nat.le_of_ble_eq_true rfl) (Nat.le_refl _) (Nat.le_refl _) dX0_knows_17 ?_
      refine w_if_eq (tgt := 27) 20 hX dX0_knows_20 (by decide) (fun c5 => ?_) (fun c5 => ?_)
      · have h := it h c5
        refine w_iconst 0 27 hX ic_0 dX0_knows_27 ?_
        exact w_zret 28 hX hR (by decide) dX0_knows_28 (by cases h; rfl)
      · have h := ie h c5
        refine w_iconst 1 23 hX ic_1 dX0_knows_23 ?_
        refine w_goto (tgt := 28) 24 hX (by decide) dX0_knows_24 ?_
        exact w_zret 28 hX hR (by decide) dX0_knows_28 (by cases h; rfl))
def FX0_become_54_23 (u : Mem) : Option Mem :=
  (some (cpM u 24 55 12)).bind fun u1 => (some (cpM u1 25 56 12)).bind fun u2 => (some (cpM u2 26 57 12)).bind fun u3 => (some (cpM u3 27 58 12)).bind fun u4 => (some (cpM u4 28 59 12)).bind fun u5 => (some (cpM u5 29 60 12)).bind fun u6 => (some (mupd u6 54 6 (u6 23 6))).bind fun u7 => (some (mupd u7 54 7 (u7 23 7))).bind fun u8 => (some (mupd u8 54 8 (u8 23 8))).bind fun u9 => (some (mupd u9 54 9 (u9 23 9))).bind fun u10 => some u10
theorem CX0_become_54_23 {G : Gt} (u : Mem) {u' : Mem} (h : FX0_become_54_23 u = some u') : CT G yX0_become cX0_become 2 none 3 [.ref 54, .ref 23] (SHg G) (RHg G) u (none, (SHg G), (RHg G), u') :=
  ct_of (by decide) rfl (Nat.le_of_ble_eq_true rfl) (Nat.le_refl _) (Nat.le_refl _) (fun X hX hR => by
  unfold FX0_become_54_23 at h
  refine w_aload_n 1 0 hX rfl rfl dX0_become_0 ?_
  refine w_getR 1 hX CI_0 s_23 rfl r_23_0 fl_X0_9 rfl dX0_become_1 ?_
  refine w_aload_n 0 4 hX rfl rfl dX0_become_4 ?_
  refine w_getR 5 hX CI_0 s_54 rfl r_54_0 fl_X0_9 rfl dX0_become_5 ?_
  obtain ⟨u1, gu1, h⟩ := o_bind h
  refine w_invSNv (av := [.ref 24, .ref 55]) (st := []) 8 hX ms_yX11_copy mi_yX11_copy ml_X0_34 (C_copy s_24 s_55 (by decide) (by decide) (by decide) gu1) rfl (by decide) (Nat.le_of_ble_eq_true rfl) (Nat.le_refl _) (Nat.le_refl _) dX0_become_8 ?_
  refine w_aload_n 1 11 hX rfl rfl dX0_become_11 ?_
  refine w_getR 12 hX CI_0 s_23 rfl r_23_1 fl_X0_15 rfl dX0_become_12 ?_
  refine w_aload_n 0 15 hX rfl rfl dX0_become_15 ?_
  refine w_getR 16 hX CI_0 s_54 rfl r_54_1 fl_X0_15 rfl dX0_become_16 ?_
  obtain ⟨u2, gu2, h⟩ := o_bind h
  refine w_invSNv (av := [.ref 25, .ref 56]) (st := []) 19 hX ms_yX11_copy mi_yX11_copy ml_X0_34 (C_copy s_25 s_56 (by decide) (by decide) (by decide) gu2) rfl (by decide) (Nat.le_of_ble_eq_true rfl) (Nat.le_refl _) (Nat.le_refl _) dX0_become_19 ?_
  refine w_aload_n 1 22 hX rfl rfl dX0_become_22 ?_
  refine w_getR 23 hX CI_0 s_23 rfl r_23_2 fl_X0_18 rfl dX0_become_23 ?_
  refine w_aload_n 0 26 hX rfl rfl dX0_become_26 ?_
  refine w_getR 27 hX CI_0 s_54 rfl r_54_2 fl_X0_18 rfl dX0_become_27 ?_
  obtain ⟨u3, gu3, h⟩ := o_bind h
  refine w_invSNv (av := [.ref 26, .ref 57]) (st := []) 30 hX ms_yX11_copy mi_yX11_copy ml_X0_34 (C_copy s_26 s_57 (by decide) (by decide) (by decide) gu3) rfl (by decide) (Nat.le_of_ble_eq_true rfl) (Nat.le_refl _) (Nat.le_refl _) dX0_become_30 ?_
  refine w_aload_n 1 33 hX rfl rfl dX0_become_33 ?_
  refine w_getR 34 hX CI_0 s_23 rfl r_23_3 fl_X0_21 rfl dX0_become_34 ?_
  refine w_aload_n 0 37 hX rfl rfl dX0_become_37 ?_
  refine w_getR 38 hX CI_0 s_54 rfl r_54_3 fl_X0_21 rfl dX0_become_38 ?_
  obtain ⟨u4, gu4, h⟩ := o_bind h
  refine w_invSNv (av := [.ref 27, .ref 58]) (st := []) 41 hX ms_yX11_copy mi_yX11_copy ml_X0_34 (C_copy s_27 s_58 (by decide) (by decide) (by decide) gu4) rfl (by decide) (Nat.le_of_ble_eq_true rfl) (Nat.le_refl _) (Nat.le_refl _) dX0_become_41 ?_
  refine w_aload_n 1 44 hX rfl rfl dX0_become_44 ?_
  refine w_getR 45 hX CI_0 s_23 rfl r_23_4 fl_X0_24 rfl dX0_become_45 ?_
  refine w_aload_n 0 48 hX rfl rfl dX0_become_48 ?_
  refine w_getR 49 hX CI_0 s_54 rfl r_54_4 fl_X0_24 rfl dX0_become_49 ?_
  obtain ⟨u5, gu5, h⟩ := o_bind h
  refine w_invSNv (av := [.ref 28, .ref 59]) (st := []) 52 hX ms_yX11_copy mi_yX11_copy ml_X0_34 (C_copy s_28 s_59 (by decide) (by decide) (by decide) gu5) rfl (by decide) (Nat.le_of_ble_eq_true rfl) (Nat.le_refl _) (Nat.le_refl _) dX0_become_52 ?_
  refine w_aload_n 1 55 hX rfl rfl dX0_become_55 ?_
  refine w_getR 56 hX CI_0 s_23 rfl r_23_5 fl_X0_27 rfl dX0_become_56 ?_
  refine w_aload_n 0 59 hX rfl rfl dX0_become_59 ?_
  refine w_getR 60 hX CI_0 s_54 rfl r_54_5 fl_X0_27 rfl dX0_become_60 ?_
  obtain ⟨u6, gu6, h⟩ := o_bind h
  refine w_invSNv (av := [.ref 29, .ref 60]) (st := []) 63 hX ms_yX11_copy mi_yX11_copy ml_X0_34 (C_copy s_29 s_60 (by decide) (by decide) (by decide) gu6) rfl (by decide) (Nat.le_of_ble_eq_true rfl) (Nat.le_refl _) (Nat.le_refl _) dX0_become_63 ?_
  refine w_aload_n 0 66 hX rfl rfl dX0_become_66 ?_
  refine w_aload_n 1 67 hX rfl rfl dX0_become_67 ?_
  refine w_getI (j := 6) 68 hX CI_0 s_23 rfl fl_X0_30 rfl dX0_become_68 ?_
  obtain ⟨u7, gu7, h⟩ := o_bind h
  refine w_putI (j := 6) 71 hX CI_0 s_54 rfl fl_X0_30 rfl rfl rfl rfl dX0_become_71 ?_
  rw [Option.some.inj gu7]
  refine w_aload_n 0 74 hX rfl rfl dX0_become_74 ?_
  refine w_aload_n 1 75 hX rfl rfl dX0_become_75 ?_
  refine w_getI (j := 7) 76 hX CI_0 s_23 rfl fl_X0_38 rfl dX0_become_76 ?_
  obtain ⟨u8, gu8, h⟩ := o_bind h
  refine w_putI (j := 7) 79 hX CI_0 s_54 rfl fl_X0_38 rfl rfl rfl rfl dX0_become_79 ?_
  rw [Option.some.inj gu8]
  refine w_aload_n 0 82 hX rfl rfl dX0_become_82 ?_
  refine w_aload_n 1 83 hX rfl rfl dX0_become_83 ?_
  refine w_getI (j := 8) 84 hX CI_0 s_23 rfl fl_X0_41 rfl dX0_become_84 ?_
  obtain ⟨u9, gu9, h⟩ := o_bind h
  refine w_putI (j := 8) 87 hX CI_0 s_54 rfl fl_X0_41 rfl rfl rfl rfl dX0_become_87 ?_
  rw [Option.some.inj gu9]
  refine w_aload_n 0 90 hX rfl rfl dX0_become_90 ?_
  refine w_aload_n 1 91 hX rfl rfl dX0_become_91 ?_
  refine w_getI (j := 9) 92 hX CI_0 s_23 rfl fl_X0_44 rfl dX0_become_92 ?_
  obtain ⟨u10, gu10, h⟩ := o_bind h
  refine w_putI (j := 9) 95 hX CI_0 s_54 rfl fl_X0_44 rfl rfl rfl rfl dX0_become_95 ?_
  rw [Option.some.inj gu10]
  exact w_vret 98 hX hR dX0_become_98 (by cases h; rfl))
def FX0_become_61_23 (u : Mem) : Option Mem :=
  (some (cpM u 24 62 12)).bind fun u1 => (some (cpM u1 25 63 12)).bind fun u2 => (some (cpM u2 26 64 12)).bind fun u3 => (some (cpM u3 27 65 12)).bind fun u4 => (some (cpM u4 28 66 12)).bind fun u5 => (some (cpM u5 29 67 12)).bind fun u6 => (some (mupd u6 61 6 (u6 23 6))).bind fun u7 => (some (mupd u7 61 7 (u7 23 7))).bind fun u8 => (some (mupd u8 61 8 (u8 23 8))).bind fun u9 => (some (mupd u9 61 9 (u9 23 9))).bind fun u10 => some u10
theorem CX0_become_61_23 {G : Gt} (u : Mem) {u' : Mem} (h : FX0_become_61_23 u = some u') : CT G yX0_become cX0_become 2 none 3 [.ref 61, .ref 23] (SHg G) (RHg G) u (none, (SHg G), (RHg G), u') :=
  ct_of (by decide) rfl (Nat.le_of_ble_eq_true rfl) (Nat.le_refl _) (Nat.le_refl _) (fun X hX hR => by
  unfold FX0_become_61_23 at h
  refine w_aload_n 1 0 hX rfl rfl dX0_become_0 ?_
  refine w_getR 1 hX CI_0 s_23 rfl r_23_0 fl_X0_9 rfl dX0_become_1 ?_
  refine w_aload_n 0 4 hX rfl rfl dX0_become_4 ?_
  refine w_getR 5 hX CI_0 s_61 rfl r_61_0 fl_X0_9 rfl dX0_become_5 ?_
  obtain ⟨u1, gu1, h⟩ := o_bind h
  refine w_invSNv (av := [.ref 24, .ref 62]) (st := []) 8 hX ms_yX11_copy mi_yX11_copy ml_X0_34 (C_copy s_24 s_62 (by decide) (by decide) (by decide) gu1) rfl (by decide) (Nat.le_of_ble_eq_true rfl) (Nat.le_refl _) (Nat.le_refl _) dX0_become_8 ?_
  refine w_aload_n 1 11 hX rfl rfl dX0_become_11 ?_
  refine w_getR 12 hX CI_0 s_23 rfl r_23_1 fl_X0_15 rfl dX0_become_12 ?_
  refine w_aload_n 0 15 hX rfl rfl dX0_become_15 ?_
  refine w_getR 16 hX CI_0 s_61 rfl r_61_1 fl_X0_15 rfl dX0_become_16 ?_
  obtain ⟨u2, gu2, h⟩ := o_bind h
  refine w_invSNv (av := [.ref 25, .ref 63]) (st := []) 19 hX ms_yX11_copy mi_yX11_copy ml_X0_34 (C_copy s_25 s_63 (by decide) (by decide) (by decide) gu2) rfl (by decide) (Nat.le_of_ble_eq_true rfl) (Nat.le_refl _) (Nat.le_refl _) dX0_become_19 ?_
  refine w_aload_n 1 22 hX rfl rfl dX0_become_22 ?_
  refine w_getR 23 hX CI_0 s_23 rfl r_23_2 fl_X0_18 rfl dX0_become_23 ?_
  refine w_aload_n 0 26 hX rfl rfl dX0_become_26 ?_
  refine w_getR 27 hX CI_0 s_61 rfl r_61_2 fl_X0_18 rfl dX0_become_27 ?_
  obtain ⟨u3, gu3, h⟩ := o_bind h
  refine w_invSNv (av := [.ref 26, .ref 64]) (st := []) 30 hX ms_yX11_copy mi_yX11_copy ml_X0_34 (C_copy s_26 s_64 (by decide) (by decide) (by decide) gu3) rfl (by decide) (Nat.le_of_ble_eq_true rfl) (Nat.le_refl _) (Nat.le_refl _) dX0_become_30 ?_
  refine w_aload_n 1 33 hX rfl rfl dX0_become_33 ?_
  refine w_getR 34 hX CI_0 s_23 rfl r_23_3 fl_X0_21 rfl dX0_become_34 ?_
  refine w_aload_n 0 37 hX rfl rfl dX0_become_37 ?_
  refine w_getR 38 hX CI_0 s_61 rfl r_61_3 fl_X0_21 rfl dX0_become_38 ?_
  obtain ⟨u4, gu4, h⟩ := o_bind h
  refine w_invSNv (av := [.ref 27, .ref 65]) (st := []) 41 hX ms_yX11_copy mi_yX11_copy ml_X0_34 (C_copy s_27 s_65 (by decide) (by decide) (by decide) gu4) rfl (by decide) (Nat.le_of_ble_eq_true rfl) (Nat.le_refl _) (Nat.le_refl _) dX0_become_41 ?_
  refine w_aload_n 1 44 hX rfl rfl dX0_become_44 ?_
  refine w_getR 45 hX CI_0 s_23 rfl r_23_4 fl_X0_24 rfl dX0_become_45 ?_
  refine w_aload_n 0 48 hX rfl rfl dX0_become_48 ?_
  refine w_getR 49 hX CI_0 s_61 rfl r_61_4 fl_X0_24 rfl dX0_become_49 ?_
  obtain ⟨u5, gu5, h⟩ := o_bind h
  refine w_invSNv (av := [.ref 28, .ref 66]) (st := []) 52 hX ms_yX11_copy mi_yX11_copy ml_X0_34 (C_copy s_28 s_66 (by decide) (by decide) (by decide) gu5) rfl (by decide) (Nat.le_of_ble_eq_true rfl) (Nat.le_refl _) (Nat.le_refl _) dX0_become_52 ?_
  refine w_aload_n 1 55 hX rfl rfl dX0_become_55 ?_
  refine w_getR 56 hX CI_0 s_23 rfl r_23_5 fl_X0_27 rfl dX0_become_56 ?_
  refine w_aload_n 0 59 hX rfl rfl dX0_become_59 ?_
  refine w_getR 60 hX CI_0 s_61 rfl r_61_5 fl_X0_27 rfl dX0_become_60 ?_
  obtain ⟨u6, gu6, h⟩ := o_bind h
  refine w_invSNv (av := [.ref 29, .ref 67]) (st := []) 63 hX ms_yX11_copy mi_yX11_copy ml_X0_34 (C_copy s_29 s_67 (by decide) (by decide) (by decide) gu6) rfl (by decide) (Nat.le_of_ble_eq_true rfl) (Nat.le_refl _) (Nat.le_refl _) dX0_become_63 ?_
  refine w_aload_n 0 66 hX rfl rfl dX0_become_66 ?_
  refine w_aload_n 1 67 hX rfl rfl dX0_become_67 ?_
  refine w_getI (j := 6) 68 hX CI_0 s_23 rfl fl_X0_30 rfl dX0_become_68 ?_
  obtain ⟨u7, gu7, h⟩ := o_bind h
  refine w_putI (j := 6) 71 hX CI_0 s_61 rfl fl_X0_30 rfl rfl rfl rfl dX0_become_71 ?_
  rw [Option.some.inj gu7]
  refine w_aload_n 0 74 hX rfl rfl dX0_become_74 ?_
  refine w_aload_n 1 75 hX rfl rfl dX0_become_75 ?_
  refine w_getI (j := 7) 76 hX CI_0 s_23 rfl fl_X0_38 rfl dX0_become_76 ?_
  obtain ⟨u8, gu8, h⟩ := o_bind h
  refine w_putI (j := 7) 79 hX CI_0 s_61 rfl fl_X0_38 rfl rfl rfl rfl dX0_become_79 ?_
  rw [Option.some.inj gu8]
  refine w_aload_n 0 82 hX rfl rfl dX0_become_82 ?_
  refine w_aload_n 1 83 hX rfl rfl dX0_become_83 ?_
  refine w_getI (j := 8) 84 hX CI_0 s_23 rfl fl_X0_41 rfl dX0_become_84 ?_
  obtain ⟨u9, gu9, h⟩ := o_bind h
  refine w_putI (j := 8) 87 hX CI_0 s_61 rfl fl_X0_41 rfl rfl rfl rfl dX0_become_87 ?_
  rw [Option.some.inj gu9]
  refine w_aload_n 0 90 hX rfl rfl dX0_become_90 ?_
  refine w_aload_n 1 91 hX rfl rfl dX0_become_91 ?_
  refine w_getI (j := 9) 92 hX CI_0 s_23 rfl fl_X0_44 rfl dX0_become_92 ?_
  obtain ⟨u10, gu10, h⟩ := o_bind h
  refine w_putI (j := 9) 95 hX CI_0 s_61 rfl fl_X0_44 rfl rfl rfl rfl dX0_become_95 ?_
  rw [Option.some.inj gu10]
  exact w_vret 98 hX hR dX0_become_98 (by cases h; rfl))
def FX0_become_68_23 (u : Mem) : Option Mem :=
  (some (cpM u 24 69 12)).bind fun u1 => (some (cpM u1 25 70 12)).bind fun u2 => (some (cpM u2 26 71 12)).bind fun u3 => (some (cpM u3 27 72 12)).bind fun u4 => (some (cpM u4 28 73 12)).bind fun u5 => (some (cpM u5 29 74 12)).bind fun u6 => (some (mupd u6 68 6 (u6 23 6))).bind fun u7 => (some (mupd u7 68 7 (u7 23 7))).bind fun u8 => (some (mupd u8 68 8 (u8 23 8))).bind fun u9 => (some (mupd u9 68 9 (u9 23 9))).bind fun u10 => some u10
theorem CX0_become_68_23 {G : Gt} (u : Mem) {u' : Mem} (h : FX0_become_68_23 u = some u') : CT G yX0_become cX0_become 2 none 3 [.ref 68, .ref 23] (SHg G) (RHg G) u (none, (SHg G), (RHg G), u') :=
  ct_of (by decide) rfl (Nat.le_of_ble_eq_true rfl) (Nat.le_refl _) (Nat.le_refl _) (fun X hX hR => by
  unfold FX0_become_68_23 at h
  refine w_aload_n 1 0 hX rfl rfl dX0_become_0 ?_
  refine w_getR 1 hX CI_0 s_23 rfl r_23_0 fl_X0_9 rfl dX0_become_1 ?_
  refine w_aload_n 0 4 hX rfl rfl dX0_become_4 ?_
  refine w_getR 5 hX CI_0 s_68 rfl r_68_0 fl_X0_9 rfl dX0_become_5 ?_
  obtain ⟨u1, gu1, h⟩ := o_bind h
  refine w_invSNv (av := [.ref 24, .ref 69]) (st := []) 8 hX ms_yX11_copy mi_yX11_copy ml_X0_34 (C_copy s_24 s_69 (by decide) (by decide) (by decide) gu1) rfl (by decide) (Nat.le_of_ble_eq_true rfl) (Nat.le_refl _) (Nat.le_refl _) dX0_become_8 ?_
  refine w_aload_n 1 11 hX rfl rfl dX0_become_11 ?_
  refine w_getR 12 hX CI_0 s_23 rfl r_23_1 fl_X0_15 rfl dX0_become_12 ?_
  refine w_aload_n 0 15 hX rfl rfl dX0_become_15 ?_
  refine w_getR 16 hX CI_0 s_68 rfl r_68_1 fl_X0_15 rfl dX0_become_16 ?_
  obtain ⟨u2, gu2, h⟩ := o_bind h
  refine w_invSNv (av := [.ref 25, .ref 70]) (st := []) 19 hX ms_yX11_copy mi_yX11_copy ml_X0_34 (C_copy s_25 s_70 (by decide) (by decide) (by decide) gu2) rfl (by decide) (Nat.le_of_ble_eq_true rfl) (Nat.le_refl _) (Nat.le_refl _) dX0_become_19 ?_
  refine w_aload_n 1 22 hX rfl rfl dX0_become_22 ?_
  refine w_getR 23 hX CI_0 s_23 rfl r_23_2 fl_X0_18 rfl dX0_become_23 ?_
  refine w_aload_n 0 26 hX rfl rfl dX0_become_26 ?_
  refine w_getR 27 hX CI_0 s_68 rfl r_68_2 fl_X0_18 rfl dX0_become_27 ?_
  obtain ⟨u3, gu3, h⟩ := o_bind h
  refine w_invSNv (av := [.ref 26, .ref 71]) (st := []) 30 hX ms_yX11_copy mi_yX11_copy ml_X0_34 (C_copy s_26 s_71 (by decide) (by decide) (by decide) gu3) rfl (by decide) (Nat.le_of_ble_eq_true rfl) (Nat.le_refl _) (Nat.le_refl _) dX0_become_30 ?_
  refine w_aload_n 1 33 hX rfl rfl dX0_become_33 ?_
  refine w_getR 34 hX CI_0 s_23 rfl r_23_3 fl_X0_21 rfl dX0_become_34 ?_
  refine w_aload_n 0 37 hX rfl rfl dX0_become_37 ?_
  refine w_getR 38 hX CI_0 s_68 rfl r_68_3 fl_X0_21 rfl dX0_become_38 ?_
  obtain ⟨u4, gu4, h⟩ := o_bind h
  refine w_invSNv (av := [.ref 27, .ref 72]) (st := []) 41 hX ms_yX11_copy mi_yX11_copy ml_X0_34 (C_copy s_27 s_72 (by decide) (by decide) (by decide) gu4) rfl (by decide) (Nat.le_of_ble_eq_true rfl) (Nat.le_refl _) (Nat.le_refl _) dX0_become_41 ?_
  refine w_aload_n 1 44 hX rfl rfl dX0_become_44 ?_
  refine w_getR 45 hX CI_0 s_23 rfl r_23_4 fl_X0_24 rfl dX0_become_45 ?_
  refine w_aload_n 0 48 hX rfl rfl dX0_become_48 ?_
  refine w_getR 49 hX CI_0 s_68 rfl r_68_4 fl_X0_24 rfl dX0_become_49 ?_
  obtain ⟨u5, gu5, h⟩ := o_bind h
  refine w_invSNv (av := [.ref 28, .ref 73]) (st := []) 52 hX ms_yX11_copy mi_yX11_copy ml_X0_34 (C_copy s_28 s_73 (by decide) (by decide) (by decide) gu5) rfl (by decide) (Nat.le_of_ble_eq_true rfl) (Nat.le_refl _) (Nat.le_refl _) dX0_become_52 ?_
  refine w_aload_n 1 55 hX rfl rfl dX0_become_55 ?_
  refine w_getR 56 hX CI_0 s_23 rfl r_23_5 fl_X0_27 rfl dX0_become_56 ?_
  refine w_aload_n 0 59 hX rfl rfl dX0_become_59 ?_
  refine w_getR 60 hX CI_0 s_68 rfl r_68_5 fl_X0_27 rfl dX0_become_60 ?_
  obtain ⟨u6, gu6, h⟩ := o_bind h
  refine w_invSNv (av := [.ref 29, .ref 74]) (st := []) 63 hX ms_yX11_copy mi_yX11_copy ml_X0_34 (C_copy s_29 s_74 (by decide) (by decide) (by decide) gu6) rfl (by decide) (Nat.le_of_ble_eq_true rfl) (Nat.le_refl _) (Nat.le_refl _) dX0_become_63 ?_
  refine w_aload_n 0 66 hX rfl rfl dX0_become_66 ?_
  refine w_aload_n 1 67 hX rfl rfl dX0_become_67 ?_
  refine w_getI (j := 6) 68 hX CI_0 s_23 rfl fl_X0_30 rfl dX0_become_68 ?_
  obtain ⟨u7, gu7, h⟩ := o_bind h
  refine w_putI (j := 6) 71 hX CI_0 s_68 rfl fl_X0_30 rfl rfl rfl rfl dX0_become_71 ?_
  rw [Option.some.inj gu7]
  refine w_aload_n 0 74 hX rfl rfl dX0_become_74 ?_
  refine w_aload_n 1 75 hX rfl rfl dX0_become_75 ?_
  refine w_getI (j := 7) 76 hX CI_0 s_23 rfl fl_X0_38 rfl dX0_become_76 ?_
  obtain ⟨u8, gu8, h⟩ := o_bind h
  refine w_putI (j := 7) 79 hX CI_0 s_68 rfl fl_X0_38 rfl rfl rfl rfl dX0_become_79 ?_
  rw [Option.some.inj gu8]
  refine w_aload_n 0 82 hX rfl rfl dX0_become_82 ?_
  refine w_aload_n 1 83 hX rfl rfl dX0_become_83 ?_
  refine w_getI (j := 8) 84 hX CI_0 s_23 rfl fl_X0_41 rfl dX0_become_84 ?_
  obtain ⟨u9, gu9, h⟩ := o_bind h
  refine w_putI (j := 8) 87 hX CI_0 s_68 rfl fl_X0_41 rfl rfl rfl rfl dX0_become_87 ?_
  rw [Option.some.inj gu9]
  refine w_aload_n 0 90 hX rfl rfl dX0_become_90 ?_
  refine w_aload_n 1 91 hX rfl rfl dX0_become_91 ?_
  refine w_getI (j := 9) 92 hX CI_0 s_23 rfl fl_X0_44 rfl dX0_become_92 ?_
  obtain ⟨u10, gu10, h⟩ := o_bind h
  refine w_putI (j := 9) 95 hX CI_0 s_68 rfl fl_X0_44 rfl rfl rfl rfl dX0_become_95 ?_
  rw [Option.some.inj gu10]
  exact w_vret 98 hX hR dX0_become_98 (by cases h; rfl))
def FX0_become_75_23 (u : Mem) : Option Mem :=
  (some (cpM u 24 76 12)).bind fun u1 => (some (cpM u1 25 77 12)).bind fun u2 => (some (cpM u2 26 78 12)).bind fun u3 => (some (cpM u3 27 79 12)).bind fun u4 => (some (cpM u4 28 80 12)).bind fun u5 => (some (cpM u5 29 81 12)).bind fun u6 => (some (mupd u6 75 6 (u6 23 6))).bind fun u7 => (some (mupd u7 75 7 (u7 23 7))).bind fun u8 => (some (mupd u8 75 8 (u8 23 8))).bind fun u9 => (some (mupd u9 75 9 (u9 23 9))).bind fun u10 => some u10
theorem CX0_become_75_23 {G : Gt} (u : Mem) {u' : Mem} (h : FX0_become_75_23 u = some u') : CT G yX0_become cX0_become 2 none 3 [.ref 75, .ref 23] (SHg G) (RHg G) u (none, (SHg G), (RHg G), u') :=
  ct_of (by decide) rfl (Nat.le_of_ble_eq_true rfl) (Nat.le_refl _) (Nat.le_refl _) (fun X hX hR => by
  unfold FX0_become_75_23 at h
  refine w_aload_n 1 0 hX rfl rfl dX0_become_0 ?_
  refine w_getR 1 hX CI_0 s_23 rfl r_23_0 fl_X0_9 rfl dX0_become_1 ?_
  refine w_aload_n 0 4 hX rfl rfl dX0_become_4 ?_
  refine w_getR 5 hX CI_0 s_75 rfl r_75_0 fl_X0_9 rfl dX0_become_5 ?_
  obtain ⟨u1, gu1, h⟩ := o_bind h
  refine w_invSNv (av := [.ref 24, .ref 76]) (st := []) 8 hX ms_yX11_copy mi_yX11_copy ml_X0_34 (C_copy s_24 s_76 (by decide) (by decide) (by decide) gu1) rfl (by decide) (Nat.le_of_ble_eq_true rfl) (Nat.le_refl _) (Nat.le_refl _) dX0_become_8 ?_
  refine w_aload_n 1 11 hX rfl rfl dX0_become_11 ?_
  refine w_getR 12 hX CI_0 s_23 rfl r_23_1 fl_X0_15 rfl dX0_become_12 ?_
  refine w_aload_n 0 15 hX rfl rfl dX0_become_15 ?_
  refine w_getR 16 hX CI_0 s_75 rfl r_75_1 fl_X0_15 rfl dX0_become_16 ?_
  obtain ⟨u2, gu2, h⟩ := o_bind h
  refine w_invSNv (av := [.ref 25, .ref 77]) (st := []) 19 hX ms_yX11_copy mi_yX11_copy ml_X0_34 (C_copy s_25 s_77 (by decide) (by decide) (by decide) gu2) rfl (by decide) (Nat.le_of_ble_eq_true rfl) (Nat.le_refl _) (Nat.le_refl _) dX0_become_19 ?_
  refine w_aload_n 1 22 hX rfl rfl dX0_become_22 ?_
  refine w_getR 23 hX CI_0 s_23 rfl r_23_2 fl_X0_18 rfl dX0_become_23 ?_
  refine w_aload_n 0 26 hX rfl rfl dX0_become_26 ?_
  refine w_getR 27 hX CI_0 s_75 rfl r_75_2 fl_X0_18 rfl dX0_become_27 ?_
  obtain ⟨u3, gu3, h⟩ := o_bind h
  refine w_invSNv (av := [.ref 26, .ref 78]) (st := []) 30 hX ms_yX11_copy mi_yX11_copy ml_X0_34 (C_copy s_26 s_78 (by decide) (by decide) (by decide) gu3) rfl (by decide) (Nat.le_of_ble_eq_true rfl) (Nat.le_refl _) (Nat.le_refl _) dX0_become_30 ?_
  refine w_aload_n 1 33 hX rfl rfl dX0_become_33 ?_
  refine w_getR 34 hX CI_0 s_23 rfl r_23_3 fl_X0_21 rfl dX0_become_34 ?_
  refine w_aload_n 0 37 hX rfl rfl dX0_become_37 ?_
  refine w_getR 38 hX CI_0 s_75 rfl r_75_3 fl_X0_21 rfl dX0_become_38 ?_
  obtain ⟨u4, gu4, h⟩ := o_bind h
  refine w_invSNv (av := [.ref 27, .ref 79]) (st := []) 41 hX ms_yX11_copy mi_yX11_copy ml_X0_34 (C_copy s_27 s_79 (by decide) (by decide) (by decide) gu4) rfl (by decide) (Nat.le_of_ble_eq_true rfl) (Nat.le_refl _) (Nat.le_refl _) dX0_become_41 ?_
  refine w_aload_n 1 44 hX rfl rfl dX0_become_44 ?_
  refine w_getR 45 hX CI_0 s_23 rfl r_23_4 fl_X0_24 rfl dX0_become_45 ?_
  refine w_aload_n 0 48 hX rfl rfl dX0_become_48 ?_
  refine w_getR 49 hX CI_0 s_75 rfl r_75_4 fl_X0_24 rfl dX0_become_49 ?_
  obtain ⟨u5, gu5, h⟩ := o_bind h
  refine w_invSNv (av := [.ref 28, .ref 80]) (st := []) 52 hX ms_yX11_copy mi_yX11_copy ml_X0_34 (C_copy s_28 s_80 (by decide) (by decide) (by decide) gu5) rfl (by decide) (Nat.le_of_ble_eq_true rfl) (Nat.le_refl _) (Nat.le_refl _) dX0_become_52 ?_
  refine w_aload_n 1 55 hX rfl rfl dX0_become_55 ?_
  refine w_getR 56 hX CI_0 s_23 rfl r_23_5 fl_X0_27 rfl dX0_become_56 ?_
  refine w_aload_n 0 59 hX rfl rfl dX0_become_59 ?_
  refine w_getR 60 hX CI_0 s_75 rfl r_75_5 fl_X0_27 rfl dX0_become_60 ?_
  obtain ⟨u6, gu6, h⟩ := o_bind h
  refine w_invSNv (av := [.ref 29, .ref 81]) (st := []) 63 hX ms_yX11_copy mi_yX11_copy ml_X0_34 (C_copy s_29 s_81 (by decide) (by decide) (by decide) gu6) rfl (by decide) (Nat.le_of_ble_eq_true rfl) (Nat.le_refl _) (Nat.le_refl _) dX0_become_63 ?_
  refine w_aload_n 0 66 hX rfl rfl dX0_become_66 ?_
  refine w_aload_n 1 67 hX rfl rfl dX0_become_67 ?_
  refine w_getI (j := 6) 68 hX CI_0 s_23 rfl fl_X0_30 rfl dX0_become_68 ?_
  obtain ⟨u7, gu7, h⟩ := o_bind h
  refine w_putI (j := 6) 71 hX CI_0 s_75 rfl fl_X0_30 rfl rfl rfl rfl dX0_become_71 ?_
  rw [Option.some.inj gu7]
  refine w_aload_n 0 74 hX rfl rfl dX0_become_74 ?_
  refine w_aload_n 1 75 hX rfl rfl dX0_become_75 ?_
  refine w_getI (j := 7) 76 hX CI_0 s_23 rfl fl_X0_38 rfl dX0_become_76 ?_
  obtain ⟨u8, gu8, h⟩ := o_bind h
  refine w_putI (j := 7) 79 hX CI_0 s_75 rfl fl_X0_38 rfl rfl rfl rfl dX0_become_79 ?_
  rw [Option.some.inj gu8]
  refine w_aload_n 0 82 hX rfl rfl dX0_become_82 ?_
  refine w_aload_n 1 83 hX rfl rfl dX0_become_83 ?_
  refine w_getI (j := 8) 84 hX CI_0 s_23 rfl fl_X0_41 rfl dX0_become_84 ?_
  obtain ⟨u9, gu9, h⟩ := o_bind h
  refine w_putI (j := 8) 87 hX CI_0 s_75 rfl fl_X0_41 rfl rfl rfl rfl dX0_become_87 ?_
  rw [Option.some.inj gu9]
  refine w_aload_n 0 90 hX rfl rfl dX0_become_90 ?_
  refine w_aload_n 1 91 hX rfl rfl dX0_become_91 ?_
  refine w_getI (j := 9) 92 hX CI_0 s_23 rfl fl_X0_44 rfl dX0_become_92 ?_
  obtain ⟨u10, gu10, h⟩ := o_bind h
  refine w_putI (j := 9) 95 hX CI_0 s_75 rfl fl_X0_44 rfl rfl rfl rfl dX0_become_95 ?_
  rw [Option.some.inj gu10]
  exact w_vret 98 hX hR dX0_become_98 (by cases h; rfl))
def FX0_become_82_23 (u : Mem) : Option Mem :=
  (some (cpM u 24 83 12)).bind fun u1 => (some (cpM u1 25 84 12)).bind fun u2 => (some (cpM u2 26 85 12)).bind fun u3 => (some (cpM u3 27 86 12)).bind fun u4 => (some (cpM u4 28 87 12)).bind fun u5 => (some (cpM u5 29 88 12)).bind fun u6 => (some (mupd u6 82 6 (u6 23 6))).bind fun u7 => (some (mupd u7 82 7 (u7 23 7))).bind fun u8 => (some (mupd u8 82 8 (u8 23 8))).bind fun u9 => (some (mupd u9 82 9 (u9 23 9))).bind fun u10 => some u10
theorem CX0_become_82_23 {G : Gt} (u : Mem) {u' : Mem} (h : FX0_become_82_23 u = some u') : CT G yX0_become cX0_become 2 none 3 [.ref 82, .ref 23] (SHg G) (RHg G) u (none, (SHg G), (RHg G), u') :=
  ct_of (by decide) rfl (Nat.le_of_ble_eq_true rfl) (Nat.le_refl _) (Nat.le_refl _) (fun X hX hR => by
  unfold FX0_become_82_23 at h
  refine w_aload_n 1 0 hX rfl rfl dX0_become_0 ?_
  refine w_getR 1 hX CI_0 s_23 rfl r_23_0 fl_X0_9 rfl dX0_become_1 ?_
  refine w_aload_n 0 4 hX rfl rfl dX0_become_4 ?_
  refine w_getR 5 hX CI_0 s_82 rfl r_82_0 fl_X0_9 rfl dX0_become_5 ?_
  obtain ⟨u1, gu1, h⟩ := o_bind h
  refine w_invSNv (av := [.ref 24, .ref 83]) (st := []) 8 hX ms_yX11_copy mi_yX11_copy ml_X0_34 (C_copy s_24 s_83 (by decide) (by decide) (by decide) gu1) rfl (by decide) (Nat.le_of_ble_eq_true rfl) (Nat.le_refl _) (Nat.le_refl _) dX0_become_8 ?_
  refine w_aload_n 1 11 hX rfl rfl dX0_become_11 ?_
  refine w_getR 12 hX CI_0 s_23 rfl r_23_1 fl_X0_15 rfl dX0_become_12 ?_
  refine w_aload_n 0 15 hX rfl rfl dX0_become_15 ?_
  refine w_getR 16 hX CI_0 s_82 rfl r_82_1 fl_X0_15 rfl dX0_become_16 ?_
  obtain ⟨u2, gu2, h⟩ := o_bind h
  refine w_invSNv (av := [.ref 25, .ref 84]) (st := []) 19 hX ms_yX11_copy mi_yX11_copy ml_X0_34 (C_copy s_25 s_84 (by decide) (by decide) (by decide) gu2) rfl (by decide) (Nat.le_of_ble_eq_true rfl) (Nat.le_refl _) (Nat.le_refl _) dX0_become_19 ?_
  refine w_aload_n 1 22 hX rfl rfl dX0_become_22 ?_
  refine w_getR 23 hX CI_0 s_23 rfl r_23_2 fl_X0_18 rfl dX0_become_23 ?_
  refine w_aload_n 0 26 hX rfl rfl dX0_become_26 ?_
  refine w_getR 27 hX CI_0 s_82 rfl r_82_2 fl_X0_18 rfl dX0_become_27 ?_
  obtain ⟨u3, gu3, h⟩ := o_bind h
  refine w_invSNv (av := [.ref 26, .ref 85]) (st := []) 30 hX ms_yX11_copy mi_yX11_copy ml_X0_34 (C_copy s_26 s_85 (by decide) (by decide) (by decide) gu3) rfl (by decide) (Nat.le_of_ble_eq_true rfl) (Nat.le_refl _) (Nat.le_refl _) dX0_become_30 ?_
  refine w_aload_n 1 33 hX rfl rfl dX0_become_33 ?_
  refine w_getR 34 hX CI_0 s_23 rfl r_23_3 fl_X0_21 rfl dX0_become_34 ?_
  refine w_aload_n 0 37 hX rfl rfl dX0_become_37 ?_
  refine w_getR 38 hX CI_0 s_82 rfl r_82_3 fl_X0_21 rfl dX0_become_38 ?_
  obtain ⟨u4, gu4, h⟩ := o_bind h
  refine w_invSNv (av := [.ref 27, .ref 86]) (st := []) 41 hX ms_yX11_copy mi_yX11_copy ml_X0_34 (C_copy s_27 s_86 (by decide) (by decide) (by decide) gu4) rfl (by decide) (Nat.le_of_ble_eq_true rfl) (Nat.le_refl _) (Nat.le_refl _) dX0_become_41 ?_
  refine w_aload_n 1 44 hX rfl rfl dX0_become_44 ?_
  refine w_getR 45 hX CI_0 s_23 rfl r_23_4 fl_X0_24 rfl dX0_become_45 ?_
  refine w_aload_n 0 48 hX rfl rfl dX0_become_48 ?_
  refine w_getR 49 hX CI_0 s_82 rfl r_82_4 fl_X0_24 rfl dX0_become_49 ?_
  obtain ⟨u5, gu5, h⟩ := o_bind h
  refine w_invSNv (av := [.ref 28, .ref 87]) (st := []) 52 hX ms_yX11_copy mi_yX11_copy ml_X0_34 (C_copy s_28 s_87 (by decide) (by decide) (by decide) gu5) rfl (by decide) (Nat.le_of_ble_eq_true rfl) (Nat.le_refl _) (Nat.le_refl _) dX0_become_52 ?_
  refine w_aload_n 1 55 hX rfl rfl dX0_become_55 ?_
  refine w_getR 56 hX CI_0 s_23 rfl r_23_5 fl_X0_27 rfl dX0_become_56 ?_
  refine w_aload_n 0 59 hX rfl rfl dX0_become_59 ?_
  refine w_getR 60 hX CI_0 s_82 rfl r_82_5 fl_X0_27 rfl dX0_become_60 ?_
  obtain ⟨u6, gu6, h⟩ := o_bind h
  refine w_invSNv (av := [.ref 29, .ref 88]) (st := []) 63 hX ms_yX11_copy mi_yX11_copy ml_X0_34 (C_copy s_29 s_88 (by decide) (by decide) (by decide) gu6) rfl (by decide) (Nat.le_of_ble_eq_true rfl) (Nat.le_refl _) (Nat.le_refl _) dX0_become_63 ?_
  refine w_aload_n 0 66 hX rfl rfl dX0_become_66 ?_
  refine w_aload_n 1 67 hX rfl rfl dX0_become_67 ?_
  refine w_getI (j := 6) 68 hX CI_0 s_23 rfl fl_X0_30 rfl dX0_become_68 ?_
  obtain ⟨u7, gu7, h⟩ := o_bind h
  refine w_putI (j := 6) 71 hX CI_0 s_82 rfl fl_X0_30 rfl rfl rfl rfl dX0_become_71 ?_
  rw [Option.some.inj gu7]
  refine w_aload_n 0 74 hX rfl rfl dX0_become_74 ?_
  refine w_aload_n 1 75 hX rfl rfl dX0_become_75 ?_
  refine w_getI (j := 7) 76 hX CI_0 s_23 rfl fl_X0_38 rfl dX0_become_76 ?_
  obtain ⟨u8, gu8, h⟩ := o_bind h
  refine w_putI (j := 7) 79 hX CI_0 s_82 rfl fl_X0_38 rfl rfl rfl rfl dX0_become_79 ?_
  rw [Option.some.inj gu8]
  refine w_aload_n 0 82 hX rfl rfl dX0_become_82 ?_
  refine w_aload_n 1 83 hX rfl rfl dX0_become_83 ?_
  refine w_getI (j := 8) 84 hX CI_0 s_23 rfl fl_X0_41 rfl dX0_become_84 ?_
  obtain ⟨u9, gu9, h⟩ := o_bind h
  refine w_putI (j := 8) 87 hX CI_0 s_82 rfl fl_X0_41 rfl rfl rfl rfl dX0_become_87 ?_
  rw [Option.some.inj gu9]
  refine w_aload_n 0 90 hX rfl rfl dX0_become_90 ?_
  refine w_aload_n 1 91 hX rfl rfl dX0_become_91 ?_
  refine w_getI (j := 9) 92 hX CI_0 s_23 rfl fl_X0_44 rfl dX0_become_92 ?_
  obtain ⟨u10, gu10, h⟩ := o_bind h
  refine w_putI (j := 9) 95 hX CI_0 s_82 rfl fl_X0_44 rfl rfl rfl rfl dX0_become_95 ?_
  rw [Option.some.inj gu10]
  exact w_vret 98 hX hR dX0_become_98 (by cases h; rfl))
def FX0_become_89_23 (u : Mem) : Option Mem :=
  (some (cpM u 24 90 12)).bind fun u1 => (some (cpM u1 25 91 12)).bind fun u2 => (some (cpM u2 26 92 12)).bind fun u3 => (some (cpM u3 27 93 12)).bind fun u4 => (some (cpM u4 28 94 12)).bind fun u5 => (some (cpM u5 29 95 12)).bind fun u6 => (some (mupd u6 89 6 (u6 23 6))).bind fun u7 => (some (mupd u7 89 7 (u7 23 7))).bind fun u8 => (some (mupd u8 89 8 (u8 23 8))).bind fun u9 => (some (mupd u9 89 9 (u9 23 9))).bind fun u10 => some u10
theorem CX0_become_89_23 {G : Gt} (u : Mem) {u' : Mem} (h : FX0_become_89_23 u = some u') : CT G yX0_become cX0_become 2 none 3 [.ref 89, .ref 23] (SHg G) (RHg G) u (none, (SHg G), (RHg G), u') :=
  ct_of (by decide) rfl (Nat.le_of_ble_eq_true rfl) (Nat.le_refl _) (Nat.le_refl _) (fun X hX hR => by
  unfold FX0_become_89_23 at h
  refine w_aload_n 1 0 hX rfl rfl dX0_become_0 ?_
  refine w_getR 1 hX CI_0 s_23 rfl r_23_0 fl_X0_9 rfl dX0_become_1 ?_
  refine w_aload_n 0 4 hX rfl rfl dX0_become_4 ?_
  refine w_getR 5 hX CI_0 s_89 rfl r_89_0 fl_X0_9 rfl dX0_become_5 ?_
  obtain ⟨u1, gu1, h⟩ := o_bind h
  refine w_invSNv (av := [.ref 24, .ref 90]) (st := []) 8 hX ms_yX11_copy mi_yX11_copy ml_X0_34 (C_copy s_24 s_90 (by decide) (by decide) (by decide) gu1) rfl (by decide) (Nat.le_of_ble_eq_true rfl) (Nat.le_refl _) (Nat.le_refl _) dX0_become_8 ?_
  refine w_aload_n 1 11 hX rfl rfl dX0_become_11 ?_
  refine w_getR 12 hX CI_0 s_23 rfl r_23_1 fl_X0_15 rfl dX0_become_12 ?_
  refine w_aload_n 0 15 hX rfl rfl dX0_become_15 ?_
  refine w_getR 16 hX CI_0 s_89 rfl r_89_1 fl_X0_15 rfl dX0_become_16 ?_
  obtain ⟨u2, gu2, h⟩ := o_bind h
  refine w_invSNv (av := [.ref 25, .ref 91]) (st := []) 19 hX ms_yX11_copy mi_yX11_copy ml_X0_34 (C_copy s_25 s_91 (by decide) (by decide) (by decide) gu2) rfl (by decide) (Nat.le_of_ble_eq_true rfl) (Nat.le_refl _) (Nat.le_refl _) dX0_become_19 ?_
  refine w_aload_n 1 22 hX rfl rfl dX0_become_22 ?_
  refine w_getR 23 hX CI_0 s_23 rfl r_23_2 fl_X0_18 rfl dX0_become_23 ?_
  refine w_aload_n 0 26 hX rfl rfl dX0_become_26 ?_
  refine w_getR 27 hX CI_0 s_89 rfl r_89_2 fl_X0_18 rfl dX0_become_27 ?_
  obtain ⟨u3, gu3, h⟩ := o_bind h
  refine w_invSNv (av := [.ref 26, .ref 92]) (st := []) 30 hX ms_yX11_copy mi_yX11_copy ml_X0_34 (C_copy s_26 s_92 (by decide) (by decide) (by decide) gu3) rfl (by decide) (Nat.le_of_ble_eq_true rfl) (Nat.le_refl _) (Nat.le_refl _) dX0_become_30 ?_
  refine w_aload_n 1 33 hX rfl rfl dX0_become_33 ?_
  refine w_getR 34 hX CI_0 s_23 rfl r_23_3 fl_X0_21 rfl dX0_become_34 ?_
  refine w_aload_n 0 37 hX rfl rfl dX0_become_37 ?_
  refine w_getR 38 hX CI_0 s_89 rfl r_89_3 fl_X0_21 rfl dX0_become_38 ?_
  obtain ⟨u4, gu4, h⟩ := o_bind h
  refine w_invSNv (av := [.ref 27, .ref 93]) (st := []) 41 hX ms_yX11_copy mi_yX11_copy ml_X0_34 (C_copy s_27 s_93 (by decide) (by decide) (by decide) gu4) rfl (by decide) (Nat.le_of_ble_eq_true rfl) (Nat.le_refl _) (Nat.le_refl _) dX0_become_41 ?_
  refine w_aload_n 1 44 hX rfl rfl dX0_become_44 ?_
  refine w_getR 45 hX CI_0 s_23 rfl r_23_4 fl_X0_24 rfl dX0_become_45 ?_
  refine w_aload_n 0 48 hX rfl rfl dX0_become_48 ?_
  refine w_getR 49 hX CI_0 s_89 rfl r_89_4 fl_X0_24 rfl dX0_become_49 ?_
  obtain ⟨u5, gu5, h⟩ := o_bind h
  refine w_invSNv (av := [.ref 28, .ref 94]) (st := []) 52 hX ms_yX11_copy mi_yX11_copy ml_X0_34 (C_copy s_28 s_94 (by decide) (by decide) (by decide) gu5) rfl (by decide) (Nat.le_of_ble_eq_true rfl) (Nat.le_refl _) (Nat.le_refl _) dX0_become_52 ?_
  refine w_aload_n 1 55 hX rfl rfl dX0_become_55 ?_
  refine w_getR 56 hX CI_0 s_23 rfl r_23_5 fl_X0_27 rfl dX0_become_56 ?_
  refine w_aload_n 0 59 hX rfl rfl dX0_become_59 ?_
  refine w_getR 60 hX CI_0 s_89 rfl r_89_5 fl_X0_27 rfl dX0_become_60 ?_
  obtain ⟨u6, gu6, h⟩ := o_bind h
  refine w_invSNv (av := [.ref 29, .ref 95]) (st := []) 63 hX ms_yX11_copy mi_yX11_copy ml_X0_34 (C_copy s_29 s_95 (by decide) (by decide) (by decide) gu6) rfl (by decide) (Nat.le_of_ble_eq_true rfl) (Nat.le_refl _) (Nat.le_refl _) dX0_become_63 ?_
  refine w_aload_n 0 66 hX rfl rfl dX0_become_66 ?_
  refine w_aload_n 1 67 hX rfl rfl dX0_become_67 ?_
  refine w_getI (j := 6) 68 hX CI_0 s_23 rfl fl_X0_30 rfl dX0_become_68 ?_
  obtain ⟨u7, gu7, h⟩ := o_bind h
  refine w_putI (j := 6) 71 hX CI_0 s_89 rfl fl_X0_30 rfl rfl rfl rfl dX0_become_71 ?_
  rw [Option.some.inj gu7]
  refine w_aload_n 0 74 hX rfl rfl dX0_become_74 ?_
  refine w_aload_n 1 75 hX rfl rfl dX0_become_75 ?_
  refine w_getI (j := 7) 76 hX CI_0 s_23 rfl fl_X0_38 rfl dX0_become_76 ?_
  obtain ⟨u8, gu8, h⟩ := o_bind h
  refine w_putI (j := 7) 79 hX CI_0 s_89 rfl fl_X0_38 rfl rfl rfl rfl dX0_become_79 ?_
  rw [Option.some.inj gu8]
  refine w_aload_n 0 82 hX rfl rfl dX0_become_82 ?_
  refine w_aload_n 1 83 hX rfl rfl dX0_become_83 ?_
  refine w_getI (j := 8) 84 hX CI_0 s_23 rfl fl_X0_41 rfl dX0_become_84 ?_
  obtain ⟨u9, gu9, h⟩ := o_bind h
  refine w_putI (j := 8) 87 hX CI_0 s_89 rfl fl_X0_41 rfl rfl rfl rfl dX0_become_87 ?_
  rw [Option.some.inj gu9]
  refine w_aload_n 0 90 hX rfl rfl dX0_become_90 ?_
  refine w_aload_n 1 91 hX rfl rfl dX0_become_91 ?_
  refine w_getI (j := 9) 92 hX CI_0 s_23 rfl fl_X0_44 rfl dX0_become_92 ?_
  obtain ⟨u10, gu10, h⟩ := o_bind h
  refine w_putI (j := 9) 95 hX CI_0 s_89 rfl fl_X0_44 rfl rfl rfl rfl dX0_become_95 ?_
  rw [Option.some.inj gu10]
  exact w_vret 98 hX hR dX0_become_98 (by cases h; rfl))
def FX10_remember_52_23 (u : Mem) : Option Mem :=
  (if (u 52 1) < 0 then (some u) else ((if 6 ≤ (u 52 1) then (some u) else ((if (u 52 1) = 0 then ((FX0_become_54_23 u).bind fun u5 => (rmI ((u5 52 1) + 1) 6).bind fun x6 => (some (mupd u5 52 1 x6)).bind fun u7 => (some (mupd u7 52 2 (if ((u7 52 2) + 1) < 6 then ((u7 52 2) + 1) else 6))).bind fun u8 => some u8) else ((if (u 52 1) = 1 then ((FX0_become_61_23 u).bind fun u11 => (rmI ((u11 52 1) + 1) 6).bind fun x12 => (some (mupd u11 52 1 x12)).bind fun u13 => (some (mupd u13 52 2 (if ((u13 52 2) + 1) < 6 then ((u13 52 2) + 1) else 6))).bind fun u14 => some u14) else ((if (u 52 1) = 2 then ((FX0_become_68_23 u).bind fun u17 => (rmI ((u17 52 1) + 1) 6).bind fun x18 => (some (mupd u17 52 1 x18)).bind fun u19 => (some (mupd u19 52 2 (if ((u19 52 2) + 1) < 6 then ((u19 52 2) + 1) else 6))).bind fun u20 => some u20) else ((if (u 52 1) = 3 then ((FX0_become_75_23 u).bind fun u23 => (rmI ((u23 52 1) + 1) 6).bind fun x24 => (some (mupd u23 52 1 x24)).bind fun u25 => (some (mupd u25 52 2 (if ((u25 52 2) + 1) < 6 then ((u25 52 2) + 1) else 6))).bind fun u26 => some u26) else ((if (u 52 1) = 4 then ((FX0_become_82_23 u).bind fun u29 => (rmI ((u29 52 1) + 1) 6).bind fun x30 => (some (mupd u29 52 1 x30)).bind fun u31 => (some (mupd u31 52 2 (if ((u31 52 2) + 1) < 6 then ((u31 52 2) + 1) else 6))).bind fun u32 => some u32) else ((if (u 52 1) = 5 then ((FX0_become_89_23 u).bind fun u35 => (rmI ((u35 52 1) + 1) 6).bind fun x36 => (some (mupd u35 52 1 x36)).bind fun u37 => (some (mupd u37 52 2 (if ((u37 52 2) + 1) < 6 then ((u37 52 2) + 1) else 6))).bind fun u38 => some u38) else (none))))))))))))))))
theorem CX10_remember_52_23 {G : Gt} (u : Mem) {u' : Mem} (h : FX10_remember_52_23 u = some u') : CT G yX10_remember cX10_remember 2 none 4 [.ref 52, .ref 23] (SHg G) (RHg G) u (none, (SHg G), (RHg G), u') :=
  ct_of (by decide) rfl (Nat.le_of_ble_eq_true rfl) (Nat.le_refl _) (Nat.le_refl _) (fun X hX hR => by
  unfold FX10_remember_52_23 at h
  refine w_aload_n 0 0 hX rfl rfl dX10_remember_0 ?_
  refine w_getI (j := 1) 1 hX CI_10 s_52 rfl fl_X10_20 rfl dX10_remember_1 ?_
  refine w_if_lt (tgt := 69) 4 hX dX10_remember_4 (by decide) (fun c1 => ?_) (fun c1 => ?_)
  · have h := it h c1
    exact w_vret 69 hX hR dX10_remember_69 (by cases h; rfl)
  · have h := ie h c1
    refine w_aload_n 0 7 hX rfl rfl dX10_remember_7 ?_
    refine w_getI (j := 1) 8 hX CI_10 s_52 rfl fl_X10_20 rfl dX10_remember_8 ?_
    refine w_bipush 6 11 hX ib_6 dX10_remember_11 ?_
    refine w_icmp_ge (tgt := 69) 13 hX dX10_remember_13 (by decide) (fun c2 => ?_) (fun c2 => ?_)
    · have h := it h c2
      exact w_vret 69 hX hR dX10_remember_69 (by cases h; rfl)
    · have h := ie h c2
      refine w_aload_n 0 16 hX rfl rfl dX10_remember_16 ?_
      refine w_getR 17 hX CI_10 s_52 rfl r_52_0 fl_X10_11 rfl dX10_remember_17 ?_
      refine w_aload_n 0 20 hX rfl rfl dX10_remember_20 ?_
      refine w_getI (j := 1) 21 hX CI_10 s_52 rfl fl_X10_20 rfl dX10_remember_21 ?_
      by_cases c3 : (u 52 1) = 0
      · have h := it h c3
        refine w_aald 24 hX s_53 (by rw [c3]; unfold vp_in; decide) (by rw [c3]; exact r_53_0) dX10_remember_24 ?_
        refine w_ifnull 25 hX dX10_remember_25 ?_
        refine w_aload_n 0 28 hX rfl rfl dX10_remember_28 ?_
        refine w_getR 29 hX CI_10 s_52 rfl r_52_0 fl_X10_11 rfl dX10_remember_29 ?_
        refine w_aload_n 0 32 hX rfl rfl dX10_remember_32 ?_
        refine w_getI (j := 1) 33 hX CI_10 s_52 rfl fl_X10_20 rfl dX10_remember_33 ?_
        refine w_aald 36 hX s_53 (by rw [c3]; unfold vp_in; decide) (by rw [c3]; exact r_53_0) dX10_remember_36 ?_
        refine w_aload_n 1 37 hX rfl rfl dX10_remember_37 ?_
        obtain ⟨u5, gu5, h⟩ := o_bind h
        refine w_invVv (av := [.ref 23]) (st := []) 38 hX CI_0 s_54 rfl mv_yX0_become mi_yX0_become ml_X10_23 (CX0_become_54_23 u gu5) rfl (by decide) (Nat.le_of_ble_eq_true rfl) (Nat.le_refl _) (Nat.le_refl _) dX10_remember_38 ?_
        refine w_aload_n 0 41 hX rfl rfl dX10_remember_41 ?_
        refine w_aload_n 0 42 hX rfl rfl dX10_remember_42 ?_
        refine w_getI (j := 1) 43 hX CI_10 s_52 rfl fl_X10_20 rfl dX10_remember_43 ?_
        refine w_iconst 1 46 hX ic_1 dX10_remember_46 ?_
        refine w_iadd 47 hX dX10_remember_47 ?_
        refine w_bipush 6 48 hX ib_6 dX10_remember_48 ?_
        obtain ⟨x6, gx6, h⟩ := o_bind h
        obtain ⟨qx6, jx6⟩ := rmI_ok gx6
        refine w_irem 50 hX qx6 dX10_remember_50 ?_
        rw [jx6]
        obtain ⟨u7, gu7, h⟩ := o_bind h
        refine w_putI (j := 1) 51 hX CI_10 s_52 rfl fl_X10_20 rfl rfl rfl rfl dX10_remember_51 ?_
        rw [Option.some.inj gu7]
        refine w_aload_n 0 54 hX rfl rfl dX10_remember_54 ?_
        refine w_bipush 6 55 hX ib_6 dX10_remember_55 ?_
        refine w_aload_n 0 57 hX rfl rfl dX10_remember_57 ?_
        refine w_getI (j := 2) 58 hX CI_10 s_52 rfl fl_X10_16 rfl dX10_remember_58 ?_
        refine w_iconst 1 61 hX ic_1 dX10_remember_61 ?_
        refine w_iadd 62 hX dX10_remember_62 ?_
        refine w_min 63 hX ml_X10_27 jm_min_s jm_i jm_min_c (by decide) (Nat.le_of_ble_eq_true rfl) (Nat.le_refl _) (Nat.le_refl _) dX10_remember_63 ?_
        obtain ⟨u8, gu8, h⟩ := o_bind h
        refine w_putI (j := 2) 66 hX CI_10 s_52 rfl fl_X10_16 rfl rfl rfl rfl dX10_remember_66 ?_
        rw [Option.some.inj gu8]
        exact w_vret 69 hX hR dX10_remember_69 (by cases h; rfl)
      · have h := ie h c3
        by_cases c9 : (u 52 1) = 1
        · have h := it h c9
          refine w_aald 24 hX s_53 (by rw [c9]; unfold vp_in; decide) (by rw [c9]; exact r_53_1) dX10_remember_24 ?_
          refine w_ifnull 25 hX dX10_remember_25 ?_
          refine w_aload_n 0 28 hX rfl rfl dX10_remember_28 ?_
          refine w_getR 29 hX CI_10 s_52 rfl r_52_0 fl_X10_11 rfl dX10_remember_29 ?_
          refine w_aload_n 0 32 hX rfl rfl dX10_remember_32 ?_
          refine w_getI (j := 1) 33 hX CI_10 s_52 rfl fl_X10_20 rfl dX10_remember_33 ?_
          refine w_aald 36 hX s_53 (by rw [c9]; unfold vp_in; decide) (by rw [c9]; exact r_53_1) dX10_remember_36 ?_
          refine w_aload_n 1 37 hX rfl rfl dX10_remember_37 ?_
          obtain ⟨u11, gu11, h⟩ := o_bind h
          refine w_invVv (av := [.ref 23]) (st := []) 38 hX CI_0 s_61 rfl mv_yX0_become mi_yX0_become ml_X10_23 (CX0_become_61_23 u gu11) rfl (by decide) (Nat.le_of_ble_eq_true rfl) (Nat.le_refl _) (Nat.le_refl _) dX10_remember_38 ?_
          refine w_aload_n 0 41 hX rfl rfl dX10_remember_41 ?_
          refine w_aload_n 0 42 hX rfl rfl dX10_remember_42 ?_
          refine w_getI (j := 1) 43 hX CI_10 s_52 rfl fl_X10_20 rfl dX10_remember_43 ?_
          refine w_iconst 1 46 hX ic_1 dX10_remember_46 ?_
          refine w_iadd 47 hX dX10_remember_47 ?_
          refine w_bipush 6 48 hX ib_6 dX10_remember_48 ?_
          obtain ⟨x12, gx12, h⟩ := o_bind h
          obtain ⟨qx12, jx12⟩ := rmI_ok gx12
          refine w_irem 50 hX qx12 dX10_remember_50 ?_
          rw [jx12]
          obtain ⟨u13, gu13, h⟩ := o_bind h
          refine w_putI (j := 1) 51 hX CI_10 s_52 rfl fl_X10_20 rfl rfl rfl rfl dX10_remember_51 ?_
          rw [Option.some.inj gu13]
          refine w_aload_n 0 54 hX rfl rfl dX10_remember_54 ?_
          refine w_bipush 6 55 hX ib_6 dX10_remember_55 ?_
          refine w_aload_n 0 57 hX rfl rfl dX10_remember_57 ?_
          refine w_getI (j := 2) 58 hX CI_10 s_52 rfl fl_X10_16 rfl dX10_remember_58 ?_
          refine w_iconst 1 61 hX ic_1 dX10_remember_61 ?_
          refine w_iadd 62 hX dX10_remember_62 ?_
          refine w_min 63 hX ml_X10_27 jm_min_s jm_i jm_min_c (by decide) (Nat.le_of_ble_eq_true rfl) (Nat.le_refl _) (Nat.le_refl _) dX10_remember_63 ?_
          obtain ⟨u14, gu14, h⟩ := o_bind h
          refine w_putI (j := 2) 66 hX CI_10 s_52 rfl fl_X10_16 rfl rfl rfl rfl dX10_remember_66 ?_
          rw [Option.some.inj gu14]
          exact w_vret 69 hX hR dX10_remember_69 (by cases h; rfl)
        · have h := ie h c9
          by_cases c15 : (u 52 1) = 2
          · have h := it h c15
            refine w_aald 24 hX s_53 (by rw [c15]; unfold vp_in; decide) (by rw [c15]; exact r_53_2) dX10_remember_24 ?_
            refine w_ifnull 25 hX dX10_remember_25 ?_
            refine w_aload_n 0 28 hX rfl rfl dX10_remember_28 ?_
            refine w_getR 29 hX CI_10 s_52 rfl r_52_0 fl_X10_11 rfl dX10_remember_29 ?_
            refine w_aload_n 0 32 hX rfl rfl dX10_remember_32 ?_
            refine w_getI (j := 1) 33 hX CI_10 s_52 rfl fl_X10_20 rfl dX10_remember_33 ?_
            refine w_aald 36 hX s_53 (by rw [c15]; unfold vp_in; decide) (by rw [c15]; exact r_53_2) dX10_remember_36 ?_
            refine w_aload_n 1 37 hX rfl rfl dX10_remember_37 ?_
            obtain ⟨u17, gu17, h⟩ := o_bind h
            refine w_invVv (av := [.ref 23]) (st := []) 38 hX CI_0 s_68 rfl mv_yX0_become mi_yX0_become ml_X10_23 (CX0_become_68_23 u gu17) rfl (by decide) (Nat.le_of_ble_eq_true rfl) (Nat.le_refl _) (Nat.le_refl _) dX10_remember_38 ?_
            refine w_aload_n 0 41 hX rfl rfl dX10_remember_41 ?_
            refine w_aload_n 0 42 hX rfl rfl dX10_remember_42 ?_
            refine w_getI (j := 1) 43 hX CI_10 s_52 rfl fl_X10_20 rfl dX10_remember_43 ?_
            refine w_iconst 1 46 hX ic_1 dX10_remember_46 ?_
            refine w_iadd 47 hX dX10_remember_47 ?_
            refine w_bipush 6 48 hX ib_6 dX10_remember_48 ?_
            obtain ⟨x18, gx18, h⟩ := o_bind h
            obtain ⟨qx18, jx18⟩ := rmI_ok gx18
            refine w_irem 50 hX qx18 dX10_remember_50 ?_
            rw [jx18]
            obtain ⟨u19, gu19, h⟩ := o_bind h
            refine w_putI (j := 1) 51 hX CI_10 s_52 rfl fl_X10_20 rfl rfl rfl rfl dX10_remember_51 ?_
            rw [Option.some.inj gu19]
            refine w_aload_n 0 54 hX rfl rfl dX10_remember_54 ?_
            refine w_bipush 6 55 hX ib_6 dX10_remember_55 ?_
            refine w_aload_n 0 57 hX rfl rfl dX10_remember_57 ?_
            refine w_getI (j := 2) 58 hX CI_10 s_52 rfl fl_X10_16 rfl dX10_remember_58 ?_
            refine w_iconst 1 61 hX ic_1 dX10_remember_61 ?_
            refine w_iadd 62 hX dX10_remember_62 ?_
            refine w_min 63 hX ml_X10_27 jm_min_s jm_i jm_min_c (by decide) (Nat.le_of_ble_eq_true rfl) (Nat.le_refl _) (Nat.le_refl _) dX10_remember_63 ?_
            obtain ⟨u20, gu20, h⟩ := o_bind h
            refine w_putI (j := 2) 66 hX CI_10 s_52 rfl fl_X10_16 rfl rfl rfl rfl dX10_remember_66 ?_
            rw [Option.some.inj gu20]
            exact w_vret 69 hX hR dX10_remember_69 (by cases h; rfl)
          · have h := ie h c15
            by_cases c21 : (u 52 1) = 3
            · have h := it h c21
              refine w_aald 24 hX s_53 (by rw [c21]; unfold vp_in; decide) (by rw [c21]; exact r_53_3) dX10_remember_24 ?_
              refine w_ifnull 25 hX dX10_remember_25 ?_
              refine w_aload_n 0 28 hX rfl rfl dX10_remember_28 ?_
              refine w_getR 29 hX CI_10 s_52 rfl r_52_0 fl_X10_11 rfl dX10_remember_29 ?_
              refine w_aload_n 0 32 hX rfl rfl dX10_remember_32 ?_
              refine w_getI (j := 1) 33 hX CI_10 s_52 rfl fl_X10_20 rfl dX10_remember_33 ?_
              refine w_aald 36 hX s_53 (by rw [c21]; unfold vp_in; decide) (by rw [c21]; exact r_53_3) dX10_remember_36 ?_
              refine w_aload_n 1 37 hX rfl rfl dX10_remember_37 ?_
              obtain ⟨u23, gu23, h⟩ := o_bind h
              refine w_invVv (av := [.ref 23]) (st := []) 38 hX CI_0 s_75 rfl mv_yX0_become mi_yX0_become ml_X10_23 (CX0_become_75_23 u gu23) rfl (by decide) (Nat.le_of_ble_eq_true rfl) (Nat.le_refl _) (Nat.le_refl _) dX10_remember_38 ?_
              refine w_aload_n 0 41 hX rfl rfl dX10_remember_41 ?_
              refine w_aload_n 0 42 hX rfl rfl dX10_remember_42 ?_
              refine w_getI (j := 1) 43 hX CI_10 s_52 rfl fl_X10_20 rfl dX10_remember_43 ?_
              refine w_iconst 1 46 hX ic_1 dX10_remember_46 ?_
              refine w_iadd 47 hX dX10_remember_47 ?_
              refine w_bipush 6 48 hX ib_6 dX10_remember_48 ?_
              obtain ⟨x24, gx24, h⟩ := o_bind h
              obtain ⟨qx24, jx24⟩ := rmI_ok gx24
              refine w_irem 50 hX qx24 dX10_remember_50 ?_
              rw [jx24]
              obtain ⟨u25, gu25, h⟩ := o_bind h
              refine w_putI (j := 1) 51 hX CI_10 s_52 rfl fl_X10_20 rfl rfl rfl rfl dX10_remember_51 ?_
              rw [Option.some.inj gu25]
              refine w_aload_n 0 54 hX rfl rfl dX10_remember_54 ?_
              refine w_bipush 6 55 hX ib_6 dX10_remember_55 ?_
              refine w_aload_n 0 57 hX rfl rfl dX10_remember_57 ?_
              refine w_getI (j := 2) 58 hX CI_10 s_52 rfl fl_X10_16 rfl dX10_remember_58 ?_
              refine w_iconst 1 61 hX ic_1 dX10_remember_61 ?_
              refine w_iadd 62 hX dX10_remember_62 ?_
              refine w_min 63 hX ml_X10_27 jm_min_s jm_i jm_min_c (by decide) (Nat.le_of_ble_eq_true rfl) (Nat.le_refl _) (Nat.le_refl _) dX10_remember_63 ?_
              obtain ⟨u26, gu26, h⟩ := o_bind h
              refine w_putI (j := 2) 66 hX CI_10 s_52 rfl fl_X10_16 rfl rfl rfl rfl dX10_remember_66 ?_
              rw [Option.some.inj gu26]
              exact w_vret 69 hX hR dX10_remember_69 (by cases h; rfl)
            · have h := ie h c21
              by_cases c27 : (u 52 1) = 4
              · have h := it h c27
                refine w_aald 24 hX s_53 (by rw [c27]; unfold vp_in; decide) (by rw [c27]; exact r_53_4) dX10_remember_24 ?_
                refine w_ifnull 25 hX dX10_remember_25 ?_
                refine w_aload_n 0 28 hX rfl rfl dX10_remember_28 ?_
                refine w_getR 29 hX CI_10 s_52 rfl r_52_0 fl_X10_11 rfl dX10_remember_29 ?_
                refine w_aload_n 0 32 hX rfl rfl dX10_remember_32 ?_
                refine w_getI (j := 1) 33 hX CI_10 s_52 rfl fl_X10_20 rfl dX10_remember_33 ?_
                refine w_aald 36 hX s_53 (by rw [c27]; unfold vp_in; decide) (by rw [c27]; exact r_53_4) dX10_remember_36 ?_
                refine w_aload_n 1 37 hX rfl rfl dX10_remember_37 ?_
                obtain ⟨u29, gu29, h⟩ := o_bind h
                refine w_invVv (av := [.ref 23]) (st := []) 38 hX CI_0 s_82 rfl mv_yX0_become mi_yX0_become ml_X10_23 (CX0_become_82_23 u gu29) rfl (by decide) (Nat.le_of_ble_eq_true rfl) (Nat.le_refl _) (Nat.le_refl _) dX10_remember_38 ?_
                refine w_aload_n 0 41 hX rfl rfl dX10_remember_41 ?_
                refine w_aload_n 0 42 hX rfl rfl dX10_remember_42 ?_
                refine w_getI (j := 1) 43 hX CI_10 s_52 rfl fl_X10_20 rfl dX10_remember_43 ?_
                refine w_iconst 1 46 hX ic_1 dX10_remember_46 ?_
                refine w_iadd 47 hX dX10_remember_47 ?_
                refine w_bipush 6 48 hX ib_6 dX10_remember_48 ?_
                obtain ⟨x30, gx30, h⟩ := o_bind h
                obtain ⟨qx30, jx30⟩ := rmI_ok gx30
                refine w_irem 50 hX qx30 dX10_remember_50 ?_
                rw [jx30]
                obtain ⟨u31, gu31, h⟩ := o_bind h
                refine w_putI (j := 1) 51 hX CI_10 s_52 rfl fl_X10_20 rfl rfl rfl rfl dX10_remember_51 ?_
                rw [Option.some.inj gu31]
                refine w_aload_n 0 54 hX rfl rfl dX10_remember_54 ?_
                refine w_bipush 6 55 hX ib_6 dX10_remember_55 ?_
                refine w_aload_n 0 57 hX rfl rfl dX10_remember_57 ?_
                refine w_getI (j := 2) 58 hX CI_10 s_52 rfl fl_X10_16 rfl dX10_remember_58 ?_
                refine w_iconst 1 61 hX ic_1 dX10_remember_61 ?_
                refine w_iadd 62 hX dX10_remember_62 ?_
                refine w_min 63 hX ml_X10_27 jm_min_s jm_i jm_min_c (by decide) (Nat.le_of_ble_eq_true rfl) (Nat.le_refl _) (Nat.le_refl _) dX10_remember_63 ?_
                obtain ⟨u32, gu32, h⟩ := o_bind h
                refine w_putI (j := 2) 66 hX CI_10 s_52 rfl fl_X10_16 rfl rfl rfl rfl dX10_remember_66 ?_
                rw [Option.some.inj gu32]
                exact w_vret 69 hX hR dX10_remember_69 (by cases h; rfl)
              · have h := ie h c27
                by_cases c33 : (u 52 1) = 5
                · have h := it h c33
                  refine w_aald 24 hX s_53 (by rw [c33]; unfold vp_in; decide) (by rw [c33]; exact r_53_5) dX10_remember_24 ?_
                  refine w_ifnull 25 hX dX10_remember_25 ?_
                  refine w_aload_n 0 28 hX rfl rfl dX10_remember_28 ?_
                  refine w_getR 29 hX CI_10 s_52 rfl r_52_0 fl_X10_11 rfl dX10_remember_29 ?_
                  refine w_aload_n 0 32 hX rfl rfl dX10_remember_32 ?_
                  refine w_getI (j := 1) 33 hX CI_10 s_52 rfl fl_X10_20 rfl dX10_remember_33 ?_
                  refine w_aald 36 hX s_53 (by rw [c33]; unfold vp_in; decide) (by rw [c33]; exact r_53_5) dX10_remember_36 ?_
                  refine w_aload_n 1 37 hX rfl rfl dX10_remember_37 ?_
                  obtain ⟨u35, gu35, h⟩ := o_bind h
                  refine w_invVv (av := [.ref 23]) (st := []) 38 hX CI_0 s_89 rfl mv_yX0_become mi_yX0_become ml_X10_23 (CX0_become_89_23 u gu35) rfl (by decide) (Nat.le_of_ble_eq_true rfl) (Nat.le_refl _) (Nat.le_refl _) dX10_remember_38 ?_
                  refine w_aload_n 0 41 hX rfl rfl dX10_remember_41 ?_
                  refine w_aload_n 0 42 hX rfl rfl dX10_remember_42 ?_
                  refine w_getI (j := 1) 43 hX CI_10 s_52 rfl fl_X10_20 rfl dX10_remember_43 ?_
                  refine w_iconst 1 46 hX ic_1 dX10_remember_46 ?_
                  refine w_iadd 47 hX dX10_remember_47 ?_
                  refine w_bipush 6 48 hX ib_6 dX10_remember_48 ?_
                  obtain ⟨x36, gx36, h⟩ := o_bind h
                  obtain ⟨qx36, jx36⟩ := rmI_ok gx36
                  refine w_irem 50 hX qx36 dX10_remember_50 ?_
                  rw [jx36]
                  obtain ⟨u37, gu37, h⟩ := o_bind h
                  refine w_putI (j := 1) 51 hX CI_10 s_52 rfl fl_X10_20 rfl rfl rfl rfl dX10_remember_51 ?_
                  rw [Option.some.inj gu37]
                  refine w_aload_n 0 54 hX rfl rfl dX10_remember_54 ?_
                  refine w_bipush 6 55 hX ib_6 dX10_remember_55 ?_
                  refine w_aload_n 0 57 hX rfl rfl dX10_remember_57 ?_
                  refine w_getI (j := 2) 58 hX CI_10 s_52 rfl fl_X10_16 rfl dX10_remember_58 ?_
                  refine w_iconst 1 61 hX ic_1 dX10_remember_61 ?_
                  refine w_iadd 62 hX dX10_remember_62 ?_
                  refine w_min 63 hX ml_X10_27 jm_min_s jm_i jm_min_c (by decide) (Nat.le_of_ble_eq_true rfl) (Nat.le_refl _) (Nat.le_refl _) dX10_remember_63 ?_
                  obtain ⟨u38, gu38, h⟩ := o_bind h
                  refine w_putI (j := 2) 66 hX CI_10 s_52 rfl fl_X10_16 rfl rfl rfl rfl dX10_remember_66 ?_
                  rw [Option.some.inj gu38]
                  exact w_vret 69 hX hR dX10_remember_69 (by cases h; rfl)
                · have h := ie h c33
                  cases h)
def FX11_teach_0 (p1 p2 : Int32) (u : Mem) : Option (Int32 × Mem) :=
  (FX9_hasMan_1 p1 u).bind fun x1 => (if x1 = 0 then (some (0, u)) else ((FX11_isFact p2).bind fun x3 => (if x3 = 0 then (some (0, u)) else ((FX0_knows_23 p1 p2 u).bind fun x5 => (if x5 = 0 then ((FX10_remember_52_23 u).bind fun u8 => (rdA u8 25 12 p1).bind fun x9 => (wrA u8 25 12 p1 (x9 ||| ((1 : Int32) <<< (p2 &&& 31)))).bind fun u10 => some (1, u10)) else (some (0, u)))))))
theorem CX11_teach_0 {G : Gt} (p1 p2 : Int32) (u : Mem) {v : Int32} {u' : Mem} (h : FX11_teach_0 p1 p2 u = some (v, u')) : CT G yX11_teach cX11_teach 3 (some .boolean) 5 [.ref 0, .int p1, .int p2] (SHg G) (RHg G) u (some (.int v), (SHg G), (RHg G), u') :=
  ct_of (by decide) rfl (Nat.le_of_ble_eq_true rfl) (Nat.le_refl _) (Nat.le_refl _) (fun X hX hR => by
  unfold FX11_teach_0 at h
  refine w_aload_n 0 0 hX rfl rfl dX11_teach_0 ?_
  refine w_getR 1 hX CI_11 s_0 rfl r_0_0 fl_X11_10 rfl dX11_teach_1 ?_
  refine w_iload_n 1 4 hX rfl rfl dX11_teach_4 ?_
  obtain ⟨x1, gx1, h⟩ := o_bind h
  refine w_invVi (av := [.int p1]) (st := []) 5 hX CI_9 s_1 rfl mv_yX9_hasMan mi_yX9_hasMan ml_X11_119 (CX9_hasMan_1 p1 u gx1) rfl (by decide) (Nat.le_of_ble_eq_true rfl) (Nat.le_refl _) (Nat.le_refl _) dX11_teach_5 ?_
  refine w_if_eq (tgt := 30) 8 hX dX11_teach_8 (by decide) (fun c2 => ?_) (fun c2 => ?_)
  · have h := it h c2
    refine w_iconst 0 30 hX ic_0 dX11_teach_30 ?_
    exact w_zret 31 hX hR (by decide) dX11_teach_31 (by cases h; rfl)
  · have h := ie h c2
    refine w_iload_n 2 11 hX rfl rfl dX11_teach_11 ?_
    obtain ⟨x3, gx3, h⟩ := o_bind h
    refine w_invSi (av := [.int p2]) (st := []) 12 hX ms_yX11_isFact mi_yX11_isFact ml_X11_128 (CX11_isFact p2 u gx3) rfl (by decide) (Nat.le_of_ble_eq_true rfl) (Nat.le_refl _) (Nat.le_refl _) dX11_teach_12 ?_
    refine w_if_eq (tgt := 30) 15 hX dX11_teach_15 (by decide) (fun c4 => ?_) (fun c4 => ?_)
    · have h := it h c4
      refine w_iconst 0 30 hX ic_0 dX11_teach_30 ?_
      exact w_zret 31 hX hR (by decide) dX11_teach_31 (by cases h; rfl)
    · have h := ie h c4
      refine w_aload_n 0 18 hX rfl rfl dX11_teach_18 ?_
      refine w_getR 19 hX CI_11 s_0 rfl r_0_1 fl_X11_19 rfl dX11_teach_19 ?_
      refine w_iload_n 1 22 hX rfl rfl dX11_teach_22 ?_
      refine w_iload_n 2 23 hX rfl rfl dX11_teach_23 ?_
      obtain ⟨x5, gx5, h⟩ := o_bind h
      refine w_invVi (av := [.int p1, .int p2]) (st := []) 24 hX CI_0 s_23 rfl mv_yX0_knows mi_yX0_knows ml_X11_131 (CX0_knows_23 p1 p2 u gx5) rfl (by decide) (Nat.le_of_ble_eq_true rfl) (Nat.le_refl _) (Nat.le_refl _) dX11_teach_24 ?_
      refine w_if_eq (tgt := 32) 27 hX dX11_teach_27 (by decide) (fun c6 => ?_) (fun c6 => ?_)
      · have h := it h c6
        refine w_aload_n 0 32 hX rfl rfl dX11_teach_32 ?_
        refine w_getR 33 hX CI_11 s_0 rfl r_0_5 fl_X11_49 rfl dX11_teach_33 ?_
        refine w_aload_n 0 36 hX rfl rfl dX11_teach_36 ?_
        refine w_getR 37 hX CI_11 s_0 rfl r_0_1 fl_X11_19 rfl dX11_teach_37 ?_
        obtain ⟨u8, gu8, h⟩ := o_bind h
        refine w_invVv (av := [.ref 23]) (st := []) 40 hX CI_10 s_52 rfl mv_yX10_remember mi_yX10_remember ml_X11_135 (CX10_remember_52_23 u gu8) rfl (by decide) (Nat.le_of_ble_eq_true rfl) (Nat.le_refl _) (Nat.le_refl _) dX11_teach_40 ?_
        refine w_aload_n 0 43 hX rfl rfl dX11_teach_43 ?_
        refine w_getR 44 hX CI_11 s_0 rfl r_0_1 fl_X11_19 rfl dX11_teach_44 ?_
        refine w_getR 47 hX CI_0 s_23 rfl r_23_1 fl_X11_139 rfl dX11_teach_47 ?_
        refine w_iload_n 1 50 hX rfl rfl dX11_teach_50 ?_
        refine w_dup2 51 hX rfl rfl dX11_teach_51 ?_
        obtain ⟨x9, gx9, h⟩ := o_bind h
        refine w_iald 52 hX s_25 gx9 dX11_teach_52 ?_
        refine w_iconst 1 53 hX ic_1 dX11_teach_53 ?_
        refine w_iload_n 2 54 hX rfl rfl dX11_teach_54 ?_
        refine w_ishl 55 hX dX11_teach_55 ?_
        refine w_ior 56 hX dX11_teach_56 ?_
        obtain ⟨u10, gu10, h⟩ := o_bind h
        refine w_iast 57 hX s_25 gu10 dX11_teach_57 ?_
        refine w_iconst 1 58 hX ic_1 dX11_teach_58 ?_
        exact w_zret 59 hX hR (by decide) dX11_teach_59 (by cases h; rfl)
      · have h := ie h c6
        refine w_iconst 0 30 hX ic_0 dX11_teach_30 ?_
        exact w_zret 31 hX hR (by decide) dX11_teach_31 (by cases h; rfl))
def FX11_send_0_b103 (l1 l2 l3 l4 t0 : Int32) (u : Mem) : Option (Int32 × Mem) :=
  (if l4 = 0 then (some (0, u)) else ((if t0 = 0 then (some (0, u)) else ((if l3 < 0 then (some (0, u)) else ((rdA u 26 12 l2).bind fun x4 => (if l3 ≤ x4 then ((FX10_remember_52_23 u).bind fun u7 => (wrA u7 27 12 l1 1).bind fun u8 => (rdA u8 28 12 l2).bind fun x9 => (wrA u8 28 12 l1 x9).bind fun u10 => (wrA u10 27 12 l2 0).bind fun u11 => (rdA u11 26 12 l2).bind fun x12 => (wrA u11 26 12 l2 (x12 - l3)).bind fun u13 => (rdA u13 26 12 l1).bind fun x14 => (wrA u13 26 12 l1 (if (x14 + l3) < 999 then (x14 + l3) else 999)).bind fun u15 => some (1, u15)) else (some (0, u)))))))))
theorem bX11_send_0_103 {G : Gt} {X : Xt} {v : Int32} {u' : Mem} (hX : CxOk G X cX11_send 6 RX11 (some (.int v), (SHg G), (RHg G), u') 5) (hR : CxRet G X (some .boolean) (some (.int v), (SHg G), (RHg G), u')) (l1 l2 l3 l4 t0 : Int32) (u : Mem) (h : FX11_send_0_b103 l1 l2 l3 l4 t0 u = some (v, u')) : WM G X 103 [(0, .ref 0), (1, .int l1), (2, .int l2), (3, .int l3), (4, .int l4)] [.int t0] (SHg G) (RHg G) u := by
  unfold FX11_send_0_b103 at h
  refine w_istore (lv' := [(5, .int t0), (0, .ref 0), (1, .int l1), (2, .int l2), (3, .int l3), (4, .int l4)]) 103 hX dX11_send_103 (by decide) rfl ?_
  refine w_iload 5 105 hX rfl dX11_send_105 ?_
  refine w_if_eq (tgt := 132) 107 hX dX11_send_107 (by decide) (fun c1 => ?_) (fun c1 => ?_)
  · have h := it h c1
    refine w_iconst 0 132 hX ic_0 dX11_send_132 ?_
    exact w_zret 133 hX hR (by decide) dX11_send_133 (by cases h; rfl)
  · have h := ie h c1
    refine w_iload 0 110 hX rfl dX11_send_110 ?_
    refine w_if_eq (tgt := 132) 112 hX dX11_send_112 (by decide) (fun c2 => ?_) (fun c2 => ?_)
    · have h := it h c2
      refine w_iconst 0 132 hX ic_0 dX11_send_132 ?_
      exact w_zret 133 hX hR (by decide) dX11_send_133 (by cases h; rfl)
    · have h := ie h c2
      refine w_iload_n 4 115 hX rfl rfl dX11_send_115 ?_
      refine w_if_lt (tgt := 132) 116 hX dX11_send_116 (by decide) (fun c3 => ?_) (fun c3 => ?_)
      · have h := it h c3
        refine w_iconst 0 132 hX ic_0 dX11_send_132 ?_
        exact w_zret 133 hX hR (by decide) dX11_send_133 (by cases h; rfl)
      · have h := ie h c3
        refine w_iload_n 4 119 hX rfl rfl dX11_send_119 ?_
        refine w_aload_n 1 120 hX rfl rfl dX11_send_120 ?_
        refine w_getR 121 hX CI_11 s_0 rfl r_0_1 fl_X11_19 rfl dX11_send_121 ?_
        refine w_getR 124 hX CI_0 s_23 rfl r_23_2 fl_X11_125 rfl dX11_send_124 ?_
        refine w_iload_n 3 127 hX rfl rfl dX11_send_127 ?_
        obtain ⟨x4, gx4, h⟩ := o_bind h
        refine w_iald 128 hX s_26 gx4 dX11_send_128 ?_
        refine w_icmp_le (tgt := 134) 129 hX dX11_send_129 (by decide) (fun c5 => ?_) (fun c5 => ?_)
        · have h := it h c5
          refine w_aload_n 1 134 hX rfl rfl dX11_send_134 ?_
          refine w_getR 135 hX CI_11 s_0 rfl r_0_5 fl_X11_49 rfl dX11_send_135 ?_
          refine w_aload_n 1 138 hX rfl rfl dX11_send_138 ?_
          refine w_getR 139 hX CI_11 s_0 rfl r_0_1 fl_X11_19 rfl dX11_send_139 ?_
          obtain ⟨u7, gu7, h⟩ := o_bind h
          refine w_invVv (av := [.ref 23]) (st := []) 142 hX CI_10 s_52 rfl mv_yX10_remember mi_yX10_remember ml_X11_135 (CX10_remember_52_23 u gu7) rfl (by decide) (Nat.le_of_ble_eq_true rfl) (Nat.le_refl _) (Nat.le_refl _) dX11_send_142 ?_
          refine w_aload_n 1 145 hX rfl rfl dX11_send_145 ?_
          refine w_getR 146 hX CI_11 s_0 rfl r_0_1 fl_X11_19 rfl dX11_send_146 ?_
          refine w_getR 149 hX CI_0 s_23 rfl r_23_3 fl_X11_141 rfl dX11_send_149 ?_
          refine w_iload_n 2 152 hX rfl rfl dX11_send_152 ?_
          refine w_iconst 1 153 hX ic_1 dX11_send_153 ?_
          obtain ⟨u8, gu8, h⟩ := o_bind h
          refine w_iast 154 hX s_27 gu8 dX11_send_154 ?_
          refine w_aload_n 1 155 hX rfl rfl dX11_send_155 ?_
          refine w_getR 156 hX CI_11 s_0 rfl r_0_1 fl_X11_19 rfl dX11_send_156 ?_
          refine w_getR 159 hX CI_0 s_23 rfl r_23_4 fl_X11_144 rfl dX11_send_159 ?_
          refine w_iload_n 2 162 hX rfl rfl dX11_send_162 ?_
          refine w_aload_n 1 163 hX rfl rfl dX11_send_163 ?_
          refine w_getR 164 hX CI_11 s_0 rfl r_0_1 fl_X11_19 rfl dX11_send_164 ?_
          refine w_getR 167 hX CI_0 s_23 rfl r_23_4 fl_X11_144 rfl dX11_send_167 ?_
          refine w_iload_n 3 170 hX rfl rfl dX11_send_170 ?_
          obtain ⟨x9, gx9, h⟩ := o_bind h
          refine w_iald 171 hX s_28 gx9 dX11_send_171 ?_
          obtain ⟨u10, gu10, h⟩ := o_bind h
          refine w_iast 172 hX s_28 gu10 dX11_send_172 ?_
          refine w_aload_n 1 173 hX rfl rfl dX11_send_173 ?_
          refine w_getR 174 hX CI_11 s_0 rfl r_0_1 fl_X11_19 rfl dX11_send_174 ?_
          refine w_getR 177 hX CI_0 s_23 rfl r_23_3 fl_X11_141 rfl dX11_send_177 ?_
          refine w_iload_n 3 180 hX rfl rfl dX11_send_180 ?_
          refine w_iconst 0 181 hX ic_0 dX11_send_181 ?_
          obtain ⟨u11, gu11, h⟩ := o_bind h
          refine w_iast 182 hX s_27 gu11 dX11_send_182 ?_
          refine w_aload_n 1 183 hX rfl rfl dX11_send_183 ?_
          refine w_getR 184 hX CI_11 s_0 rfl r_0_1 fl_X11_19 rfl dX11_send_184 ?_
          refine w_getR 187 hX CI_0 s_23 rfl r_23_2 fl_X11_125 rfl dX11_send_187 ?_
          refine w_iload_n 3 190 hX rfl rfl dX11_send_190 ?_
          refine w_dup2 191 hX rfl rfl dX11_send_191 ?_
          obtain ⟨x12, gx12, h⟩ := o_bind h
          refine w_iald 192 hX s_26 gx12 dX11_send_192 ?_
          refine w_iload_n 4 193 hX rfl rfl dX11_send_193 ?_
          refine w_isub 194 hX dX11_send_194 ?_
          obtain ⟨u13, gu13, h⟩ := o_bind h
          refine w_iast 195 hX s_26 gu13 dX11_send_195 ?_
          refine w_aload_n 1 196 hX rfl rfl dX11_send_196 ?_
          refine w_getR 197 hX CI_11 s_0 rfl r_0_1 fl_X11_19 rfl dX11_send_197 ?_
          refine w_getR 200 hX CI_0 s_23 rfl r_23_2 fl_X11_125 rfl dX11_send_200 ?_
          refine w_iload_n 2 203 hX rfl rfl dX11_send_203 ?_
          refine w_sipush 999 204 hX isp_999 dX11_send_204 ?_
          refine w_aload_n 1 207 hX rfl rfl dX11_send_207 ?_
          refine w_getR 208 hX CI_11 s_0 rfl r_0_1 fl_X11_19 rfl dX11_send_208 ?_
          refine w_getR 211 hX CI_0 s_23 rfl r_23_2 fl_X11_125 rfl dX11_send_211 ?_
          refine w_iload_n 2 214 hX rfl rfl dX11_send_214 ?_
          obtain ⟨x14, gx14, h⟩ := o_bind h
          refine w_iald 215 hX s_26 gx14 dX11_send_215 ?_
          refine w_iload_n 4 216 hX rfl rfl dX11_send_216 ?_
          refine w_iadd 217 hX dX11_send_217 ?_
          refine w_min 218 hX ml_X11_147 jm_min_s jm_i jm_min_c (by decide) (Nat.le_of_ble_eq_true rfl) (Nat.le_refl _) (Nat.le_refl _) dX11_send_218 ?_
          obtain ⟨u15, gu15, h⟩ := o_bind h
          refine w_iast 221 hX s_26 gu15 dX11_send_221 ?_
          refine w_iconst 1 222 hX ic_1 dX11_send_222 ?_
          exact w_zret 223 hX hR (by decide) dX11_send_223 (by cases h; rfl)
        · have h := ie h c5
          refine w_iconst 0 132 hX ic_0 dX11_send_132 ?_
          exact w_zret 133 hX hR (by decide) dX11_send_133 (by cases h; rfl)
def FX11_send_0_b54 (l1 l2 l3 t0 : Int32) (u : Mem) : Option (Int32 × Mem) :=
  (rdA u 2 12 l1).bind fun x1 => (rdA u 2 12 l2).bind fun x2 => (if x1 = x2 then ((rdA u 3 12 l1).bind fun x4 => (rdA u 3 12 l2).bind fun x5 => (if x4 ≤ x5 then (FX11_send_0_b103 l1 l2 l3 t0 0 u) else (FX11_send_0_b103 l1 l2 l3 t0 1 u))) else (FX11_send_0_b103 l1 l2 l3 t0 0 u))
theorem bX11_send_0_54 {G : Gt} {X : Xt} {v : Int32} {u' : Mem} (hX : CxOk G X cX11_send 6 RX11 (some (.int v), (SHg G), (RHg G), u') 5) (hR : CxRet G X (some .boolean) (some (.int v), (SHg G), (RHg G), u')) (l1 l2 l3 t0 : Int32) (u : Mem) (h : FX11_send_0_b54 l1 l2 l3 t0 u = some (v, u')) : WM G X 54 [(0, .ref 0), (1, .int l1), (2, .int l2), (3, .int l3)] [.int t0] (SHg G) (RHg G) u := by
  unfold FX11_send_0_b54 at h
  refine w_istore (lv' := [(4, .int t0), (0, .ref 0), (1, .int l1), (2, .int l2), (3, .int l3)]) 54 hX dX11_send_54 (by decide) rfl ?_
  refine w_aload_n 1 56 hX rfl rfl dX11_send_56 ?_
  refine w_getR 57 hX CI_11 s_0 rfl r_0_0 fl_X11_10 rfl dX11_send_57 ?_
  refine w_getR 60 hX CI_9 s_1 rfl r_1_1 fl_X11_98 rfl dX11_send_60 ?_
  refine w_iload_n 2 63 hX rfl rfl dX11_send_63 ?_
  obtain ⟨x1, gx1, h⟩ := o_bind h
  refine w_iald 64 hX s_2 gx1 dX11_send_64 ?_
  refine w_aload_n 1 65 hX rfl rfl dX11_send_65 ?_
  refine w_getR 66 hX CI_11 s_0 rfl r_0_0 fl_X11_10 rfl dX11_send_66 ?_
  refine w_getR 69 hX CI_9 s_1 rfl r_1_1 fl_X11_98 rfl dX11_send_69 ?_
  refine w_iload_n 3 72 hX rfl rfl dX11_send_72 ?_
  obtain ⟨x2, gx2, h⟩ := o_bind h
  refine w_iald 73 hX s_2 gx2 dX11_send_73 ?_
  refine w_icmp_ne (tgt := 102) 74 hX dX11_send_74 (by decide) (fun c3 => ?_) (fun c3 => ?_)
  · have h := ie h c3
    refine w_iconst 0 102 hX ic_0 dX11_send_102 ?_
    exact w_sub [1, 2, 3, 4, 0] rfl (bX11_send_0_103 hX hR l1 l2 l3 t0 0 u h)
  · have h := it h c3
    refine w_aload_n 1 77 hX rfl rfl dX11_send_77 ?_
    refine w_getR 78 hX CI_11 s_0 rfl r_0_0 fl_X11_10 rfl dX11_send_78 ?_
    refine w_getR 81 hX CI_9 s_1 rfl r_1_2 fl_X11_102 rfl dX11_send_81 ?_
    refine w_iload_n 2 84 hX rfl rfl dX11_send_84 ?_
    obtain ⟨x4, gx4, h⟩ := o_bind h
    refine w_iald 85 hX s_3 gx4 dX11_send_85 ?_
    refine w_aload_n 1 86 hX rfl rfl dX11_send_86 ?_
    refine w_getR 87 hX CI_11 s_0 rfl r_0_0 fl_X11_10 rfl dX11_send_87 ?_
    refine w_getR 90 hX CI_9 s_1 rfl r_1_2 fl_X11_102 rfl dX11_send_90 ?_
    refine w_iload_n 3 93 hX rfl rfl dX11_send_93 ?_
    obtain ⟨x5, gx5, h⟩ := o_bind h
    refine w_iald 94 hX s_3 gx5 dX11_send_94 ?_
    refine w_icmp_le (tgt := 102) 95 hX dX11_send_95 (by decide) (fun c6 => ?_) (fun c6 => ?_)
    · have h := it h c6
      refine w_iconst 0 102 hX ic_0 dX11_send_102 ?_
      exact w_sub [1, 2, 3, 4, 0] rfl (bX11_send_0_103 hX hR l1 l2 l3 t0 0 u h)
    · have h := ie h c6
      refine w_iconst 1 98 hX ic_1 dX11_send_98 ?_
      refine w_goto (tgt := 103) 99 hX (by decide) dX11_send_99 ?_
      exact w_sub [1, 2, 3, 4, 0] rfl (bX11_send_0_103 hX hR l1 l2 l3 t0 1 u h)
def FX11_send_0 (p1 p2 p3 : Int32) (u : Mem) : Option (Int32 × Mem) :=
  (FX9_hasMan_1 p1 u).bind fun x1 => (if x1 = 0 then (some (0, u)) else ((FX9_hasMan_1 p2 u).bind fun x3 => (if x3 = 0 then (some (0, u)) else ((rdA u 27 12 p1).bind fun x5 => (if x5 = 0 then ((rdA u 27 12 p2).bind fun x7 => (if x7 = 1 then (FX11_send_0_b54 p1 p2 p3 1 u) else (FX11_send_0_b54 p1 p2 p3 0 u))) else (FX11_send_0_b54 p1 p2 p3 0 u))))))
theorem CX11_send_0 {G : Gt} (p1 p2 p3 : Int32) (u : Mem) {v : Int32} {u' : Mem} (h : FX11_send_0 p1 p2 p3 u = some (v, u')) : CT G yX11_send cX11_send 6 (some .boolean) 5 [.ref 0, .int p1, .int p2, .int p3] (SHg G) (RHg G) u (some (.int v), (SHg G), (RHg G), u') :=
  ct_of (by decide) rfl (Nat.le_of_ble_eq_true rfl) (Nat.le_refl _) (Nat.le_refl _) (fun X hX hR => by
  unfold FX11_send_0 at h
  refine w_aload_n 0 0 hX rfl rfl dX11_send_0 ?_
  refine w_getR 1 hX CI_11 s_0 rfl r_0_0 fl_X11_10 rfl dX11_send_1 ?_
  refine w_iload_n 1 4 hX rfl rfl dX11_send_4 ?_
  obtain ⟨x1, gx1, h⟩ := o_bind h
  refine w_invVi (av := [.int p1]) (st := []) 5 hX CI_9 s_1 rfl mv_yX9_hasMan mi_yX9_hasMan ml_X11_119 (CX9_hasMan_1 p1 u gx1) rfl (by decide) (Nat.le_of_ble_eq_true rfl) (Nat.le_refl _) (Nat.le_refl _) dX11_send_5 ?_
  refine w_if_eq (tgt := 22) 8 hX dX11_send_8 (by decide) (fun c2 => ?_) (fun c2 => ?_)
  · have h := it h c2
    refine w_iconst 0 22 hX ic_0 dX11_send_22 ?_
    exact w_zret 23 hX hR (by decide) dX11_send_23 (by cases h; rfl)
  · have h := ie h c2
    refine w_aload_n 0 11 hX rfl rfl dX11_send_11 ?_
    refine w_getR 12 hX CI_11 s_0 rfl r_0_0 fl_X11_10 rfl dX11_send_12 ?_
    refine w_iload_n 2 15 hX rfl rfl dX11_send_15 ?_
    obtain ⟨x3, gx3, h⟩ := o_bind h
    refine w_invVi (av := [.int p2]) (st := []) 16 hX CI_9 s_1 rfl mv_yX9_hasMan mi_yX9_hasMan ml_X11_119 (CX9_hasMan_1 p2 u gx3) rfl (by decide) (Nat.le_of_ble_eq_true rfl) (Nat.le_refl _) (Nat.le_refl _) dX11_send_16 ?_
    refine w_if_ne (tgt := 24) 19 hX dX11_send_19 (by decide) (fun c4 => ?_) (fun c4 => ?_)
    · have h := ie h c4
      refine w_aload_n 0 24 hX rfl rfl dX11_send_24 ?_
      refine w_getR 25 hX CI_11 s_0 rfl r_0_1 fl_X11_19 rfl dX11_send_25 ?_
      refine w_getR 28 hX CI_0 s_23 rfl r_23_3 fl_X11_141 rfl dX11_send_28 ?_
      refine w_iload_n 1 31 hX rfl rfl dX11_send_31 ?_
      obtain ⟨x5, gx5, h⟩ := o_bind h
      refine w_iald 32 hX s_27 gx5 dX11_send_32 ?_
      refine w_if_ne (tgt := 53) 33 hX dX11_send_33 (by decide) (fun c6 => ?_) (fun c6 => ?_)
      · have h := ie h c6
        refine w_iconst 0 53 hX ic_0 dX11_send_53 ?_
        exact bX11_send_0_54 hX hR p1 p2 p3 0 u h
      · have h := it h c6
        refine w_aload_n 0 36 hX rfl rfl dX11_send_36 ?_
        refine w_getR 37 hX CI_11 s_0 rfl r_0_1 fl_X11_19 rfl dX11_send_37 ?_
        refine w_getR 40 hX CI_0 s_23 rfl r_23_3 fl_X11_141 rfl dX11_send_40 ?_
        refine w_iload_n 2 43 hX rfl rfl dX11_send_43 ?_
        obtain ⟨x7, gx7, h⟩ := o_bind h
        refine w_iald 44 hX s_27 gx7 dX11_send_44 ?_
        refine w_iconst 1 45 hX ic_1 dX11_send_45 ?_
        refine w_icmp_ne (tgt := 53) 46 hX dX11_send_46 (by decide) (fun c8 => ?_) (fun c8 => ?_)
        · have h := ie h c8
          refine w_iconst 0 53 hX ic_0 dX11_send_53 ?_
          exact bX11_send_0_54 hX hR p1 p2 p3 0 u h
        · have h := it h c8
          refine w_iconst 1 49 hX ic_1 dX11_send_49 ?_
          refine w_goto (tgt := 54) 50 hX (by decide) dX11_send_50 ?_
          exact bX11_send_0_54 hX hR p1 p2 p3 1 u h
    · have h := it h c4
      refine w_iconst 0 22 hX ic_0 dX11_send_22 ?_
      exact w_zret 23 hX hR (by decide) dX11_send_23 (by cases h; rfl))
def FX3_howManyInField_32_b61 (l2 : Int32) (u : Mem) : Option Int32 :=
  some l2
theorem bX3_howManyInField_32_61 {G : Gt} {X : Xt} {v : Int32} {u : Mem} (hX : CxOk G X cX3_howManyInField 4 RX3 (some (.int v), (SHg G), (RHg G), u) 1) (hR : CxRet G X (some .int) (some (.int v), (SHg G), (RHg G), u)) (l2 : Int32) (h : FX3_howManyInField_32_b61 l2 u = some v) : WM G X 61 [(2, .int l2)] [] (SHg G) (RHg G) u := by
  unfold FX3_howManyInField_32_b61 at h
  refine w_iload_n 0 61 hX rfl rfl dX3_howManyInField_61 ?_
  exact w_iret 62 hX hR dX3_howManyInField_62 (by cases h; rfl)
def FX3_howManyInField_32_b53 (k4 : Int32 → Int32 → Int32 → Mem → Option Int32) (l1 l3 t0 t1 : Int32) (u : Mem) : Option Int32 :=
  k4 l1 (t0 + t1) (l3 + 1) u
theorem bX3_howManyInField_32_53 {G : Gt} {X : Xt} {v : Int32} {u : Mem} (hX : CxOk G X cX3_howManyInField 4 RX3 (some (.int v), (SHg G), (RHg G), u) 1) (hR : CxRet G X (some .int) (some (.int v), (SHg G), (RHg G), u)) {k4 : Int32 → Int32 → Int32 → Mem → Option Int32} (hk4 : ∀ (l1 l2 l3 : Int32), k4 l1 l2 l3 u = some v → WM G X 4 [(0, .ref 32), (1, .int l1), (2, .int l2), (3, .int l3)] [] (SHg G) (RHg G) u) (l1 l3 t0 t1 : Int32) (h : FX3_howManyInField_32_b53 k4 l1 l3 t0 t1 u = some v) : WM G X 53 [(0, .ref 32), (1, .int l1), (3, .int l3)] [.int t1, .int t0] (SHg G) (RHg G) u := by
  unfold FX3_howManyInField_32_b53 at h
  refine w_iadd 53 hX dX3_howManyInField_53 ?_
  refine w_istore_n (lv' := [(2, .int (t0 + t1)), (0, .ref 32), (1, .int l1), (3, .int l3)]) 54 hX rfl dX3_howManyInField_54 (by decide) rfl ?_
  refine w_iinc (lv' := [(3, .int (l3 + 1)), (2, .int (t0 + t1)), (0, .ref 32), (1, .int l1)]) 55 3 hX dX3_howManyInField_55 rfl (inc_1 _) (by decide) rfl ?_
  refine w_goto (tgt := 4) 58 hX (by decide) dX3_howManyInField_58 ?_
  exact w_sub [2, 3, 1, 0] rfl (hk4 l1 (t0 + t1) (l3 + 1) h)
def FX3_howManyInField_32_b4 (k4 : Int32 → Int32 → Int32 → Mem → Option Int32) (l1 l2 l3 : Int32) (u : Mem) : Option Int32 :=
  (if 12 ≤ l3 then (FX3_howManyInField_32_b61 l2 u) else ((if (u 1 0) ≤ l3 then (FX3_howManyInField_32_b61 l2 u) else ((rdA u 2 12 l3).bind fun x3 => (if x3 = l1 then ((rdA u 27 12 l3).bind fun x5 => (if x5 = 1 then (FX3_howManyInField_32_b53 k4 l1 l3 l2 1 u) else (FX3_howManyInField_32_b53 k4 l1 l3 l2 0 u))) else (FX3_howManyInField_32_b53 k4 l1 l3 l2 0 u))))))
theorem bX3_howManyInField_32_4 {G : Gt} {X : Xt} {v : Int32} {u : Mem} (hX : CxOk G X cX3_howManyInField 4 RX3 (some (.int v), (SHg G), (RHg G), u) 1) (hR : CxRet G X (some .int) (some (.int v), (SHg G), (RHg G), u)) {k4 : Int32 → Int32 → Int32 → Mem → Option Int32} (hk4 : ∀ (l1 l2 l3 : Int32), k4 l1 l2 l3 u = some v → WM G X 4 [(0, .ref 32), (1, .int l1), (2, .int l2), (3, .int l3)] [] (SHg G) (RHg G) u) (l1 l2 l3 : Int32) (h : FX3_howManyInField_32_b4 k4 l1 l2 l3 u = some v) : WM G X 4 [(0, .ref 32), (1, .int l1), (2, .int l2), (3, .int l3)] [] (SHg G) (RHg G) u := by
  unfold FX3_howManyInField_32_b4 at h
  refine w_iload_n 3 4 hX rfl rfl dX3_howManyInField_4 ?_
  refine w_bipush 12 5 hX ib_12 dX3_howManyInField_5 ?_
  refine w_icmp_ge (tgt := 61) 7 hX dX3_howManyInField_7 (by decide) (fun c1 => ?_) (fun c1 => ?_)
  · have h := it h c1
    exact w_sub [2] rfl (bX3_howManyInField_32_61 hX hR l2 h)
  · have h := ie h c1
    refine w_iload_n 3 10 hX rfl rfl dX3_howManyInField_10 ?_
    refine w_aload_n 0 11 hX rfl rfl dX3_howManyInField_11 ?_
    refine w_getR 12 hX CI_3 s_32 rfl r_32_0 fl_X3_17 rfl dX3_howManyInField_12 ?_
    refine w_getI (j := 0) 15 hX CI_9 s_1 rfl fl_X3_123 rfl dX3_howManyInField_15 ?_
    refine w_icmp_ge (tgt := 61) 18 hX dX3_howManyInField_18 (by decide) (fun c2 => ?_) (fun c2 => ?_)
    · have h := it h c2
      exact w_sub [2] rfl (bX3_howManyInField_32_61 hX hR l2 h)
    · have h := ie h c2
      refine w_iload_n 2 21 hX rfl rfl dX3_howManyInField_21 ?_
      refine w_aload_n 0 22 hX rfl rfl dX3_howManyInField_22 ?_
      refine w_getR 23 hX CI_3 s_32 rfl r_32_0 fl_X3_17 rfl dX3_howManyInField_23 ?_
      refine w_getR 26 hX CI_9 s_1 rfl r_1_1 fl_X3_73 rfl dX3_howManyInField_26 ?_
      refine w_iload_n 3 29 hX rfl rfl dX3_howManyInField_29 ?_
      obtain ⟨x3, gx3, h⟩ := o_bind h
      refine w_iald 30 hX s_2 gx3 dX3_howManyInField_30 ?_
      refine w_iload_n 1 31 hX rfl rfl dX3_howManyInField_31 ?_
      refine w_icmp_ne (tgt := 52) 32 hX dX3_howManyInField_32 (by decide) (fun c4 => ?_) (fun c4 => ?_)
      · have h := ie h c4
        refine w_iconst 0 52 hX ic_0 dX3_howManyInField_52 ?_
        exact w_sub [0, 1, 3] rfl (bX3_howManyInField_32_53 hX hR hk4 l1 l3 l2 0 h)
      · have h := it h c4
        refine w_aload_n 0 35 hX rfl rfl dX3_howManyInField_35 ?_
        refine w_getR 36 hX CI_3 s_32 rfl r_32_1 fl_X3_21 rfl dX3_howManyInField_36 ?_
        refine w_getR 39 hX CI_0 s_23 rfl r_23_3 fl_X3_70 rfl dX3_howManyInField_39 ?_
        refine w_iload_n 3 42 hX rfl rfl dX3_howManyInField_42 ?_
        obtain ⟨x5, gx5, h⟩ := o_bind h
        refine w_iald 43 hX s_27 gx5 dX3_howManyInField_43 ?_
        refine w_iconst 1 44 hX ic_1 dX3_howManyInField_44 ?_
        refine w_icmp_ne (tgt := 52) 45 hX dX3_howManyInField_45 (by decide) (fun c6 => ?_) (fun c6 => ?_)
        · have h := ie h c6
          refine w_iconst 0 52 hX ic_0 dX3_howManyInField_52 ?_
          exact w_sub [0, 1, 3] rfl (bX3_howManyInField_32_53 hX hR hk4 l1 l3 l2 0 h)
        · have h := it h c6
          refine w_iconst 1 48 hX ic_1 dX3_howManyInField_48 ?_
          refine w_goto (tgt := 53) 49 hX (by decide) dX3_howManyInField_49 ?_
          exact w_sub [0, 1, 3] rfl (bX3_howManyInField_32_53 hX hR hk4 l1 l3 l2 1 h)
def FX3_howManyInField_32_L4 : Nat → Int32 → Int32 → Int32 → Mem → Option Int32
  | 0, _, _, _, _ => none
  | n + 1, l1, l2, l3, u => FX3_howManyInField_32_b4 (FX3_howManyInField_32_L4 n) l1 l2 l3 u
theorem lX3_howManyInField_32_4 {G : Gt} {X : Xt} {v : Int32} {u : Mem} (hX : CxOk G X cX3_howManyInField 4 RX3 (some (.int v), (SHg G), (RHg G), u) 1) (hR : CxRet G X (some .int) (some (.int v), (SHg G), (RHg G), u)) : ∀ (n : Nat) (l1 l2 l3 : Int32), FX3_howManyInField_32_L4 n l1 l2 l3 u = some v → WM G X 4 [(0, .ref 32), (1, .int l1), (2, .int l2), (3, .int l3)] [] (SHg G) (RHg G) u := by
  intro n
  induction n with
  | zero =>
    intro l1 l2 l3 h
    exact nn_ h
  | succ n ih =>
    intro l1 l2 l3 h
    exact bX3_howManyInField_32_4 hX hR ih l1 l2 l3 h
def FX3_howManyInField_32 (p1 : Int32) (u : Mem) : Option Int32 :=
  FX3_howManyInField_32_L4 FU p1 0 0 u
theorem CX3_howManyInField_32 {G : Gt} (p1 : Int32) (u : Mem) {v : Int32} (h : FX3_howManyInField_32 p1 u = some v) : CT G yX3_howManyInField cX3_howManyInField 4 (some .int) 1 [.ref 32, .int p1] (SHg G) (RHg G) u (some (.int v), (SHg G), (RHg G), u) :=
  ct_of (by decide) rfl (Nat.le_of_ble_eq_true rfl) (Nat.le_refl _) (Nat.le_refl _) (fun X hX hR => by
  unfold FX3_howManyInField_32 at h
  refine w_iconst 0 0 hX ic_0 dX3_howManyInField_0 ?_
  refine w_istore_n (lv' := [(2, .int 0), (0, .ref 32), (1, .int p1)]) 1 hX rfl dX3_howManyInField_1 (by decide) rfl ?_
  refine w_iconst 0 2 hX ic_0 dX3_howManyInField_2 ?_
  refine w_istore_n (lv' := [(3, .int 0), (2, .int 0), (0, .ref 32), (1, .int p1)]) 3 hX rfl dX3_howManyInField_3 (by decide) rfl ?_
  exact w_sub [2, 3, 1, 0] rfl (lX3_howManyInField_32_4 hX hR FU p1 0 0 h))
def FJ6_bitCount_0f7a4 (p0 : Int32) : Option Int32 :=
  some ((((((((p0 - ((((p0 : Int32).toUInt32 >>> ((1 : Int32).toUInt32 &&& Int32.toUInt32 31)).toInt32) &&& 1431655765)) &&& 858993459) + ((((p0 - ((((p0 : Int32).toUInt32 >>> ((1 : Int32).toUInt32 &&& Int32.toUInt32 31)).toInt32) &&& 1431655765) : Int32).toUInt32 >>> ((2 : Int32).toUInt32 &&& Int32.toUInt32 31)).toInt32) &&& 858993459)) + (((((p0 - ((((p0 : Int32).toUInt32 >>> ((1 : Int32).toUInt32 &&& Int32.toUInt32 31)).toInt32) &&& 1431655765)) &&& 858993459) + ((((p0 - ((((p0 : Int32).toUInt32 >>> ((1 : Int32).toUInt32 &&& Int32.toUInt32 31)).toInt32) &&& 1431655765) : Int32).toUInt32 >>> ((2 : Int32).toUInt32 &&& Int32.toUInt32 31)).toInt32) &&& 858993459) : Int32).toUInt32 >>> ((4 : Int32).toUInt32 &&& Int32.toUInt32 31)).toInt32)) &&& 252645135) + (((((((p0 - ((((p0 : Int32).toUInt32 >>> ((1 : Int32).toUInt32 &&& Int32.toUInt32 31)).toInt32) &&& 1431655765)) &&& 858993459) + ((((p0 - ((((p0 : Int32).toUInt32 >>> ((1 : Int32).toUInt32 &&& Int32.toUInt32 31)).toInt32) &&& 1431655765) : Int32).toUInt32 >>> ((2 : Int32).toUInt32 &&& Int32.toUInt32 31)).toInt32) &&& 858993459)) + (((((p0 - ((((p0 : Int32).toUInt32 >>> ((1 : Int32).toUInt32 &&& Int32.toUInt32 31)).toInt32) &&& 1431655765)) &&& 858993459) + ((((p0 - ((((p0 : Int32).toUInt32 >>> ((1 : Int32).toUInt32 &&& Int32.toUInt32 31)).toInt32) &&& 1431655765) : Int32).toUInt32 >>> ((2 : Int32).toUInt32 &&& Int32.toUInt32 31)).toInt32) &&& 858993459) : Int32).toUInt32 >>> ((4 : Int32).toUInt32 &&& Int32.toUInt32 31)).toInt32)) &&& 252645135 : Int32).toUInt32 >>> ((8 : Int32).toUInt32 &&& Int32.toUInt32 31)).toInt32)) + ((((((((p0 - ((((p0 : Int32).toUInt32 >>> ((1 : Int32).toUInt32 &&& Int32.toUInt32 31)).toInt32) &&& 1431655765)) &&& 858993459) + ((((p0 - ((((p0 : Int32).toUInt32 >>> ((1 : Int32).toUInt32 &&& Int32.toUInt32 31)).toInt32) &&& 1431655765) : Int32).toUInt32 >>> ((2 : Int32).toUInt32 &&& Int32.toUInt32 31)).toInt32) &&& 858993459)) + (((((p0 - ((((p0 : Int32).toUInt32 >>> ((1 : Int32).toUInt32 &&& Int32.toUInt32 31)).toInt32) &&& 1431655765)) &&& 858993459) + ((((p0 - ((((p0 : Int32).toUInt32 >>> ((1 : Int32).toUInt32 &&& Int32.toUInt32 31)).toInt32) &&& 1431655765) : Int32).toUInt32 >>> ((2 : Int32).toUInt32 &&& Int32.toUInt32 31)).toInt32) &&& 858993459) : Int32).toUInt32 >>> ((4 : Int32).toUInt32 &&& Int32.toUInt32 31)).toInt32)) &&& 252645135) + (((((((p0 - ((((p0 : Int32).toUInt32 >>> ((1 : Int32).toUInt32 &&& Int32.toUInt32 31)).toInt32) &&& 1431655765)) &&& 858993459) + ((((p0 - ((((p0 : Int32).toUInt32 >>> ((1 : Int32).toUInt32 &&& Int32.toUInt32 31)).toInt32) &&& 1431655765) : Int32).toUInt32 >>> ((2 : Int32).toUInt32 &&& Int32.toUInt32 31)).toInt32) &&& 858993459)) + (((((p0 - ((((p0 : Int32).toUInt32 >>> ((1 : Int32).toUInt32 &&& Int32.toUInt32 31)).toInt32) &&& 1431655765)) &&& 858993459) + ((((p0 - ((((p0 : Int32).toUInt32 >>> ((1 : Int32).toUInt32 &&& Int32.toUInt32 31)).toInt32) &&& 1431655765) : Int32).toUInt32 >>> ((2 : Int32).toUInt32 &&& Int32.toUInt32 31)).toInt32) &&& 858993459) : Int32).toUInt32 >>> ((4 : Int32).toUInt32 &&& Int32.toUInt32 31)).toInt32)) &&& 252645135 : Int32).toUInt32 >>> ((8 : Int32).toUInt32 &&& Int32.toUInt32 31)).toInt32) : Int32).toUInt32 >>> ((16 : Int32).toUInt32 &&& Int32.toUInt32 31)).toInt32)) &&& 63)
theorem CJ6_bitCount_0f7a4 {G : Gt} (p0 : Int32) (u : Mem) {v : Int32} (h : FJ6_bitCount_0f7a4 p0 = some v) : CT G yJ6_bitCount_0f7a4 cJ6_bitCount_0f7a4 1 (some .int) 1 [.int p0] (SHg G) (RHg G) u (some (.int v), (SHg G), (RHg G), u) :=
  ct_of (by decide) rfl (Nat.le_of_ble_eq_true rfl) (Nat.le_refl _) (Nat.le_refl _) (fun X hX hR => by
  unfold FJ6_bitCount_0f7a4 at h
  refine w_iload_n 0 0 hX rfl rfl dJ6_bitCount_0f7a4_0 ?_
  refine w_iload_n 0 1 hX rfl rfl dJ6_bitCount_0f7a4_1 ?_
  refine w_iconst 1 2 hX ic_1 dJ6_bitCount_0f7a4_2 ?_
  refine w_iushr 3 hX dJ6_bitCount_0f7a4_3 ?_
  refine w_ldcw 1431655765 4 hX cs_J6_265 dJ6_bitCount_0f7a4_4 ?_
  refine w_iand 7 hX dJ6_bitCount_0f7a4_7 ?_
  refine w_isub 8 hX dJ6_bitCount_0f7a4_8 ?_
  refine w_istore_n (lv' := [(0, .int (p0 - ((((p0 : Int32).toUInt32 >>> ((1 : Int32).toUInt32 &&& Int32.toUInt32 31)).toInt32) &&& 1431655765)))]) 9 hX rfl dJ6_bitCount_0f7a4_9 (by decide) rfl ?_
  refine w_iload_n 0 10 hX rfl rfl dJ6_bitCount_0f7a4_10 ?_
  refine w_ldcw 858993459 11 hX cs_J6_266 dJ6_bitCount_0f7a4_11 ?_
  refine w_iand 14 hX dJ6_bitCount_0f7a4_14 ?_
  refine w_iload_n 0 15 hX rfl rfl dJ6_bitCount_0f7a4_15 ?_
  refine w_iconst 2 16 hX ic_2 dJ6_bitCount_0f7a4_16 ?_
  refine w_iushr 17 hX dJ6_bitCount_0f7a4_17 ?_
  refine w_ldcw 858993459 18 hX cs_J6_266 dJ6_bitCount_0f7a4_18 ?_
  refine w_iand 21 hX dJ6_bitCount_0f7a4_21 ?_
  refine w_iadd 22 hX dJ6_bitCount_0f7a4_22 ?_
  refine w_istore_n (lv' := [(0, .int (((p0 - ((((p0 : Int32).toUInt32 >>> ((1 : Int32).toUInt32 &&& Int32.toUInt32 31)).toInt32) &&& 1431655765)) &&& 858993459) + ((((p0 - ((((p0 : Int32).toUInt32 >>> ((1 : Int32).toUInt32 &&& Int32.toUInt32 31)).toInt32) &&& 1431655765) : Int32).toUInt32 >>> ((2 : Int32).toUInt32 &&& Int32.toUInt32 31)).toInt32) &&& 858993459)))]) 23 hX rfl dJ6_bitCount_0f7a4_23 (by decide) rfl ?_
  refine w_iload_n 0 24 hX rfl rfl dJ6_bitCount_0f7a4_24 ?_
  refine w_iload_n 0 25 hX rfl rfl dJ6_bitCount_0f7a4_25 ?_
  refine w_iconst 4 26 hX ic_4 dJ6_bitCount_0f7a4_26 ?_
  refine w_iushr 27 hX dJ6_bitCount_0f7a4_27 ?_
  refine w_iadd 28 hX dJ6_bitCount_0f7a4_28 ?_
  refine w_ldcw 252645135 29 hX cs_J6_267 dJ6_bitCount_0f7a4_29 ?_
  refine w_iand 32 hX dJ6_bitCount_0f7a4_32 ?_
  refine w_istore_n (lv' := [(0, .int (((((p0 - ((((p0 : Int32).toUInt32 >>> ((1 : Int32).toUInt32 &&& Int32.toUInt32 31)).toInt32) &&& 1431655765)) &&& 858993459) + ((((p0 - ((((p0 : Int32).toUInt32 >>> ((1 : Int32).toUInt32 &&& Int32.toUInt32 31)).toInt32) &&& 1431655765) : Int32).toUInt32 >>> ((2 : Int32).toUInt32 &&& Int32.toUInt32 31)).toInt32) &&& 858993459)) + (((((p0 - ((((p0 : Int32).toUInt32 >>> ((1 : Int32).toUInt32 &&& Int32.toUInt32 31)).toInt32) &&& 1431655765)) &&& 858993459) + ((((p0 - ((((p0 : Int32).toUInt32 >>> ((1 : Int32).toUInt32 &&& Int32.toUInt32 31)).toInt32) &&& 1431655765) : Int32).toUInt32 >>> ((2 : Int32).toUInt32 &&& Int32.toUInt32 31)).toInt32) &&& 858993459) : Int32).toUInt32 >>> ((4 : Int32).toUInt32 &&& Int32.toUInt32 31)).toInt32)) &&& 252645135))]) 33 hX rfl dJ6_bitCount_0f7a4_33 (by decide) rfl ?_
  refine w_iload_n 0 34 hX rfl rfl dJ6_bitCount_0f7a4_34 ?_
  refine w_iload_n 0 35 hX rfl rfl dJ6_bitCount_0f7a4_35 ?_
  refine w_bipush 8 36 hX ib_8 dJ6_bitCount_0f7a4_36 ?_
  refine w_iushr 38 hX dJ6_bitCount_0f7a4_38 ?_
  refine w_iadd 39 hX dJ6_bitCount_0f7a4_39 ?_
  refine w_istore_n (lv' := [(0, .int ((((((p0 - ((((p0 : Int32).toUInt32 >>> ((1 : Int32).toUInt32 &&& Int32.toUInt32 31)).toInt32) &&& 1431655765)) &&& 858993459) + ((((p0 - ((((p0 : Int32).toUInt32 >>> ((1 : Int32).toUInt32 &&& Int32.toUInt32 31)).toInt32) &&& 1431655765) : Int32).toUInt32 >>> ((2 : Int32).toUInt32 &&& Int32.toUInt32 31)).toInt32) &&& 858993459)) + (((((p0 - ((((p0 : Int32).toUInt32 >>> ((1 : Int32).toUInt32 &&& Int32.toUInt32 31)).toInt32) &&& 1431655765)) &&& 858993459) + ((((p0 - ((((p0 : Int32).toUInt32 >>> ((1 : Int32).toUInt32 &&& Int32.toUInt32 31)).toInt32) &&& 1431655765) : Int32).toUInt32 >>> ((2 : Int32).toUInt32 &&& Int32.toUInt32 31)).toInt32) &&& 858993459) : Int32).toUInt32 >>> ((4 : Int32).toUInt32 &&& Int32.toUInt32 31)).toInt32)) &&& 252645135) + (((((((p0 - ((((p0 : Int32).toUInt32 >>> ((1 : Int32).toUInt32 &&& Int32.toUInt32 31)).toInt32) &&& 1431655765)) &&& 858993459) + ((((p0 - ((((p0 : Int32).toUInt32 >>> ((1 : Int32).toUInt32 &&& Int32.toUInt32 31)).toInt32) &&& 1431655765) : Int32).toUInt32 >>> ((2 : Int32).toUInt32 &&& Int32.toUInt32 31)).toInt32) &&& 858993459)) + (((((p0 - ((((p0 : Int32).toUInt32 >>> ((1 : Int32).toUInt32 &&& Int32.toUInt32 31)).toInt32) &&& 1431655765)) &&& 858993459) + ((((p0 - ((((p0 : Int32).toUInt32 >>> ((1 : Int32).toUInt32 &&& Int32.toUInt32 31)).toInt32) &&& 1431655765) : Int32).toUInt32 >>> ((2 : Int32).toUInt32 &&& Int32.toUInt32 31)).toInt32) &&& 858993459) : Int32).toUInt32 >>> ((4 : Int32).toUInt32 &&& Int32.toUInt32 31)).toInt32)) &&& 252645135 : Int32).toUInt32 >>> ((8 : Int32).toUInt32 &&& Int32.toUInt32 31)).toInt32)))]) 40 hX rfl dJ6_bitCount_0f7a4_40 (by decide) rfl ?_
  refine w_iload_n 0 41 hX rfl rfl dJ6_bitCount_0f7a4_41 ?_
  refine w_iload_n 0 42 hX rfl rfl dJ6_bitCount_0f7a4_42 ?_
  refine w_bipush 16 43 hX ib_16 dJ6_bitCount_0f7a4_43 ?_
  refine w_iushr 45 hX dJ6_bitCount_0f7a4_45 ?_
  refine w_iadd 46 hX dJ6_bitCount_0f7a4_46 ?_
  refine w_istore_n (lv' := [(0, .int (((((((p0 - ((((p0 : Int32).toUInt32 >>> ((1 : Int32).toUInt32 &&& Int32.toUInt32 31)).toInt32) &&& 1431655765)) &&& 858993459) + ((((p0 - ((((p0 : Int32).toUInt32 >>> ((1 : Int32).toUInt32 &&& Int32.toUInt32 31)).toInt32) &&& 1431655765) : Int32).toUInt32 >>> ((2 : Int32).toUInt32 &&& Int32.toUInt32 31)).toInt32) &&& 858993459)) + (((((p0 - ((((p0 : Int32).toUInt32 >>> ((1 : Int32).toUInt32 &&& Int32.toUInt32 31)).toInt32) &&& 1431655765)) &&& 858993459) + ((((p0 - ((((p0 : Int32).toUInt32 >>> ((1 : Int32).toUInt32 &&& Int32.toUInt32 31)).toInt32) &&& 1431655765) : Int32).toUInt32 >>> ((2 : Int32).toUInt32 &&& Int32.toUInt32 31)).toInt32) &&& 858993459) : Int32).toUInt32 >>> ((4 : Int32).toUInt32 &&& Int32.toUInt32 31)).toInt32)) &&& 252645135) + (((((((p0 - ((((p0 : Int32).toUInt32 >>> ((1 : Int32).toUInt32 &&& Int32.toUInt32 31)).toInt32) &&& 1431655765)) &&& 858993459) + ((((p0 - ((((p0 : Int32).toUInt32 >>> ((1 : Int32).toUInt32 &&& Int32.toUInt32 31)).toInt32) &&& 1431655765) : Int32).toUInt32 >>> ((2 : Int32).toUInt32 &&& Int32.toUInt32 31)).toInt32) &&& 858993459)) + (((((p0 - ((((p0 : Int32).toUInt32 >>> ((1 : Int32).toUInt32 &&& Int32.toUInt32 31)).toInt32) &&& 1431655765)) &&& 858993459) + ((((p0 - ((((p0 : Int32).toUInt32 >>> ((1 : Int32).toUInt32 &&& Int32.toUInt32 31)).toInt32) &&& 1431655765) : Int32).toUInt32 >>> ((2 : Int32).toUInt32 &&& Int32.toUInt32 31)).toInt32) &&& 858993459) : Int32).toUInt32 >>> ((4 : Int32).toUInt32 &&& Int32.toUInt32 31)).toInt32)) &&& 252645135 : Int32).toUInt32 >>> ((8 : Int32).toUInt32 &&& Int32.toUInt32 31)).toInt32)) + ((((((((p0 - ((((p0 : Int32).toUInt32 >>> ((1 : Int32).toUInt32 &&& Int32.toUInt32 31)).toInt32) &&& 1431655765)) &&& 858993459) + ((((p0 - ((((p0 : Int32).toUInt32 >>> ((1 : Int32).toUInt32 &&& Int32.toUInt32 31)).toInt32) &&& 1431655765) : Int32).toUInt32 >>> ((2 : Int32).toUInt32 &&& Int32.toUInt32 31)).toInt32) &&& 858993459)) + (((((p0 - ((((p0 : Int32).toUInt32 >>> ((1 : Int32).toUInt32 &&& Int32.toUInt32 31)).toInt32) &&& 1431655765)) &&& 858993459) + ((((p0 - ((((p0 : Int32).toUInt32 >>> ((1 : Int32).toUInt32 &&& Int32.toUInt32 31)).toInt32) &&& 1431655765) : Int32).toUInt32 >>> ((2 : Int32).toUInt32 &&& Int32.toUInt32 31)).toInt32) &&& 858993459) : Int32).toUInt32 >>> ((4 : Int32).toUInt32 &&& Int32.toUInt32 31)).toInt32)) &&& 252645135) + (((((((p0 - ((((p0 : Int32).toUInt32 >>> ((1 : Int32).toUInt32 &&& Int32.toUInt32 31)).toInt32) &&& 1431655765)) &&& 858993459) + ((((p0 - ((((p0 : Int32).toUInt32 >>> ((1 : Int32).toUInt32 &&& Int32.toUInt32 31)).toInt32) &&& 1431655765) : Int32).toUInt32 >>> ((2 : Int32).toUInt32 &&& Int32.toUInt32 31)).toInt32) &&& 858993459)) + (((((p0 - ((((p0 : Int32).toUInt32 >>> ((1 : Int32).toUInt32 &&& Int32.toUInt32 31)).toInt32) &&& 1431655765)) &&& 858993459) + ((((p0 - ((((p0 : Int32).toUInt32 >>> ((1 : Int32).toUInt32 &&& Int32.toUInt32 31)).toInt32) &&& 1431655765) : Int32).toUInt32 >>> ((2 : Int32).toUInt32 &&& Int32.toUInt32 31)).toInt32) &&& 858993459) : Int32).toUInt32 >>> ((4 : Int32).toUInt32 &&& Int32.toUInt32 31)).toInt32)) &&& 252645135 : Int32).toUInt32 >>> ((8 : Int32).toUInt32 &&& Int32.toUInt32 31)).toInt32) : Int32).toUInt32 >>> ((16 : Int32).toUInt32 &&& Int32.toUInt32 31)).toInt32)))]) 47 hX rfl dJ6_bitCount_0f7a4_47 (by decide) rfl ?_
  refine w_iload_n 0 48 hX rfl rfl dJ6_bitCount_0f7a4_48 ?_
  refine w_bipush 63 49 hX ib_63 dJ6_bitCount_0f7a4_49 ?_
  refine w_iand 51 hX dJ6_bitCount_0f7a4_51 ?_
  exact w_iret 52 hX hR dJ6_bitCount_0f7a4_52 (by cases h; rfl))
def FX9_isHill_1 (p1 : Int32) (u : Mem) : Option Int32 :=
  (if p1 < 0 then (some 0) else ((if 16 ≤ p1 then (some 0) else ((FX11_holds (u 1 10) p1).bind fun x3 => (if x3 = 0 then (some 0) else (some 1))))))
theorem CX9_isHill_1 {G : Gt} (p1 : Int32) (u : Mem) {v : Int32} (h : FX9_isHill_1 p1 u = some v) : CT G yX9_isHill cX9_isHill 2 (some .boolean) 2 [.ref 1, .int p1] (SHg G) (RHg G) u (some (.int v), (SHg G), (RHg G), u) :=
  ct_of (by decide) rfl (Nat.le_of_ble_eq_true rfl) (Nat.le_refl _) (Nat.le_refl _) (fun X hX hR => by
  unfold FX9_isHill_1 at h
  refine w_iload_n 1 0 hX rfl rfl dX9_isHill_0 ?_
  refine w_if_lt (tgt := 25) 1 hX dX9_isHill_1 (by decide) (fun c1 => ?_) (fun c1 => ?_)
  · have h := it h c1
    refine w_iconst 0 25 hX ic_0 dX9_isHill_25 ?_
    exact w_zret 26 hX hR (by decide) dX9_isHill_26 (by cases h; rfl)
  · have h := ie h c1
    refine w_iload_n 1 4 hX rfl rfl dX9_isHill_4 ?_
    refine w_bipush 16 5 hX ib_16 dX9_isHill_5 ?_
    refine w_icmp_ge (tgt := 25) 7 hX dX9_isHill_7 (by decide) (fun c2 => ?_) (fun c2 => ?_)
    · have h := it h c2
      refine w_iconst 0 25 hX ic_0 dX9_isHill_25 ?_
      exact w_zret 26 hX hR (by decide) dX9_isHill_26 (by cases h; rfl)
    · have h := ie h c2
      refine w_aload_n 0 10 hX rfl rfl dX9_isHill_10 ?_
      refine w_getI (j := 10) 11 hX CI_9 s_1 rfl fl_X9_68 rfl dX9_isHill_11 ?_
      refine w_iload_n 1 14 hX rfl rfl dX9_isHill_14 ?_
      obtain ⟨x3, gx3, h⟩ := o_bind h
      refine w_invSNi (av := [.int (u 1 10), .int p1]) (st := []) 15 hX ms_yX11_holds mi_yX11_holds ml_X9_105 (CX11_holds (u 1 10) p1 u gx3) rfl (by decide) (Nat.le_of_ble_eq_true rfl) (Nat.le_refl _) (Nat.le_refl _) dX9_isHill_15 ?_
      refine w_if_eq (tgt := 25) 18 hX dX9_isHill_18 (by decide) (fun c4 => ?_) (fun c4 => ?_)
      · have h := it h c4
        refine w_iconst 0 25 hX ic_0 dX9_isHill_25 ?_
        exact w_zret 26 hX hR (by decide) dX9_isHill_26 (by cases h; rfl)
      · have h := ie h c4
        refine w_iconst 1 21 hX ic_1 dX9_isHill_21 ?_
        refine w_goto (tgt := 26) 22 hX (by decide) dX9_isHill_22 ?_
        exact w_zret 26 hX hR (by decide) dX9_isHill_26 (by cases h; rfl))
