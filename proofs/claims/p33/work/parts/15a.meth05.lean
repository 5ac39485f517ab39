def FX4_endLine_39 (u : Mem) : Option Mem :=
  (if (u 39 7) < 0 then (some u) else ((if 16 ≤ (u 39 7) then (some u) else ((wrA u 44 16 (u 39 7) (u 39 6)).bind fun u3 => (some (mupd u3 39 7 ((u3 39 7) + 1))).bind fun u4 => some u4))))
theorem CX4_endLine_39 {G : Gt} (u : Mem) {u' : Mem} (h : FX4_endLine_39 u = some u') : CT G yX4_endLine cX4_endLine 1 none 1 [.ref 39] (SHg G) (RHg G) u (none, (SHg G), (RHg G), u') :=
  ct_of (by decide) rfl (Nat.le_of_ble_eq_true rfl) (Nat.le_refl _) (Nat.le_refl _) (fun X hX hR => by
  unfold FX4_endLine_39 at h
  refine w_aload_n 0 0 hX rfl rfl dX4_endLine_0 ?_
  refine w_getI (j := 7) 1 hX CI_4 s_39 rfl fl_X4_38 rfl dX4_endLine_1 ?_
  refine w_if_lt (tgt := 39) 4 hX dX4_endLine_4 (by decide) (fun c1 => ?_) (fun c1 => ?_)
  · have h := it h c1
    exact w_vret 39 hX hR dX4_endLine_39 (by cases h; rfl)
  · have h := ie h c1
    refine w_aload_n 0 7 hX rfl rfl dX4_endLine_7 ?_
    refine w_getI (j := 7) 8 hX CI_4 s_39 rfl fl_X4_38 rfl dX4_endLine_8 ?_
    refine w_bipush 16 11 hX ib_16 dX4_endLine_11 ?_
    refine w_icmp_ge (tgt := 39) 13 hX dX4_endLine_13 (by decide) (fun c2 => ?_) (fun c2 => ?_)
    · have h := it h c2
      exact w_vret 39 hX hR dX4_endLine_39 (by cases h; rfl)
    · have h := ie h c2
      refine w_aload_n 0 16 hX rfl rfl dX4_endLine_16 ?_
      refine w_getR 17 hX CI_4 s_39 rfl r_39_4 fl_X4_24 rfl dX4_endLine_17 ?_
      refine w_aload_n 0 20 hX rfl rfl dX4_endLine_20 ?_
      refine w_getI (j := 7) 21 hX CI_4 s_39 rfl fl_X4_38 rfl dX4_endLine_21 ?_
      refine w_aload_n 0 24 hX rfl rfl dX4_endLine_24 ?_
      refine w_getI (j := 6) 25 hX CI_4 s_39 rfl fl_X4_34 rfl dX4_endLine_25 ?_
      obtain ⟨u3, gu3, h⟩ := o_bind h
      refine w_iast 28 hX s_44 gu3 dX4_endLine_28 ?_
      refine w_aload_n 0 29 hX rfl rfl dX4_endLine_29 ?_
      refine w_dup 30 hX rfl dX4_endLine_30 ?_
      refine w_getI (j := 7) 31 hX CI_4 s_39 rfl fl_X4_38 rfl dX4_endLine_31 ?_
      refine w_iconst 1 34 hX ic_1 dX4_endLine_34 ?_
      refine w_iadd 35 hX dX4_endLine_35 ?_
      obtain ⟨u4, gu4, h⟩ := o_bind h
      refine w_putI (j := 7) 36 hX CI_4 s_39 rfl fl_X4_38 rfl rfl rfl rfl dX4_endLine_36 ?_
      rw [Option.some.inj gu4]
      exact w_vret 39 hX hR dX4_endLine_39 (by cases h; rfl))
def FX6_lawLine_34_b64 (u : Mem) : Option Mem :=
  (FX6_need_34 59 u).bind fun u2 => (FX4_endLine_39 u2).bind fun u4 => (some (mupd u4 34 11 ((u4 34 11) + 1))).bind fun u5 => some u5
theorem bX6_lawLine_34_64 {G : Gt} {X : Xt} {u' : Mem} (hX : CxOk G X cX6_lawLine 2 RX6 (none, (SHg G), (RHg G), u') 91) (hR : CxRet G X none (none, (SHg G), (RHg G), u')) (u : Mem) (h : FX6_lawLine_34_b64 u = some u') : WM G X 64 [(0, .ref 34)] [] (SHg G) (RHg G) u := by
  unfold FX6_lawLine_34_b64 at h
  refine w_aload_n 0 64 hX rfl rfl dX6_lawLine_64 ?_
  refine w_bipush 59 65 hX ib_59 dX6_lawLine_65 ?_
  obtain ⟨u2, gu2, h⟩ := o_bind h
  refine w_invVv (av := [.int 59]) (st := []) 67 hX CI_6 s_34 rfl mv_yX6_need mi_yX6_need ml_X6_197 (CX6_need_34 59 u gu2) rfl (by decide) (Nat.le_of_ble_eq_true rfl) (Nat.le_refl _) (Nat.le_refl _) dX6_lawLine_67 ?_
  refine w_aload_n 0 70 hX rfl rfl dX6_lawLine_70 ?_
  refine w_getR 71 hX CI_6 s_34 rfl r_34_4 fl_X6_27 rfl dX6_lawLine_71 ?_
  obtain ⟨u4, gu4, h⟩ := o_bind h
  refine w_invVv (av := []) (st := []) 74 hX CI_4 s_39 rfl mv_yX4_endLine mi_yX4_endLine ml_X6_213 (CX4_endLine_39 u2 gu4) rfl (by decide) (Nat.le_of_ble_eq_true rfl) (Nat.le_refl _) (Nat.le_refl _) dX6_lawLine_74 ?_
  refine w_aload_n 0 77 hX rfl rfl dX6_lawLine_77 ?_
  refine w_dup 78 hX rfl dX6_lawLine_78 ?_
  refine w_getI (j := 11) 79 hX CI_6 s_34 rfl fl_X6_92 rfl dX6_lawLine_79 ?_
  refine w_iconst 1 82 hX ic_1 dX6_lawLine_82 ?_
  refine w_iadd 83 hX dX6_lawLine_83 ?_
  obtain ⟨u5, gu5, h⟩ := o_bind h
  refine w_putI (j := 11) 84 hX CI_6 s_34 rfl fl_X6_92 rfl rfl rfl rfl dX6_lawLine_84 ?_
  rw [Option.some.inj gu5]
  exact w_vret 87 hX hR dX6_lawLine_87 (by cases h; rfl)
def FX6_lawLine_34_b27 (l1 t1 : Int32) (u : Mem) : Option Mem :=
  (FX6_beginLine_34 t1 u).bind fun u2 => (FX4_beginLine_39 l1 u2).bind fun u4 => (FX6_sum_34 u4).bind fun u6 => (FX4_beginWhen_39 u6).bind fun u8 => bnd2 (FX6_take_34 260 u8) fun x9 u10 => (if x9 = 0 then (FX6_lawLine_34_b64 u10) else ((FX6_condition_34 DFU 0 u10).bind fun u13 => FX6_lawLine_34_b64 u13))
theorem bX6_lawLine_34_27 {G : Gt} {X : Xt} {u' : Mem} (hX : CxOk G X cX6_lawLine 2 RX6 (none, (SHg G), (RHg G), u') 91) (hR : CxRet G X none (none, (SHg G), (RHg G), u')) (l1 t1 : Int32) (u : Mem) (h : FX6_lawLine_34_b27 l1 t1 u = some u') : WM G X 27 [(0, .ref 34), (1, .int l1)] [.int t1, .ref 34] (SHg G) (RHg G) u := by
  unfold FX6_lawLine_34_b27 at h
  obtain ⟨u2, gu2, h⟩ := o_bind h
  refine w_invVv (av := [.int t1]) (st := []) 27 hX CI_6 s_34 rfl mv_yX6_beginLine mi_yX6_beginLine ml_X6_200 (CX6_beginLine_34 t1 u gu2) rfl (by decide) (Nat.le_of_ble_eq_true rfl) (Nat.le_refl _) (Nat.le_refl _) dX6_lawLine_27 ?_
  refine w_aload_n 0 30 hX rfl rfl dX6_lawLine_30 ?_
  refine w_getR 31 hX CI_6 s_34 rfl r_34_4 fl_X6_27 rfl dX6_lawLine_31 ?_
  refine w_iload_n 1 34 hX rfl rfl dX6_lawLine_34 ?_
  obtain ⟨u4, gu4, h⟩ := o_bind h
  refine w_invVv (av := [.int l1]) (st := []) 35 hX CI_4 s_39 rfl mv_yX4_beginLine mi_yX4_beginLine ml_X6_203 (CX4_beginLine_39 l1 u2 gu4) rfl (by decide) (Nat.le_of_ble_eq_true rfl) (Nat.le_refl _) (Nat.le_refl _) dX6_lawLine_35 ?_
  refine w_aload_n 0 38 hX rfl rfl dX6_lawLine_38 ?_
  obtain ⟨u6, gu6, h⟩ := o_bind h
  refine w_invVv (av := []) (st := []) 39 hX CI_6 s_34 rfl mv_yX6_sum mi_yX6_sum ml_X6_204 (CX6_sum_34 u4 gu6) rfl (by decide) (Nat.le_of_ble_eq_true rfl) (Nat.le_refl _) (Nat.le_refl _) dX6_lawLine_39 ?_
  refine w_aload_n 0 42 hX rfl rfl dX6_lawLine_42 ?_
  refine w_getR 43 hX CI_6 s_34 rfl r_34_4 fl_X6_27 rfl dX6_lawLine_43 ?_
  obtain ⟨u8, gu8, h⟩ := o_bind h
  refine w_invVv (av := []) (st := []) 46 hX CI_4 s_39 rfl mv_yX4_beginWhen mi_yX4_beginWhen ml_X6_207 (CX4_beginWhen_39 u6 gu8) rfl (by decide) (Nat.le_of_ble_eq_true rfl) (Nat.le_refl _) (Nat.le_refl _) dX6_lawLine_46 ?_
  refine w_aload_n 0 49 hX rfl rfl dX6_lawLine_49 ?_
  refine w_sipush 260 50 hX isp_260 dX6_lawLine_50 ?_
  obtain ⟨x9, u10, gx9, h⟩ := o_bnd2 h
  refine w_invVi (av := [.int 260]) (st := []) 53 hX CI_6 s_34 rfl mv_yX6_take mi_yX6_take ml_X6_191 (CX6_take_34 260 u8 gx9) rfl (by decide) (Nat.le_of_ble_eq_true rfl) (Nat.le_refl _) (Nat.le_refl _) dX6_lawLine_53 ?_
  refine w_if_eq (tgt := 64) 56 hX dX6_lawLine_56 (by decide) (fun c11 => ?_) (fun c11 => ?_)
  · have h := it h c11
    exact w_sub [0] rfl (bX6_lawLine_34_64 hX hR u10 h)
  · have h := ie h c11
    refine w_aload_n 0 59 hX rfl rfl dX6_lawLine_59 ?_
    refine w_iconst 0 60 hX ic_0 dX6_lawLine_60 ?_
    obtain ⟨u13, gu13, h⟩ := o_bind h
    refine w_invVv (av := [.int 0]) (st := []) 61 hX CI_6 s_34 rfl mv_yX6_condition mi_yX6_condition ml_X6_210 (CX6_condition_34 DFU 0 u10 gu13) rfl (by decide) (Nat.le_of_ble_eq_true rfl) (Nat.le_refl _) (Nat.le_refl _) dX6_lawLine_61 ?_
    exact w_sub [0] rfl (bX6_lawLine_34_64 hX hR u13 h)
def FX6_lawLine_34 (u : Mem) : Option Mem :=
  (if ((u 34 10) - 256) < 0 then (FX6_lawLine_34_b27 ((u 34 10) - 256) (-1) u) else ((if ((u 34 10) - 256) ≤ 3 then (FX6_lawLine_34_b27 ((u 34 10) - 256) (u 34 10) u) else (FX6_lawLine_34_b27 ((u 34 10) - 256) (-1) u))))
theorem CX6_lawLine_34 {G : Gt} (u : Mem) {u' : Mem} (h : FX6_lawLine_34 u = some u') : CT G yX6_lawLine cX6_lawLine 2 none 91 [.ref 34] (SHg G) (RHg G) u (none, (SHg G), (RHg G), u') :=
  ct_of (by decide) rfl (Nat.le_of_ble_eq_true rfl) (Nat.le_refl _) (Nat.le_refl _) (fun X hX hR => by
  unfold FX6_lawLine_34 at h
  refine w_aload_n 0 0 hX rfl rfl dX6_lawLine_0 ?_
  refine w_getI (j := 10) 1 hX CI_6 s_34 rfl fl_X6_67 rfl dX6_lawLine_1 ?_
  refine w_sipush 256 4 hX isp_256 dX6_lawLine_4 ?_
  refine w_isub 7 hX dX6_lawLine_7 ?_
  refine w_istore_n (lv' := [(1, .int ((u 34 10) - 256)), (0, .ref 34)]) 8 hX rfl dX6_lawLine_8 (by decide) rfl ?_
  refine w_aload_n 1 9 hX rfl rfl dX6_lawLine_9 ?_
  refine w_iload_n 0 10 hX rfl rfl dX6_lawLine_10 ?_
  refine w_if_lt (tgt := 19) 11 hX dX6_lawLine_11 (by decide) (fun c1 => ?_) (fun c1 => ?_)
  · have h := it h c1
    refine w_iconst (-1) 19 hX ic_m1 dX6_lawLine_19 ?_
    refine w_goto (tgt := 27) 20 hX (by decide) dX6_lawLine_20 ?_
    exact w_sub [1, 0] rfl (bX6_lawLine_34_27 hX hR ((u 34 10) - 256) (-1) u h)
  · have h := ie h c1
    refine w_iload_n 0 14 hX rfl rfl dX6_lawLine_14 ?_
    refine w_iconst 3 15 hX ic_3 dX6_lawLine_15 ?_
    refine w_icmp_le (tgt := 23) 16 hX dX6_lawLine_16 (by decide) (fun c2 => ?_) (fun c2 => ?_)
    · have h := it h c2
      refine w_aload_n 1 23 hX rfl rfl dX6_lawLine_23 ?_
      refine w_getI (j := 10) 24 hX CI_6 s_34 rfl fl_X6_67 rfl dX6_lawLine_24 ?_
      exact w_sub [1, 0] rfl (bX6_lawLine_34_27 hX hR ((u 34 10) - 256) (u 34 10) u h)
    · have h := ie h c2
      refine w_iconst (-1) 19 hX ic_m1 dX6_lawLine_19 ?_
      refine w_goto (tgt := 27) 20 hX (by decide) dX6_lawLine_20 ?_
      exact w_sub [1, 0] rfl (bX6_lawLine_34_27 hX hR ((u 34 10) - 256) (-1) u h))
def FX6_tellingLine_34_b151 (u : Mem) : Option Mem :=
  (some (mupd u 34 11 ((u 34 11) + 1))).bind fun u1 => some u1
theorem bX6_tellingLine_34_151 {G : Gt} {X : Xt} {u' : Mem} (hX : CxOk G X cX6_tellingLine 8 RX6 (none, (SHg G), (RHg G), u') 4) (hR : CxRet G X none (none, (SHg G), (RHg G), u')) (u : Mem) (h : FX6_tellingLine_34_b151 u = some u') : WM G X 151 [(0, .ref 34)] [] (SHg G) (RHg G) u := by
  unfold FX6_tellingLine_34_b151 at h
  refine w_aload_n 0 151 hX rfl rfl dX6_tellingLine_151 ?_
  refine w_dup 152 hX rfl dX6_tellingLine_152 ?_
  refine w_getI (j := 11) 153 hX CI_6 s_34 rfl fl_X6_92 rfl dX6_tellingLine_153 ?_
  refine w_iconst 1 156 hX ic_1 dX6_tellingLine_156 ?_
  refine w_iadd 157 hX dX6_tellingLine_157 ?_
  obtain ⟨u1, gu1, h⟩ := o_bind h
  refine w_putI (j := 11) 158 hX CI_6 s_34 rfl fl_X6_92 rfl rfl rfl rfl dX6_tellingLine_158 ?_
  rw [Option.some.inj gu1]
  exact w_vret 161 hX hR dX6_tellingLine_161 (by cases h; rfl)
def FX6_tellingLine_34_b117 (l3 l4 : Int32) (u : Mem) : Option Mem :=
  (FX6_need_34 59 u).bind fun u2 => (if (u2 34 13) = 0 then ((if l3 < 0 then (FX6_tellingLine_34_b151 u2) else ((if 12 ≤ l3 then (FX6_tellingLine_34_b151 u2) else ((rdA u2 50 12 l3).bind fun x6 => (wrA u2 50 12 l3 (x6 ||| l4)).bind fun u7 => FX6_tellingLine_34_b151 u7))))) else (FX6_tellingLine_34_b151 u2))
theorem bX6_tellingLine_34_117 {G : Gt} {X : Xt} {u' : Mem} (hX : CxOk G X cX6_tellingLine 8 RX6 (none, (SHg G), (RHg G), u') 4) (hR : CxRet G X none (none, (SHg G), (RHg G), u')) (l3 l4 : Int32) (u : Mem) (h : FX6_tellingLine_34_b117 l3 l4 u = some u') : WM G X 117 [(0, .ref 34), (3, .int l3), (4, .int l4)] [] (SHg G) (RHg G) u := by
  unfold FX6_tellingLine_34_b117 at h
  refine w_aload_n 0 117 hX rfl rfl dX6_tellingLine_117 ?_
  refine w_bipush 59 118 hX ib_59 dX6_tellingLine_118 ?_
  obtain ⟨u2, gu2, h⟩ := o_bind h
  refine w_invVv (av := [.int 59]) (st := []) 120 hX CI_6 s_34 rfl mv_yX6_need mi_yX6_need ml_X6_197 (CX6_need_34 59 u gu2) rfl (by decide) (Nat.le_of_ble_eq_true rfl) (Nat.le_refl _) (Nat.le_refl _) dX6_tellingLine_120 ?_
  refine w_aload_n 0 123 hX rfl rfl dX6_tellingLine_123 ?_
  refine w_getI (j := 13) 124 hX CI_6 s_34 rfl fl_X6_57 rfl dX6_tellingLine_124 ?_
  refine w_if_ne (tgt := 151) 127 hX dX6_tellingLine_127 (by decide) (fun c3 => ?_) (fun c3 => ?_)
  · have h := ie h c3
    exact w_sub [0] rfl (bX6_tellingLine_34_151 hX hR u2 h)
  · have h := it h c3
    refine w_iload_n 1 130 hX rfl rfl dX6_tellingLine_130 ?_
    refine w_if_lt (tgt := 151) 131 hX dX6_tellingLine_131 (by decide) (fun c4 => ?_) (fun c4 => ?_)
    · have h := it h c4
      exact w_sub [0] rfl (bX6_tellingLine_34_151 hX hR u2 h)
    · have h := ie h c4
      refine w_iload_n 1 134 hX rfl rfl dX6_tellingLine_134 ?_
      refine w_bipush 12 135 hX ib_12 dX6_tellingLine_135 ?_
      refine w_icmp_ge (tgt := 151) 137 hX dX6_tellingLine_137 (by decide) (fun c5 => ?_) (fun c5 => ?_)
      · have h := it h c5
        exact w_sub [0] rfl (bX6_tellingLine_34_151 hX hR u2 h)
      · have h := ie h c5
        refine w_aload_n 0 140 hX rfl rfl dX6_tellingLine_140 ?_
        refine w_getR 141 hX CI_6 s_34 rfl r_34_6 fl_X6_38 rfl dX6_tellingLine_141 ?_
        refine w_iload_n 1 144 hX rfl rfl dX6_tellingLine_144 ?_
        refine w_dup2 145 hX rfl rfl dX6_tellingLine_145 ?_
        obtain ⟨x6, gx6, h⟩ := o_bind h
        refine w_iald 146 hX s_50 gx6 dX6_tellingLine_146 ?_
        refine w_iload 2 147 hX rfl dX6_tellingLine_147 ?_
        refine w_ior 149 hX dX6_tellingLine_149 ?_
        obtain ⟨u7, gu7, h⟩ := o_bind h
        refine w_iast 150 hX s_50 gu7 dX6_tellingLine_150 ?_
        exact w_sub [0] rfl (bX6_tellingLine_34_151 hX hR u7 h)
def FX6_tellingLine_34_b99 (k54 : Int32 → Int32 → Int32 → Int32 → Int32 → Mem → Option Mem) (l1 l3 l6 t0 t1 : Int32) (u : Mem) : Option Mem :=
  bnd2 (FX6_take_34 257 u) fun x1 u2 => k54 l1 l3 (t0 ||| t1) x1 (l6 + 1) u2
theorem bX6_tellingLine_34_99 {G : Gt} {X : Xt} {u' : Mem} (hX : CxOk G X cX6_tellingLine 8 RX6 (none, (SHg G), (RHg G), u') 4) (hR : CxRet G X none (none, (SHg G), (RHg G), u')) {k54 : Int32 → Int32 → Int32 → Int32 → Int32 → Mem → Option Mem} (hk54 : ∀ (l1 l3 l4 l5 l6 : Int32) (u : Mem), k54 l1 l3 l4 l5 l6 u = some u' → WM G X 54 [(0, .ref 34), (1, .int l1), (3, .int l3), (4, .int l4), (5, .int l5), (6, .int l6)] [] (SHg G) (RHg G) u) (l1 l3 l6 t0 t1 : Int32) (u : Mem) (h : FX6_tellingLine_34_b99 k54 l1 l3 l6 t0 t1 u = some u') : WM G X 99 [(0, .ref 34), (1, .int l1), (3, .int l3), (6, .int l6)] [.int t1, .int t0] (SHg G) (RHg G) u := by
  unfold FX6_tellingLine_34_b99 at h
  refine w_ior 99 hX dX6_tellingLine_99 ?_
  refine w_istore (lv' := [(4, .int (t0 ||| t1)), (0, .ref 34), (1, .int l1), (3, .int l3), (6, .int l6)]) 100 hX dX6_tellingLine_100 (by decide) rfl ?_
  refine w_aload_n 1 102 hX rfl rfl dX6_tellingLine_102 ?_
  refine w_sipush 257 103 hX isp_257 dX6_tellingLine_103 ?_
  obtain ⟨x1, u2, gx1, h⟩ := o_bnd2 h
  refine w_invVi (av := [.int 257]) (st := []) 106 hX CI_6 s_34 rfl mv_yX6_take mi_yX6_take ml_X6_191 (CX6_take_34 257 u gx1) rfl (by decide) (Nat.le_of_ble_eq_true rfl) (Nat.le_refl _) (Nat.le_refl _) dX6_tellingLine_106 ?_
  refine w_istore (lv' := [(5, .int x1), (4, .int (t0 ||| t1)), (0, .ref 34), (1, .int l1), (3, .int l3), (6, .int l6)]) 109 hX dX6_tellingLine_109 (by decide) rfl ?_
  refine w_iinc (lv' := [(6, .int (l6 + 1)), (5, .int x1), (4, .int (t0 ||| t1)), (0, .ref 34), (1, .int l1), (3, .int l3)]) 111 5 hX dX6_tellingLine_111 rfl (inc_1 _) (by decide) rfl ?_
  refine w_goto (tgt := 54) 114 hX (by decide) dX6_tellingLine_114 ?_
  exact w_sub [3, 4, 5, 2, 1, 0] rfl (hk54 l1 l3 (t0 ||| t1) x1 (l6 + 1) u2 h)
def FX6_tellingLine_34_b54 (k54 : Int32 → Int32 → Int32 → Int32 → Int32 → Mem → Option Mem) (l1 l3 l4 l5 l6 : Int32) (u : Mem) : Option Mem :=
  (if 400 ≤ l6 then (FX6_tellingLine_34_b117 l3 l4 u) else ((if l5 = 0 then (FX6_tellingLine_34_b117 l3 l4 u) else (bnd2 (FX6_number_34 (l1 - 1) l3 u) fun x3 u4 => (if x3 < 0 then (FX6_tellingLine_34_b99 k54 l1 l3 l6 l4 0 u4) else ((if 12 ≤ x3 then (FX6_tellingLine_34_b99 k54 l1 l3 l6 l4 0 u4) else (FX6_tellingLine_34_b99 k54 l1 l3 l6 l4 ((1 : Int32) <<< (x3 &&& 31)) u4))))))))
theorem bX6_tellingLine_34_54 {G : Gt} {X : Xt} {u' : Mem} (hX : CxOk G X cX6_tellingLine 8 RX6 (none, (SHg G), (RHg G), u') 4) (hR : CxRet G X none (none, (SHg G), (RHg G), u')) {k54 : Int32 → Int32 → Int32 → Int32 → Int32 → Mem → Option Mem} (hk54 : ∀ (l1 l3 l4 l5 l6 : Int32) (u : Mem), k54 l1 l3 l4 l5 l6 u = some u' → WM G X 54 [(0, .ref 34), (1, .int l1), (3, .int l3), (4, .int l4), (5, .int l5), (6, .int l6)] [] (SHg G) (RHg G) u) (l1 l3 l4 l5 l6 : Int32) (u : Mem) (h : FX6_tellingLine_34_b54 k54 l1 l3 l4 l5 l6 u = some u') : WM G X 54 [(0, .ref 34), (1, .int l1), (3, .int l3), (4, .int l4), (5, .int l5), (6, .int l6)] [] (SHg G) (RHg G) u := by
  unfold FX6_tellingLine_34_b54 at h
  refine w_iload 5 54 hX rfl dX6_tellingLine_54 ?_
  refine w_sipush 400 56 hX isp_400 dX6_tellingLine_56 ?_
  refine w_icmp_ge (tgt := 117) 59 hX dX6_tellingLine_59 (by decide) (fun c1 => ?_) (fun c1 => ?_)
  · have h := it h c1
    exact w_sub [0, 2, 3] rfl (bX6_tellingLine_34_117 hX hR l3 l4 u h)
  · have h := ie h c1
    refine w_iload 4 62 hX rfl dX6_tellingLine_62 ?_
    refine w_if_eq (tgt := 117) 64 hX dX6_tellingLine_64 (by decide) (fun c2 => ?_) (fun c2 => ?_)
    · have h := it h c2
      exact w_sub [0, 2, 3] rfl (bX6_tellingLine_34_117 hX hR l3 l4 u h)
    · have h := ie h c2
      refine w_aload_n 0 67 hX rfl rfl dX6_tellingLine_67 ?_
      refine w_iload_n 1 68 hX rfl rfl dX6_tellingLine_68 ?_
      refine w_iconst 1 69 hX ic_1 dX6_tellingLine_69 ?_
      refine w_isub 70 hX dX6_tellingLine_70 ?_
      refine w_iload_n 2 71 hX rfl rfl dX6_tellingLine_71 ?_
      obtain ⟨x3, u4, gx3, h⟩ := o_bnd2 h
      refine w_invVi (av := [.int (l1 - 1), .int l3]) (st := []) 72 hX CI_6 s_34 rfl mv_yX6_number mi_yX6_number ml_X6_225 (CX6_number_34 (l1 - 1) l3 u gx3) rfl (by decide) (Nat.le_of_ble_eq_true rfl) (Nat.le_refl _) (Nat.le_refl _) dX6_tellingLine_72 ?_
      refine w_istore (lv' := [(7, .int x3), (0, .ref 34), (1, .int l1), (3, .int l3), (4, .int l4), (5, .int l5), (6, .int l6)]) 75 hX dX6_tellingLine_75 (by decide) rfl ?_
      refine w_iload 4 77 hX rfl dX6_tellingLine_77 ?_
      refine w_iload 0 79 hX rfl dX6_tellingLine_79 ?_
      refine w_if_lt (tgt := 98) 81 hX dX6_tellingLine_81 (by decide) (fun c5 => ?_) (fun c5 => ?_)
      · have h := it h c5
        refine w_iconst 0 98 hX ic_0 dX6_tellingLine_98 ?_
        exact w_sub [1, 2, 3, 6] rfl (bX6_tellingLine_34_99 hX hR hk54 l1 l3 l6 l4 0 u4 h)
      · have h := ie h c5
        refine w_iload 0 84 hX rfl dX6_tellingLine_84 ?_
        refine w_bipush 12 86 hX ib_12 dX6_tellingLine_86 ?_
        refine w_icmp_ge (tgt := 98) 88 hX dX6_tellingLine_88 (by decide) (fun c6 => ?_) (fun c6 => ?_)
        · have h := it h c6
          refine w_iconst 0 98 hX ic_0 dX6_tellingLine_98 ?_
          exact w_sub [1, 2, 3, 6] rfl (bX6_tellingLine_34_99 hX hR hk54 l1 l3 l6 l4 0 u4 h)
        · have h := ie h c6
          refine w_iconst 1 91 hX ic_1 dX6_tellingLine_91 ?_
          refine w_iload 0 92 hX rfl dX6_tellingLine_92 ?_
          refine w_ishl 94 hX dX6_tellingLine_94 ?_
          refine w_goto (tgt := 99) 95 hX (by decide) dX6_tellingLine_95 ?_
          exact w_sub [1, 2, 3, 6] rfl (bX6_tellingLine_34_99 hX hR hk54 l1 l3 l6 l4 ((1 : Int32) <<< (x3 &&& 31)) u4 h)
def FX6_tellingLine_34_L54 : Nat → Int32 → Int32 → Int32 → Int32 → Int32 → Mem → Option Mem
  | 0, _, _, _, _, _, _ => none
  | n + 1, l1, l3, l4, l5, l6, u => FX6_tellingLine_34_b54 (FX6_tellingLine_34_L54 n) l1 l3 l4 l5 l6 u
theorem lX6_tellingLine_34_54 {G : Gt} {X : Xt} {u' : Mem} (hX : CxOk G X cX6_tellingLine 8 RX6 (none, (SHg G), (RHg G), u') 4) (hR : CxRet G X none (none, (SHg G), (RHg G), u')) : ∀ (n : Nat) (l1 l3 l4 l5 l6 : Int32) (u : Mem), FX6_tellingLine_34_L54 n l1 l3 l4 l5 l6 u = some u' → WM G X 54 [(0, .ref 34), (1, .int l1), (3, .int l3), (4, .int l4), (5, .int l5), (6, .int l6)] [] (SHg G) (RHg G) u := by
  intro n
  induction n with
  | zero =>
    intro l1 l3 l4 l5 l6 u h
    exact nn_ h
  | succ n ih =>
    intro l1 l3 l4 l5 l6 u h
    exact bX6_tellingLine_34_54 hX hR ih l1 l3 l4 l5 l6 u h
def FX6_tellingLine_34_b38 (l1 l3 : Int32) (u : Mem) : Option Mem :=
  (FX6_need_34 256 u).bind fun u2 => FX6_tellingLine_34_L54 FU l1 l3 0 1 0 u2
theorem bX6_tellingLine_34_38 {G : Gt} {X : Xt} {u' : Mem} (hX : CxOk G X cX6_tellingLine 8 RX6 (none, (SHg G), (RHg G), u') 4) (hR : CxRet G X none (none, (SHg G), (RHg G), u')) (l1 l3 : Int32) (u : Mem) (h : FX6_tellingLine_34_b38 l1 l3 u = some u') : WM G X 38 [(0, .ref 34), (1, .int l1), (3, .int l3)] [] (SHg G) (RHg G) u := by
  unfold FX6_tellingLine_34_b38 at h
  refine w_aload_n 0 38 hX rfl rfl dX6_tellingLine_38 ?_
  refine w_sipush 256 39 hX isp_256 dX6_tellingLine_39 ?_
  obtain ⟨u2, gu2, h⟩ := o_bind h
  refine w_invVv (av := [.int 256]) (st := []) 42 hX CI_6 s_34 rfl mv_yX6_need mi_yX6_need ml_X6_197 (CX6_need_34 256 u gu2) rfl (by decide) (Nat.le_of_ble_eq_true rfl) (Nat.le_refl _) (Nat.le_refl _) dX6_tellingLine_42 ?_
  refine w_iconst 0 45 hX ic_0 dX6_tellingLine_45 ?_
  refine w_istore (lv' := [(4, .int 0), (0, .ref 34), (1, .int l1), (3, .int l3)]) 46 hX dX6_tellingLine_46 (by decide) rfl ?_
  refine w_iconst 1 48 hX ic_1 dX6_tellingLine_48 ?_
  refine w_istore (lv' := [(5, .int 1), (4, .int 0), (0, .ref 34), (1, .int l1), (3, .int l3)]) 49 hX dX6_tellingLine_49 (by decide) rfl ?_
  refine w_iconst 0 51 hX ic_0 dX6_tellingLine_51 ?_
  refine w_istore (lv' := [(6, .int 0), (5, .int 1), (4, .int 0), (0, .ref 34), (1, .int l1), (3, .int l3)]) 52 hX dX6_tellingLine_52 (by decide) rfl ?_
  exact w_sub [3, 4, 5, 2, 1, 0] rfl (lX6_tellingLine_34_54 hX hR FU l1 l3 0 1 0 u2 h)
def FX6_tellingLine_34 (p1 : Int32) (u : Mem) : Option Mem :=
  bnd2 (FX6_number_34 (p1 - 1) (-1) u) fun x1 u2 => (if x1 = (-1) then (FX6_tellingLine_34_b38 p1 x1 u2) else ((if (u2 34 11) = 16 then ((FX6_go_34 (u 34 9) u2).bind fun u6 => (FX6_fail_34 3 u6).bind fun u8 => FX6_tellingLine_34_b38 p1 x1 u8) else (FX6_tellingLine_34_b38 p1 x1 u2))))
theorem CX6_tellingLine_34 {G : Gt} (p1 : Int32) (u : Mem) {u' : Mem} (h : FX6_tellingLine_34 p1 u = some u') : CT G yX6_tellingLine cX6_tellingLine 8 none 4 [.ref 34, .int p1] (SHg G) (RHg G) u (none, (SHg G), (RHg G), u') :=
  ct_of (by decide) rfl (Nat.le_of_ble_eq_true rfl) (Nat.le_refl _) (Nat.le_refl _) (fun X hX hR => by
  unfold FX6_tellingLine_34 at h
  refine w_aload_n 0 0 hX rfl rfl dX6_tellingLine_0 ?_
  refine w_getI (j := 9) 1 hX CI_6 s_34 rfl fl_X6_188 rfl dX6_tellingLine_1 ?_
  refine w_istore_n (lv' := [(2, .int (u 34 9)), (0, .ref 34), (1, .int p1)]) 4 hX rfl dX6_tellingLine_4 (by decide) rfl ?_
  refine w_aload_n 1 5 hX rfl rfl dX6_tellingLine_5 ?_
  refine w_iload_n 2 6 hX rfl rfl dX6_tellingLine_6 ?_
  refine w_iconst 1 7 hX ic_1 dX6_tellingLine_7 ?_
  refine w_isub 8 hX dX6_tellingLine_8 ?_
  refine w_iconst (-1) 9 hX ic_m1 dX6_tellingLine_9 ?_
  obtain ⟨x1, u2, gx1, h⟩ := o_bnd2 h
  refine w_invVi (av := [.int (p1 - 1), .int (-1)]) (st := []) 10 hX CI_6 s_34 rfl mv_yX6_number mi_yX6_number ml_X6_225 (CX6_number_34 (p1 - 1) (-1) u gx1) rfl (by decide) (Nat.le_of_ble_eq_true rfl) (Nat.le_refl _) (Nat.le_refl _) dX6_tellingLine_10 ?_
  refine w_istore_n (lv' := [(3, .int x1), (2, .int (u 34 9)), (0, .ref 34), (1, .int p1)]) 13 hX rfl dX6_tellingLine_13 (by decide) rfl ?_
  refine w_iload_n 0 14 hX rfl rfl dX6_tellingLine_14 ?_
  refine w_iconst (-1) 15 hX ic_m1 dX6_tellingLine_15 ?_
  refine w_icmp_eq (tgt := 38) 16 hX dX6_tellingLine_16 (by decide) (fun c3 => ?_) (fun c3 => ?_)
  · have h := it h c3
    exact w_sub [2, 3, 0] rfl (bX6_tellingLine_34_38 hX hR p1 x1 u2 h)
  · have h := ie h c3
    refine w_aload_n 2 19 hX rfl rfl dX6_tellingLine_19 ?_
    refine w_getI (j := 11) 20 hX CI_6 s_34 rfl fl_X6_92 rfl dX6_tellingLine_20 ?_
    refine w_bipush 16 23 hX ib_16 dX6_tellingLine_23 ?_
    refine w_icmp_ne (tgt := 38) 25 hX dX6_tellingLine_25 (by decide) (fun c4 => ?_) (fun c4 => ?_)
    · have h := ie h c4
      exact w_sub [2, 3, 0] rfl (bX6_tellingLine_34_38 hX hR p1 x1 u2 h)
    · have h := it h c4
      refine w_aload_n 2 28 hX rfl rfl dX6_tellingLine_28 ?_
      refine w_iload_n 1 29 hX rfl rfl dX6_tellingLine_29 ?_
      obtain ⟨u6, gu6, h⟩ := o_bind h
      refine w_invVv (av := [.int (u 34 9)]) (st := []) 30 hX CI_6 s_34 rfl mv_yX6_go mi_yX6_go ml_X6_95 (CX6_go_34 (u 34 9) u2 gu6) rfl (by decide) (Nat.le_of_ble_eq_true rfl) (Nat.le_refl _) (Nat.le_refl _) dX6_tellingLine_30 ?_
      refine w_aload_n 2 33 hX rfl rfl dX6_tellingLine_33 ?_
      refine w_iconst 3 34 hX ic_3 dX6_tellingLine_34 ?_
      obtain ⟨u8, gu8, h⟩ := o_bind h
      refine w_invVv (av := [.int 3]) (st := []) 35 hX CI_6 s_34 rfl mv_yX6_fail mi_yX6_fail ml_X6_194 (CX6_fail_34 3 u6 gu8) rfl (by decide) (Nat.le_of_ble_eq_true rfl) (Nat.le_refl _) (Nat.le_refl _) dX6_tellingLine_35 ?_
      exact w_sub [2, 3, 0] rfl (bX6_tellingLine_34_38 hX hR p1 x1 u8 h))
def FX6_weightLine_34_b57 (u : Mem) : Option Mem :=
  (some (mupd u 34 11 ((u 34 11) + 1))).bind fun u1 => some u1
theorem bX6_weightLine_34_57 {G : Gt} {X : Xt} {u' : Mem} (hX : CxOk G X cX6_weightLine 3 RX6 (none, (SHg G), (RHg G), u') 5) (hR : CxRet G X none (none, (SHg G), (RHg G), u')) (u : Mem) (h : FX6_weightLine_34_b57 u = some u') : WM G X 57 [(0, .ref 34)] [] (SHg G) (RHg G) u := by
  unfold FX6_weightLine_34_b57 at h
  refine w_aload_n 0 57 hX rfl rfl dX6_weightLine_57 ?_
  refine w_dup 58 hX rfl dX6_weightLine_58 ?_
  refine w_getI (j := 11) 59 hX CI_6 s_34 rfl fl_X6_92 rfl dX6_weightLine_59 ?_
  refine w_iconst 1 62 hX ic_1 dX6_weightLine_62 ?_
  refine w_iadd 63 hX dX6_weightLine_63 ?_
  obtain ⟨u1, gu1, h⟩ := o_bind h
  refine w_putI (j := 11) 64 hX CI_6 s_34 rfl fl_X6_92 rfl rfl rfl rfl dX6_weightLine_64 ?_
  rw [Option.some.inj gu1]
  exact w_vret 67 hX hR dX6_weightLine_67 (by cases h; rfl)
def FX6_weightLine_34 (u : Mem) : Option Mem :=
  (FX6_beginLine_34 256 u).bind fun u2 => bnd2 (FX6_number_34 7 (-1) u2) fun x3 u4 => (FX6_need_34 257 u4).bind fun u6 => bnd2 (FX6_number_34 99 (-1) u6) fun x7 u8 => (FX6_need_34 59 u8).bind fun u10 => (if (u10 34 13) = 0 then ((FX11_isFact x3).bind fun x12 => (if x12 = 0 then (FX6_weightLine_34_b57 u10) else ((wrA u10 51 8 x3 x7).bind fun u14 => FX6_weightLine_34_b57 u14))) else (FX6_weightLine_34_b57 u10))
theorem CX6_weightLine_34 {G : Gt} (u : Mem) {u' : Mem} (h : FX6_weightLine_34 u = some u') : CT G yX6_weightLine cX6_weightLine 3 none 5 [.ref 34] (SHg G) (RHg G) u (none, (SHg G), (RHg G), u') :=
  ct_of (by decide) rfl (Nat.le_of_ble_eq_true rfl) (Nat.le_refl _) (Nat.le_refl _) (fun X hX hR => by
  unfold FX6_weightLine_34 at h
  refine w_aload_n 0 0 hX rfl rfl dX6_weightLine_0 ?_
  refine w_sipush 256 1 hX isp_256 dX6_weightLine_1 ?_
  obtain ⟨u2, gu2, h⟩ := o_bind h
  refine w_invVv (av := [.int 256]) (st := []) 4 hX CI_6 s_34 rfl mv_yX6_beginLine mi_yX6_beginLine ml_X6_200 (CX6_beginLine_34 256 u gu2) rfl (by decide) (Nat.le_of_ble_eq_true rfl) (Nat.le_refl _) (Nat.le_refl _) dX6_weightLine_4 ?_
  refine w_aload_n 0 7 hX rfl rfl dX6_weightLine_7 ?_
  refine w_bipush 7 8 hX ib_7 dX6_weightLine_8 ?_
  refine w_iconst (-1) 10 hX ic_m1 dX6_weightLine_10 ?_
  obtain ⟨x3, u4, gx3, h⟩ := o_bnd2 h
  refine w_invVi (av := [.int 7, .int (-1)]) (st := []) 11 hX CI_6 s_34 rfl mv_yX6_number mi_yX6_number ml_X6_225 (CX6_number_34 7 (-1) u2 gx3) rfl (by decide) (Nat.le_of_ble_eq_true rfl) (Nat.le_refl _) (Nat.le_refl _) dX6_weightLine_11 ?_
  refine w_istore_n (lv' := [(1, .int x3), (0, .ref 34)]) 14 hX rfl dX6_weightLine_14 (by decide) rfl ?_
  refine w_aload_n 1 15 hX rfl rfl dX6_weightLine_15 ?_
  refine w_sipush 257 16 hX isp_257 dX6_weightLine_16 ?_
  obtain ⟨u6, gu6, h⟩ := o_bind h
  refine w_invVv (av := [.int 257]) (st := []) 19 hX CI_6 s_34 rfl mv_yX6_need mi_yX6_need ml_X6_197 (CX6_need_34 257 u4 gu6) rfl (by decide) (Nat.le_of_ble_eq_true rfl) (Nat.le_refl _) (Nat.le_refl _) dX6_weightLine_19 ?_
  refine w_aload_n 1 22 hX rfl rfl dX6_weightLine_22 ?_
  refine w_bipush 99 23 hX ib_99 dX6_weightLine_23 ?_
  refine w_iconst (-1) 25 hX ic_m1 dX6_weightLine_25 ?_
  obtain ⟨x7, u8, gx7, h⟩ := o_bnd2 h
  refine w_invVi (av := [.int 99, .int (-1)]) (st := []) 26 hX CI_6 s_34 rfl mv_yX6_number mi_yX6_number ml_X6_225 (CX6_number_34 99 (-1) u6 gx7) rfl (by decide) (Nat.le_of_ble_eq_true rfl) (Nat.le_refl _) (Nat.le_refl _) dX6_weightLine_26 ?_
  refine w_istore_n (lv' := [(2, .int x7), (1, .int x3), (0, .ref 34)]) 29 hX rfl dX6_weightLine_29 (by decide) rfl ?_
  refine w_aload_n 2 30 hX rfl rfl dX6_weightLine_30 ?_
  refine w_bipush 59 31 hX ib_59 dX6_weightLine_31 ?_
  obtain ⟨u10, gu10, h⟩ := o_bind h
  refine w_invVv (av := [.int 59]) (st := []) 33 hX CI_6 s_34 rfl mv_yX6_need mi_yX6_need ml_X6_197 (CX6_need_34 59 u8 gu10) rfl (by decide) (Nat.le_of_ble_eq_true rfl) (Nat.le_refl _) (Nat.le_refl _) dX6_weightLine_33 ?_
  refine w_aload_n 2 36 hX rfl rfl dX6_weightLine_36 ?_
  refine w_getI (j := 13) 37 hX CI_6 s_34 rfl fl_X6_57 rfl dX6_weightLine_37 ?_
  refine w_if_ne (tgt := 57) 40 hX dX6_weightLine_40 (by decide) (fun c11 => ?_) (fun c11 => ?_)
  · have h := ie h c11
    exact w_sub [2] rfl (bX6_weightLine_34_57 hX hR u10 h)
  · have h := it h c11
    refine w_iload_n 1 43 hX rfl rfl dX6_weightLine_43 ?_
    obtain ⟨x12, gx12, h⟩ := o_bind h
    refine w_invSNi (av := [.int x3]) (st := []) 44 hX ms_yX11_isFact mi_yX11_isFact ml_X6_228 (CX11_isFact x3 u10 gx12) rfl (by decide) (Nat.le_of_ble_eq_true rfl) (Nat.le_refl _) (Nat.le_refl _) dX6_weightLine_44 ?_
    refine w_if_eq (tgt := 57) 47 hX dX6_weightLine_47 (by decide) (fun c13 => ?_) (fun c13 => ?_)
    · have h := it h c13
      exact w_sub [2] rfl (bX6_weightLine_34_57 hX hR u10 h)
    · have h := ie h c13
      refine w_aload_n 2 50 hX rfl rfl dX6_weightLine_50 ?_
      refine w_getR 51 hX CI_6 s_34 rfl r_34_7 fl_X6_41 rfl dX6_weightLine_51 ?_
      refine w_iload_n 1 54 hX rfl rfl dX6_weightLine_54 ?_
      refine w_iload_n 0 55 hX rfl rfl dX6_weightLine_55 ?_
      obtain ⟨u14, gu14, h⟩ := o_bind h
      refine w_iast 56 hX s_51 gu14 dX6_weightLine_56 ?_
      exact w_sub [2] rfl (bX6_weightLine_34_57 hX hR u14 h))
def FX5_add_46_b43 (l3 t1 t2 : Int32) (u : Mem) : Option Mem :=
  (wrA u 49 16 t1 t2).bind fun u1 => (wrA u1 48 16 (u1 46 3) l3).bind fun u2 => (some (mupd u2 46 3 ((u2 46 3) + 1))).bind fun u3 => some u3
theorem bX5_add_46_43 {G : Gt} {X : Xt} {u' : Mem} (hX : CxOk G X cX5_add 4 RX5 (none, (SHg G), (RHg G), u') 1) (hR : CxRet G X none (none, (SHg G), (RHg G), u')) (l3 t1 t2 : Int32) (u : Mem) (h : FX5_add_46_b43 l3 t1 t2 u = some u') : WM G X 43 [(0, .ref 46), (3, .int l3)] [.int t2, .int t1, .ref 49] (SHg G) (RHg G) u := by
  unfold FX5_add_46_b43 at h
  obtain ⟨u1, gu1, h⟩ := o_bind h
  refine w_iast 43 hX s_49 gu1 dX5_add_43 ?_
  refine w_aload_n 0 44 hX rfl rfl dX5_add_44 ?_
  refine w_getR 45 hX CI_5 s_46 rfl r_46_1 fl_X5_15 rfl dX5_add_45 ?_
  refine w_aload_n 0 48 hX rfl rfl dX5_add_48 ?_
  refine w_getI (j := 3) 49 hX CI_5 s_46 rfl fl_X5_25 rfl dX5_add_49 ?_
  refine w_iload_n 1 52 hX rfl rfl dX5_add_52 ?_
  obtain ⟨u2, gu2, h⟩ := o_bind h
  refine w_iast 53 hX s_48 gu2 dX5_add_53 ?_
  refine w_aload_n 0 54 hX rfl rfl dX5_add_54 ?_
  refine w_dup 55 hX rfl dX5_add_55 ?_
  refine w_getI (j := 3) 56 hX CI_5 s_46 rfl fl_X5_25 rfl dX5_add_56 ?_
  refine w_iconst 1 59 hX ic_1 dX5_add_59 ?_
  refine w_iadd 60 hX dX5_add_60 ?_
  obtain ⟨u3, gu3, h⟩ := o_bind h
  refine w_putI (j := 3) 61 hX CI_5 s_46 rfl fl_X5_25 rfl rfl rfl rfl dX5_add_61 ?_
  rw [Option.some.inj gu3]
  exact w_vret 64 hX hR dX5_add_64 (by cases h; rfl)
def FX5_add_46 (p1 p2 p3 : Int32) (u : Mem) : Option Mem :=
  (if (u 46 3) < 0 then (some u) else ((if 16 ≤ (u 46 3) then (some u) else ((wrA u 47 16 (u 46 3) p1).bind fun u3 => (if p2 = 0 then (FX5_add_46_b43 p3 (u3 46 3) 0 u3) else (FX5_add_46_b43 p3 (u3 46 3) 1 u3))))))
theorem CX5_add_46 {G : Gt} (p1 p2 p3 : Int32) (u : Mem) {u' : Mem} (h : FX5_add_46 p1 p2 p3 u = some u') : CT G yX5_add cX5_add 4 none 1 [.ref 46, .int p1, .int p2, .int p3] (SHg G) (RHg G) u (none, (SHg G), (RHg G), u') :=
  ct_of (by decide) rfl (Nat.le_of_ble_eq_true rfl) (Nat.le_refl _) (Nat.le_refl _) (fun X hX hR => by
  unfold FX5_add_46 at h
  refine w_aload_n 0 0 hX rfl rfl dX5_add_0 ?_
  refine w_getI (j := 3) 1 hX CI_5 s_46 rfl fl_X5_25 rfl dX5_add_1 ?_
  refine w_if_lt (tgt := 64) 4 hX dX5_add_4 (by decide) (fun c1 => ?_) (fun c1 => ?_)
  · have h := it h c1
    exact w_vret 64 hX hR dX5_add_64 (by cases h; rfl)
  · have h := ie h c1
    refine w_aload_n 0 7 hX rfl rfl dX5_add_7 ?_
    refine w_getI (j := 3) 8 hX CI_5 s_46 rfl fl_X5_25 rfl dX5_add_8 ?_
    refine w_bipush 16 11 hX ib_16 dX5_add_11 ?_
    refine w_icmp_ge (tgt := 64) 13 hX dX5_add_13 (by decide) (fun c2 => ?_) (fun c2 => ?_)
    · have h := it h c2
      exact w_vret 64 hX hR dX5_add_64 (by cases h; rfl)
    · have h := ie h c2
      refine w_aload_n 0 16 hX rfl rfl dX5_add_16 ?_
      refine w_getR 17 hX CI_5 s_46 rfl r_46_0 fl_X5_9 rfl dX5_add_17 ?_
      refine w_aload_n 0 20 hX rfl rfl dX5_add_20 ?_
      refine w_getI (j := 3) 21 hX CI_5 s_46 rfl fl_X5_25 rfl dX5_add_21 ?_
      refine w_iload_n 1 24 hX rfl rfl dX5_add_24 ?_
      obtain ⟨u3, gu3, h⟩ := o_bind h
      refine w_iast 25 hX s_47 gu3 dX5_add_25 ?_
      refine w_aload_n 0 26 hX rfl rfl dX5_add_26 ?_
      refine w_getR 27 hX CI_5 s_46 rfl r_46_2 fl_X5_18 rfl dX5_add_27 ?_
      refine w_aload_n 0 30 hX rfl rfl dX5_add_30 ?_
      refine w_getI (j := 3) 31 hX CI_5 s_46 rfl fl_X5_25 rfl dX5_add_31 ?_
      refine w_iload_n 2 34 hX rfl rfl dX5_add_34 ?_
      refine w_if_eq (tgt := 42) 35 hX dX5_add_35 (by decide) (fun c4 => ?_) (fun c4 => ?_)
      · have h := it h c4
        refine w_iconst 0 42 hX ic_0 dX5_add_42 ?_
        exact w_sub [0, 3] rfl (bX5_add_46_43 hX hR p3 (u3 46 3) 0 u3 h)
      · have h := ie h c4
        refine w_iconst 1 38 hX ic_1 dX5_add_38 ?_
        refine w_goto (tgt := 43) 39 hX (by decide) dX5_add_39 ?_
        exact w_sub [0, 3] rfl (bX5_add_46_43 hX hR p3 (u3 46 3) 1 u3 h))
def FX6_orderLine_34_b79 (u : Mem) : Option Mem :=
  (some (mupd u 34 11 ((u 34 11) + 1))).bind fun u1 => some u1
theorem bX6_orderLine_34_79 {G : Gt} {X : Xt} {u' : Mem} (hX : CxOk G X cX6_orderLine 4 RX6 (none, (SHg G), (RHg G), u') 5) (hR : CxRet G X none (none, (SHg G), (RHg G), u')) (u : Mem) (h : FX6_orderLine_34_b79 u = some u') : WM G X 79 [(0, .ref 34)] [] (SHg G) (RHg G) u := by
  unfold FX6_orderLine_34_b79 at h
  refine w_aload_n 0 79 hX rfl rfl dX6_orderLine_79 ?_
  refine w_dup 80 hX rfl dX6_orderLine_80 ?_
  refine w_getI (j := 11) 81 hX CI_6 s_34 rfl fl_X6_92 rfl dX6_orderLine_81 ?_
  refine w_iconst 1 84 hX ic_1 dX6_orderLine_84 ?_
  refine w_iadd 85 hX dX6_orderLine_85 ?_
  obtain ⟨u1, gu1, h⟩ := o_bind h
  refine w_putI (j := 11) 86 hX CI_6 s_34 rfl fl_X6_92 rfl rfl rfl rfl dX6_orderLine_86 ?_
  rw [Option.some.inj gu1]
  exact w_vret 89 hX hR dX6_orderLine_89 (by cases h; rfl)
def FX6_orderLine_34_b46 (l1 l2 t1 : Int32) (u : Mem) : Option Mem :=
  (FX6_need_34 t1 u).bind fun u2 => bnd2 (FX6_number_34 1 (-1) u2) fun x3 u4 => (FX6_need_34 59 u4).bind fun u6 => (if (u6 34 13) = 0 then ((FX5_add_46 l1 l2 x3 u6).bind fun u9 => FX6_orderLine_34_b79 u9) else (FX6_orderLine_34_b79 u6))
theorem bX6_orderLine_34_46 {G : Gt} {X : Xt} {u' : Mem} (hX : CxOk G X cX6_orderLine 4 RX6 (none, (SHg G), (RHg G), u') 5) (hR : CxRet G X none (none, (SHg G), (RHg G), u')) (l1 l2 t1 : Int32) (u : Mem) (h : FX6_orderLine_34_b46 l1 l2 t1 u = some u') : WM G X 46 [(0, .ref 34), (1, .int l1), (2, .int l2)] [.int t1, .ref 34] (SHg G) (RHg G) u := by
  unfold FX6_orderLine_34_b46 at h
  obtain ⟨u2, gu2, h⟩ := o_bind h
  refine w_invVv (av := [.int t1]) (st := []) 46 hX CI_6 s_34 rfl mv_yX6_need mi_yX6_need ml_X6_197 (CX6_need_34 t1 u gu2) rfl (by decide) (Nat.le_of_ble_eq_true rfl) (Nat.le_refl _) (Nat.le_refl _) dX6_orderLine_46 ?_
  refine w_aload_n 0 49 hX rfl rfl dX6_orderLine_49 ?_
  refine w_iconst 1 50 hX ic_1 dX6_orderLine_50 ?_
  refine w_iconst (-1) 51 hX ic_m1 dX6_orderLine_51 ?_
  obtain ⟨x3, u4, gx3, h⟩ := o_bnd2 h
  refine w_invVi (av := [.int 1, .int (-1)]) (st := []) 52 hX CI_6 s_34 rfl mv_yX6_number mi_yX6_number ml_X6_225 (CX6_number_34 1 (-1) u2 gx3) rfl (by decide) (Nat.le_of_ble_eq_true rfl) (Nat.le_refl _) (Nat.le_refl _) dX6_orderLine_52 ?_
  refine w_istore_n (lv' := [(3, .int x3), (0, .ref 34), (1, .int l1), (2, .int l2)]) 55 hX rfl dX6_orderLine_55 (by decide) rfl ?_
  refine w_aload_n 1 56 hX rfl rfl dX6_orderLine_56 ?_
  refine w_bipush 59 57 hX ib_59 dX6_orderLine_57 ?_
  obtain ⟨u6, gu6, h⟩ := o_bind h
  refine w_invVv (av := [.int 59]) (st := []) 59 hX CI_6 s_34 rfl mv_yX6_need mi_yX6_need ml_X6_197 (CX6_need_34 59 u4 gu6) rfl (by decide) (Nat.le_of_ble_eq_true rfl) (Nat.le_refl _) (Nat.le_refl _) dX6_orderLine_59 ?_
  refine w_aload_n 1 62 hX rfl rfl dX6_orderLine_62 ?_
  refine w_getI (j := 13) 63 hX CI_6 s_34 rfl fl_X6_57 rfl dX6_orderLine_63 ?_
  refine w_if_ne (tgt := 79) 66 hX dX6_orderLine_66 (by decide) (fun c7 => ?_) (fun c7 => ?_)
  · have h := ie h c7
    exact w_sub [1] rfl (bX6_orderLine_34_79 hX hR u6 h)
  · have h := it h c7
    refine w_aload_n 1 69 hX rfl rfl dX6_orderLine_69 ?_
    refine w_getR 70 hX CI_6 s_34 rfl r_34_5 fl_X6_34 rfl dX6_orderLine_70 ?_
    refine w_iload_n 2 73 hX rfl rfl dX6_orderLine_73 ?_
    refine w_iload_n 3 74 hX rfl rfl dX6_orderLine_74 ?_
    refine w_iload_n 0 75 hX rfl rfl dX6_orderLine_75 ?_
    obtain ⟨u9, gu9, h⟩ := o_bind h
    refine w_invVv (av := [.int l1, .int l2, .int x3]) (st := []) 76 hX CI_5 s_46 rfl mv_yX5_add mi_yX5_add ml_X6_231 (CX5_add_46 l1 l2 x3 u6 gu9) rfl (by decide) (Nat.le_of_ble_eq_true rfl) (Nat.le_refl _) (Nat.le_refl _) dX6_orderLine_76 ?_
    exact w_sub [1] rfl (bX6_orderLine_34_79 hX hR u9 h)
def FX6_orderLine_34_b31 (l1 t0 : Int32) (u : Mem) : Option Mem :=
  (if t0 = 0 then (FX6_orderLine_34_b46 l1 t0 258 u) else (FX6_orderLine_34_b46 l1 t0 257 u))
theorem bX6_orderLine_34_31 {G : Gt} {X : Xt} {u' : Mem} (hX : CxOk G X cX6_orderLine 4 RX6 (none, (SHg G), (RHg G), u') 5) (hR : CxRet G X none (none, (SHg G), (RHg G), u')) (l1 t0 : Int32) (u : Mem) (h : FX6_orderLine_34_b31 l1 t0 u = some u') : WM G X 31 [(0, .ref 34), (1, .int l1)] [.int t0] (SHg G) (RHg G) u := by
  unfold FX6_orderLine_34_b31 at h
  refine w_istore_n (lv' := [(2, .int t0), (0, .ref 34), (1, .int l1)]) 31 hX rfl dX6_orderLine_31 (by decide) rfl ?_
  refine w_aload_n 1 32 hX rfl rfl dX6_orderLine_32 ?_
  refine w_iload_n 0 33 hX rfl rfl dX6_orderLine_33 ?_
  refine w_if_eq (tgt := 43) 34 hX dX6_orderLine_34 (by decide) (fun c1 => ?_) (fun c1 => ?_)
  · have h := it h c1
    refine w_sipush 258 43 hX isp_258 dX6_orderLine_43 ?_
    exact w_sub [1, 2, 0] rfl (bX6_orderLine_34_46 hX hR l1 t0 258 u h)
  · have h := ie h c1
    refine w_sipush 257 37 hX isp_257 dX6_orderLine_37 ?_
    refine w_goto (tgt := 46) 40 hX (by decide) dX6_orderLine_40 ?_
    exact w_sub [1, 2, 0] rfl (bX6_orderLine_34_46 hX hR l1 t0 257 u h)
def FX6_orderLine_34 (u : Mem) : Option Mem :=
  (FX6_beginLine_34 256 u).bind fun u2 => bnd2 (FX6_number_34 999 (-1) u2) fun x3 u4 => (if (u4 34 10) = 257 then (FX6_orderLine_34_b31 x3 1 u4) else (FX6_orderLine_34_b31 x3 0 u4))
theorem CX6_orderLine_34 {G : Gt} (u : Mem) {u' : Mem} (h : FX6_orderLine_34 u = some u') : CT G yX6_orderLine cX6_orderLine 4 none 5 [.ref 34] (SHg G) (RHg G) u (none, (SHg G), (RHg G), u') :=
  ct_of (by decide) rfl (Nat.le_of_ble_eq_true rfl) (Nat.le_refl _) (Nat.le_refl _) (fun X hX hR => by
  unfold FX6_orderLine_34 at h
  refine w_aload_n 0 0 hX rfl rfl dX6_orderLine_0 ?_
  refine w_sipush 256 1 hX isp_256 dX6_orderLine_1 ?_
  obtain ⟨u2, gu2, h⟩ := o_bind h
  refine w_invVv (av := [.int 256]) (st := []) 4 hX CI_6 s_34 rfl mv_yX6_beginLine mi_yX6_beginLine ml_X6_200 (CX6_beginLine_34 256 u gu2) rfl (by decide) (Nat.le_of_ble_eq_true rfl) (Nat.le_refl _) (Nat.le_refl _) dX6_orderLine_4 ?_
  refine w_aload_n 0 7 hX rfl rfl dX6_orderLine_7 ?_
  refine w_sipush 999 8 hX isp_999 dX6_orderLine_8 ?_
  refine w_iconst (-1) 11 hX ic_m1 dX6_orderLine_11 ?_
  obtain ⟨x3, u4, gx3, h⟩ := o_bnd2 h
  refine w_invVi (av := [.int 999, .int (-1)]) (st := []) 12 hX CI_6 s_34 rfl mv_yX6_number mi_yX6_number ml_X6_225 (CX6_number_34 999 (-1) u2 gx3) rfl (by decide) (Nat.le_of_ble_eq_true rfl) (Nat.le_refl _) (Nat.le_refl _) dX6_orderLine_12 ?_
  refine w_istore_n (lv' := [(1, .int x3), (0, .ref 34)]) 15 hX rfl dX6_orderLine_15 (by decide) rfl ?_
  refine w_aload_n 1 16 hX rfl rfl dX6_orderLine_16 ?_
  refine w_getI (j := 10) 17 hX CI_6 s_34 rfl fl_X6_67 rfl dX6_orderLine_17 ?_
  refine w_sipush 257 20 hX isp_257 dX6_orderLine_20 ?_
  refine w_icmp_ne (tgt := 30) 23 hX dX6_orderLine_23 (by decide) (fun c5 => ?_) (fun c5 => ?_)
  · have h := ie h c5
    refine w_iconst 0 30 hX ic_0 dX6_orderLine_30 ?_
    exact w_sub [1, 0] rfl (bX6_orderLine_34_31 hX hR x3 0 u4 h)
  · have h := it h c5
    refine w_iconst 1 26 hX ic_1 dX6_orderLine_26 ?_
    refine w_goto (tgt := 31) 27 hX (by decide) dX6_orderLine_27 ?_
    exact w_sub [1, 0] rfl (bX6_orderLine_34_31 hX hR x3 1 u4 h))
def FX4_become_8_39 (u : Mem) : Option Mem :=
  (some (cpM u 40 9 400)).bind fun u1 => (some (cpM u1 41 10 16)).bind fun u2 => (some (cpM u2 42 11 16)).bind fun u3 => (some (cpM u3 43 12 16)).bind fun u4 => (some (cpM u4 44 13 16)).bind fun u5 => (some (mupd u5 8 6 (u5 39 6))).bind fun u6 => (some (mupd u6 8 7 (u6 39 7))).bind fun u7 => some u7
theorem CX4_become_8_39 {G : Gt} (u : Mem) {u' : Mem} (h : FX4_become_8_39 u = some u') : CT G yX4_become cX4_become 2 none 3 [.ref 8, .ref 39] (SHg G) (RHg G) u (none, (SHg G), (RHg G), u') :=
  ct_of (by decide) rfl (Nat.le_of_ble_eq_true rfl) (Nat.le_refl _) (Nat.le_refl _) (fun X hX hR => by
  unfold FX4_become_8_39 at h
  refine w_aload_n 1 0 hX rfl rfl dX4_become_0 ?_
  refine w_getR 1 hX CI_4 s_39 rfl r_39_0 fl_X4_9 rfl dX4_become_1 ?_
  refine w_aload_n 0 4 hX rfl rfl dX4_become_4 ?_
  refine w_getR 5 hX CI_4 s_8 rfl r_8_0 fl_X4_9 rfl dX4_become_5 ?_
  obtain ⟨u1, gu1, h⟩ := o_bind h
  refine w_invSNv (av := [.ref 40, .ref 9]) (st := []) 8 hX ms_yX11_copy mi_yX11_copy ml_X4_30 (C_copy s_40 s_9 (by decide) (by decide) (by decide) gu1) rfl (by decide) (Nat.le_of_ble_eq_true rfl) (Nat.le_refl _) (Nat.le_refl _) dX4_become_8 ?_
  refine w_aload_n 1 11 hX rfl rfl dX4_become_11 ?_
  refine w_getR 12 hX CI_4 s_39 rfl r_39_1 fl_X4_15 rfl dX4_become_12 ?_
  refine w_aload_n 0 15 hX rfl rfl dX4_become_15 ?_
  refine w_getR 16 hX CI_4 s_8 rfl r_8_1 fl_X4_15 rfl dX4_become_16 ?_
  obtain ⟨u2, gu2, h⟩ := o_bind h
  refine w_invSNv (av := [.ref 41, .ref 10]) (st := []) 19 hX ms_yX11_copy mi_yX11_copy ml_X4_30 (C_copy s_41 s_10 (by decide) (by decide) (by decide) gu2) rfl (by decide) (Nat.le_of_ble_eq_true rfl) (Nat.le_refl _) (Nat.le_refl _) dX4_become_19 ?_
  refine w_aload_n 1 22 hX rfl rfl dX4_become_22 ?_
  refine w_getR 23 hX CI_4 s_39 rfl r_39_2 fl_X4_18 rfl dX4_become_23 ?_
  refine w_aload_n 0 26 hX rfl rfl dX4_become_26 ?_
  refine w_getR 27 hX CI_4 s_8 rfl r_8_2 fl_X4_18 rfl dX4_become_27 ?_
  obtain ⟨u3, gu3, h⟩ := o_bind h
  refine w_invSNv (av := [.ref 42, .ref 11]) (st := []) 30 hX ms_yX11_copy mi_yX11_copy ml_X4_30 (C_copy s_42 s_11 (by decide) (by decide) (by decide) gu3) rfl (by decide) (Nat.le_of_ble_eq_true rfl) (Nat.le_refl _) (Nat.le_refl _) dX4_become_30 ?_
  refine w_aload_n 1 33 hX rfl rfl dX4_become_33 ?_
  refine w_getR 34 hX CI_4 s_39 rfl r_39_3 fl_X4_21 rfl dX4_become_34 ?_
  refine w_aload_n 0 37 hX rfl rfl dX4_become_37 ?_
  refine w_getR 38 hX CI_4 s_8 rfl r_8_3 fl_X4_21 rfl dX4_become_38 ?_
  obtain ⟨u4, gu4, h⟩ := o_bind h
  refine w_invSNv (av := [.ref 43, .ref 12]) (st := []) 41 hX ms_yX11_copy mi_yX11_copy ml_X4_30 (C_copy s_43 s_12 (by decide) (by decide) (by decide) gu4) rfl (by decide) (Nat.le_of_ble_eq_true rfl) (Nat.le_refl _) (Nat.le_refl _) dX4_become_41 ?_
  refine w_aload_n 1 44 hX rfl rfl dX4_become_44 ?_
  refine w_getR 45 hX CI_4 s_39 rfl r_39_4 fl_X4_24 rfl dX4_become_45 ?_
  refine w_aload_n 0 48 hX rfl rfl dX4_become_48 ?_
  refine w_getR 49 hX CI_4 s_8 rfl r_8_4 fl_X4_24 rfl dX4_become_49 ?_
  obtain ⟨u5, gu5, h⟩ := o_bind h
  refine w_invSNv (av := [.ref 44, .ref 13]) (st := []) 52 hX ms_yX11_copy mi_yX11_copy ml_X4_30 (C_copy s_44 s_13 (by decide) (by decide) (by decide) gu5) rfl (by decide) (Nat.le_of_ble_eq_true rfl) (Nat.le_refl _) (Nat.le_refl _) dX4_become_52 ?_
  refine w_aload_n 0 55 hX rfl rfl dX4_become_55 ?_
  refine w_aload_n 1 56 hX rfl rfl dX4_become_56 ?_
  refine w_getI (j := 6) 57 hX CI_4 s_39 rfl fl_X4_34 rfl dX4_become_57 ?_
  obtain ⟨u6, gu6, h⟩ := o_bind h
  refine w_putI (j := 6) 60 hX CI_4 s_8 rfl fl_X4_34 rfl rfl rfl rfl dX4_become_60 ?_
  rw [Option.some.inj gu6]
  refine w_aload_n 0 63 hX rfl rfl dX4_become_63 ?_
  refine w_aload_n 1 64 hX rfl rfl dX4_become_64 ?_
  refine w_getI (j := 7) 65 hX CI_4 s_39 rfl fl_X4_38 rfl dX4_become_65 ?_
  obtain ⟨u7, gu7, h⟩ := o_bind h
  refine w_putI (j := 7) 68 hX CI_4 s_8 rfl fl_X4_38 rfl rfl rfl rfl dX4_become_68 ?_
  rw [Option.some.inj gu7]
  exact w_vret 71 hX hR dX4_become_71 (by cases h; rfl))
def FX5_become_15_46 (u : Mem) : Option Mem :=
  (some (cpM u 47 16 16)).bind fun u1 => (some (cpM u1 48 17 16)).bind fun u2 => (some (cpM u2 49 18 16)).bind fun u3 => (some (mupd u3 15 3 (u3 46 3))).bind fun u4 => some u4
theorem CX5_become_15_46 {G : Gt} (u : Mem) {u' : Mem} (h : FX5_become_15_46 u = some u') : CT G yX5_become cX5_become 2 none 3 [.ref 15, .ref 46] (SHg G) (RHg G) u (none, (SHg G), (RHg G), u') :=
  ct_of (by decide) rfl (Nat.le_of_ble_eq_true rfl) (Nat.le_refl _) (Nat.le_refl _) (fun X hX hR => by
  unfold FX5_become_15_46 at h
  refine w_aload_n 1 0 hX rfl rfl dX5_become_0 ?_
  refine w_getR 1 hX CI_5 s_46 rfl r_46_0 fl_X5_9 rfl dX5_become_1 ?_
  refine w_aload_n 0 4 hX rfl rfl dX5_become_4 ?_
  refine w_getR 5 hX CI_5 s_15 rfl r_15_0 fl_X5_9 rfl dX5_become_5 ?_
  obtain ⟨u1, gu1, h⟩ := o_bind h
  refine w_invSNv (av := [.ref 47, .ref 16]) (st := []) 8 hX ms_yX11_copy mi_yX11_copy ml_X5_21 (C_copy s_47 s_16 (by decide) (by decide) (by decide) gu1) rfl (by decide) (Nat.le_of_ble_eq_true rfl) (Nat.le_refl _) (Nat.le_refl _) dX5_become_8 ?_
  refine w_aload_n 1 11 hX rfl rfl dX5_become_11 ?_
  refine w_getR 12 hX CI_5 s_46 rfl r_46_1 fl_X5_15 rfl dX5_become_12 ?_
  refine w_aload_n 0 15 hX rfl rfl dX5_become_15 ?_
  refine w_getR 16 hX CI_5 s_15 rfl r_15_1 fl_X5_15 rfl dX5_become_16 ?_
  obtain ⟨u2, gu2, h⟩ := o_bind h
  refine w_invSNv (av := [.ref 48, .ref 17]) (st := []) 19 hX ms_yX11_copy mi_yX11_copy ml_X5_21 (C_copy s_48 s_17 (by decide) (by decide) (by decide) gu2) rfl (by decide) (Nat.le_of_ble_eq_true rfl) (Nat.le_refl _) (Nat.le_refl _) dX5_become_19 ?_
  refine w_aload_n 1 22 hX rfl rfl dX5_become_22 ?_
  refine w_getR 23 hX CI_5 s_46 rfl r_46_2 fl_X5_18 rfl dX5_become_23 ?_
  refine w_aload_n 0 26 hX rfl rfl dX5_become_26 ?_
  refine w_getR 27 hX CI_5 s_15 rfl r_15_2 fl_X5_18 rfl dX5_become_27 ?_
  obtain ⟨u3, gu3, h⟩ := o_bind h
  refine w_invSNv (av := [.ref 49, .ref 18]) (st := []) 30 hX ms_yX11_copy mi_yX11_copy ml_X5_21 (C_copy s_49 s_18 (by decide) (by decide) (by decide) gu3) rfl (by decide) (Nat.le_of_ble_eq_true rfl) (Nat.le_refl _) (Nat.le_refl _) dX5_become_30 ?_
  refine w_aload_n 0 33 hX rfl rfl dX5_become_33 ?_
  refine w_aload_n 1 34 hX rfl rfl dX5_become_34 ?_
  refine w_getI (j := 3) 35 hX CI_5 s_46 rfl fl_X5_25 rfl dX5_become_35 ?_
  obtain ⟨u4, gu4, h⟩ := o_bind h
  refine w_putI (j := 3) 38 hX CI_5 s_15 rfl fl_X5_25 rfl rfl rfl rfl dX5_become_38 ?_
  rw [Option.some.inj gu4]
  exact w_vret 41 hX hR dX5_become_41 (by cases h; rfl))
def FX6_hand_34_1 (p1 : Int32) (u : Mem) : Option Mem :=
  (if p1 = 0 then ((FX4_become_8_39 u).bind fun u3 => some u3) else ((if p1 = 1 then ((some (cpM u 50 5 12)).bind fun u5 => (some (mupd u5 1 11 (u5 34 11))).bind fun u6 => some u6) else ((if p1 = 2 then ((some (cpM u 51 7 8)).bind fun u8 => (some (mupd u8 1 12 (u8 34 11))).bind fun u9 => some u9) else ((FX5_become_15_46 u).bind fun u11 => some u11))))))
theorem CX6_hand_34_1 {G : Gt} (p1 : Int32) (u : Mem) {u' : Mem} (h : FX6_hand_34_1 p1 u = some u') : CT G yX6_hand cX6_hand 3 none 4 [.ref 34, .int p1, .ref 1] (SHg G) (RHg G) u (none, (SHg G), (RHg G), u') :=
  ct_of (by decide) rfl (Nat.le_of_ble_eq_true rfl) (Nat.le_refl _) (Nat.le_refl _) (fun X hX hR => by
  unfold FX6_hand_34_1 at h
  refine w_iload_n 1 0 hX rfl rfl dX6_hand_0 ?_
  by_cases c1 : p1 = 0
  · have h := it h c1
    refine w_tabIn (tgt := 28) (off := 27) 1 hX dX6_hand_1 (by rw [c1]; decide) (by rw [c1]; decide) (by rw [c1]; decide) (by decide) ?_
    refine w_aload_n 2 28 hX rfl rfl dX6_hand_28 ?_
    refine w_getR 29 hX CI_9 s_1 rfl r_1_13 fl_X6_106 rfl dX6_hand_29 ?_
    refine w_aload_n 0 32 hX rfl rfl dX6_hand_32 ?_
    refine w_getR 33 hX CI_6 s_34 rfl r_34_4 fl_X6_27 rfl dX6_hand_33 ?_
    obtain ⟨u3, gu3, h⟩ := o_bind h
    refine w_invVv (av := [.ref 39]) (st := []) 36 hX CI_4 s_8 rfl mv_yX4_become mi_yX4_become ml_X6_107 (CX4_become_8_39 u gu3) rfl (by decide) (Nat.le_of_ble_eq_true rfl) (Nat.le_refl _) (Nat.le_refl _) dX6_hand_36 ?_
    refine w_goto (tgt := 97) 39 hX (by decide) dX6_hand_39 ?_
    exact w_vret 97 hX hR dX6_hand_97 (by cases h; rfl)
  · have h := ie h c1
    by_cases c4 : p1 = 1
    · have h := it h c4
      refine w_tabIn (tgt := 42) (off := 41) 1 hX dX6_hand_1 (by rw [c4]; decide) (by rw [c4]; decide) (by rw [c4]; decide) (by decide) ?_
      refine w_aload_n 0 42 hX rfl rfl dX6_hand_42 ?_
      refine w_getR 43 hX CI_6 s_34 rfl r_34_6 fl_X6_38 rfl dX6_hand_43 ?_
      refine w_aload_n 2 46 hX rfl rfl dX6_hand_46 ?_
      refine w_getR 47 hX CI_9 s_1 rfl r_1_4 fl_X6_111 rfl dX6_hand_47 ?_
      obtain ⟨u5, gu5, h⟩ := o_bind h
      refine w_invSNv (av := [.ref 50, .ref 5]) (st := []) 50 hX ms_yX11_copy mi_yX11_copy ml_X6_112 (C_copy s_50 s_5 (by decide) (by decide) (by decide) gu5) rfl (by decide) (Nat.le_of_ble_eq_true rfl) (Nat.le_refl _) (Nat.le_refl _) dX6_hand_50 ?_
      refine w_aload_n 2 53 hX rfl rfl dX6_hand_53 ?_
      refine w_aload_n 0 54 hX rfl rfl dX6_hand_54 ?_
      refine w_getI (j := 11) 55 hX CI_6 s_34 rfl fl_X6_92 rfl dX6_hand_55 ?_
      obtain ⟨u6, gu6, h⟩ := o_bind h
      refine w_putI (j := 11) 58 hX CI_9 s_1 rfl fl_X6_116 rfl rfl rfl rfl dX6_hand_58 ?_
      rw [Option.some.inj gu6]
      refine w_goto (tgt := 97) 61 hX (by decide) dX6_hand_61 ?_
      exact w_vret 97 hX hR dX6_hand_97 (by cases h; rfl)
    · have h := ie h c4
      by_cases c7 : p1 = 2
      · have h := it h c7
        refine w_tabIn (tgt := 64) (off := 63) 1 hX dX6_hand_1 (by rw [c7]; decide) (by rw [c7]; decide) (by rw [c7]; decide) (by decide) ?_
        refine w_aload_n 0 64 hX rfl rfl dX6_hand_64 ?_
        refine w_getR 65 hX CI_6 s_34 rfl r_34_7 fl_X6_41 rfl dX6_hand_65 ?_
        refine w_aload_n 2 68 hX rfl rfl dX6_hand_68 ?_
        refine w_getR 69 hX CI_9 s_1 rfl r_1_6 fl_X6_119 rfl dX6_hand_69 ?_
        obtain ⟨u8, gu8, h⟩ := o_bind h
        refine w_invSNv (av := [.ref 51, .ref 7]) (st := []) 72 hX ms_yX11_copy mi_yX11_copy ml_X6_112 (C_copy s_51 s_7 (by decide) (by decide) (by decide) gu8) rfl (by decide) (Nat.le_of_ble_eq_true rfl) (Nat.le_refl _) (Nat.le_refl _) dX6_hand_72 ?_
        refine w_aload_n 2 75 hX rfl rfl dX6_hand_75 ?_
        refine w_aload_n 0 76 hX rfl rfl dX6_hand_76 ?_
        refine w_getI (j := 11) 77 hX CI_6 s_34 rfl fl_X6_92 rfl dX6_hand_77 ?_
        obtain ⟨u9, gu9, h⟩ := o_bind h
        refine w_putI (j := 12) 80 hX CI_9 s_1 rfl fl_X6_120 rfl rfl rfl rfl dX6_hand_80 ?_
        rw [Option.some.inj gu9]
        refine w_goto (tgt := 97) 83 hX (by decide) dX6_hand_83 ?_
        exact w_vret 97 hX hR dX6_hand_97 (by cases h; rfl)
      · have h := ie h c7
        have zc1 := lv_neT c1 (a := 0) (by decide)
        have zc4 := lv_neT c4 (a := 1) (by decide)
        have zc7 := lv_neT c7 (a := 2) (by decide)
        refine w_tabOut (tgt := 86) 1 hX dX6_hand_1 (by omega) (by decide) ?_
        refine w_aload_n 2 86 hX rfl rfl dX6_hand_86 ?_
        refine w_getR 87 hX CI_9 s_1 rfl r_1_14 fl_X6_123 rfl dX6_hand_87 ?_
        refine w_aload_n 0 90 hX rfl rfl dX6_hand_90 ?_
        refine w_getR 91 hX CI_6 s_34 rfl r_34_5 fl_X6_34 rfl dX6_hand_91 ?_
        obtain ⟨u11, gu11, h⟩ := o_bind h
        refine w_invVv (av := [.ref 46]) (st := []) 94 hX CI_5 s_15 rfl mv_yX5_become mi_yX5_become ml_X6_124 (CX5_become_15_46 u gu11) rfl (by decide) (Nat.le_of_ble_eq_true rfl) (Nat.le_refl _) (Nat.le_refl _) dX6_hand_94 ?_
        exact w_vret 97 hX hR dX6_hand_97 (by cases h; rfl))
def FX6_read_34_1_b127 (l1 : Int32) (u : Mem) : Option (Int32 × Mem) :=
  (if (u 34 13) = 0 then ((FX6_hand_34_1 l1 u).bind fun u3 => some (u3 34 11, u3)) else (some ((-1), u)))
theorem bX6_read_34_1_127 {G : Gt} {X : Xt} {v : Int32} {u' : Mem} (hX : CxOk G X cX6_read 5 RX6 (some (.int v), (SHg G), (RHg G), u') 92) (hR : CxRet G X (some .int) (some (.int v), (SHg G), (RHg G), u')) (l1 : Int32) (u : Mem) (h : FX6_read_34_1_b127 l1 u = some (v, u')) : WM G X 127 [(0, .ref 34), (1, .int l1), (2, .ref 1)] [] (SHg G) (RHg G) u := by
  unfold FX6_read_34_1_b127 at h
  refine w_aload_n 0 127 hX rfl rfl dX6_read_127 ?_
  refine w_getI (j := 13) 128 hX CI_6 s_34 rfl fl_X6_57 rfl dX6_read_128 ?_
  refine w_if_eq (tgt := 136) 131 hX dX6_read_131 (by decide) (fun c1 => ?_) (fun c1 => ?_)
  · have h := it h c1
    refine w_aload_n 0 136 hX rfl rfl dX6_read_136 ?_
    refine w_iload_n 1 137 hX rfl rfl dX6_read_137 ?_
    refine w_aload_n 2 138 hX rfl rfl dX6_read_138 ?_
    obtain ⟨u3, gu3, h⟩ := o_bind h
    refine w_invVv (av := [.int l1, .ref 1]) (st := []) 139 hX CI_6 s_34 rfl mv_yX6_hand mi_yX6_hand ml_X6_88 (CX6_hand_34_1 l1 u gu3) rfl (by decide) (Nat.le_of_ble_eq_true rfl) (Nat.le_refl _) (Nat.le_refl _) dX6_read_139 ?_
    refine w_aload_n 0 142 hX rfl rfl dX6_read_142 ?_
    refine w_getI (j := 11) 143 hX CI_6 s_34 rfl fl_X6_92 rfl dX6_read_143 ?_
    exact w_iret 146 hX hR dX6_read_146 (by cases h; rfl)
  · have h := ie h c1
    refine w_iconst (-1) 134 hX ic_m1 dX6_read_134 ?_
    exact w_iret 135 hX hR dX6_read_135 (by cases h; rfl)
def FX6_read_34_1_b121 (k50 : Int32 → Int32 → Mem → Option (Int32 × Mem)) (l1 l4 : Int32) (u : Mem) : Option (Int32 × Mem) :=
  k50 l1 (l4 + 1) u
theorem bX6_read_34_1_121 {G : Gt} {X : Xt} {v : Int32} {u' : Mem} (hX : CxOk G X cX6_read 5 RX6 (some (.int v), (SHg G), (RHg G), u') 92) (hR : CxRet G X (some .int) (some (.int v), (SHg G), (RHg G), u')) {k50 : Int32 → Int32 → Mem → Option (Int32 × Mem)} (hk50 : ∀ (l1 l4 : Int32) (u : Mem), k50 l1 l4 u = some (v, u') → WM G X 50 [(0, .ref 34), (1, .int l1), (2, .ref 1), (4, .int l4)] [] (SHg G) (RHg G) u) (l1 l4 : Int32) (u : Mem) (h : FX6_read_34_1_b121 k50 l1 l4 u = some (v, u')) : WM G X 121 [(0, .ref 34), (1, .int l1), (2, .ref 1), (4, .int l4)] [] (SHg G) (RHg G) u := by
  unfold FX6_read_34_1_b121 at h
  refine w_iinc (lv' := [(4, .int (l4 + 1)), (0, .ref 34), (1, .int l1), (2, .ref 1)]) 121 3 hX dX6_read_121 rfl (inc_1 _) (by decide) rfl ?_
  refine w_goto (tgt := 50) 124 hX (by decide) dX6_read_124 ?_
  exact w_sub [1, 2, 3, 0] rfl (hk50 l1 (l4 + 1) u h)
def FX6_read_34_1_b50 (k50 : Int32 → Int32 → Mem → Option (Int32 × Mem)) (l1 l4 : Int32) (u : Mem) : Option (Int32 × Mem) :=
  (if 400 < l4 then (FX6_read_34_1_b127 l1 u) else ((if (u 34 10) = 0 then (FX6_read_34_1_b127 l1 u) else ((if l1 = 0 then ((FX6_lawLine_34 u).bind fun u5 => FX6_read_34_1_b121 k50 l1 l4 u5) else ((if l1 = 1 then ((FX6_tellingLine_34 (u 1 0) u).bind fun u8 => FX6_read_34_1_b121 k50 l1 l4 u8) else ((if l1 = 2 then ((FX6_weightLine_34 u).bind fun u11 => FX6_read_34_1_b121 k50 l1 l4 u11) else ((FX6_orderLine_34 u).bind fun u13 => FX6_read_34_1_b121 k50 l1 l4 u13))))))))))
theorem bX6_read_34_1_50 {G : Gt} {X : Xt} {v : Int32} {u' : Mem} (hX : CxOk G X cX6_read 5 RX6 (some (.int v), (SHg G), (RHg G), u') 92) (hR : CxRet G X (some .int) (some (.int v), (SHg G), (RHg G), u')) {k50 : Int32 → Int32 → Mem → Option (Int32 × Mem)} (hk50 : ∀ (l1 l4 : Int32) (u : Mem), k50 l1 l4 u = some (v, u') → WM G X 50 [(0, .ref 34), (1, .int l1), (2, .ref 1), (4, .int l4)] [] (SHg G) (RHg G) u) (l1 l4 : Int32) (u : Mem) (h : FX6_read_34_1_b50 k50 l1 l4 u = some (v, u')) : WM G X 50 [(0, .ref 34), (1, .int l1), (2, .ref 1), (4, .int l4)] [] (SHg G) (RHg G) u := by
  unfold FX6_read_34_1_b50 at h
  refine w_iload 3 50 hX rfl dX6_read_50 ?_
  refine w_sipush 400 52 hX isp_400 dX6_read_52 ?_
  refine w_icmp_gt (tgt := 127) 55 hX dX6_read_55 (by decide) (fun c1 => ?_) (fun c1 => ?_)
  · have h := it h c1
    exact w_sub [0, 1, 2] rfl (bX6_read_34_1_127 hX hR l1 u h)
  · have h := ie h c1
    refine w_aload_n 0 58 hX rfl rfl dX6_read_58 ?_
    refine w_getI (j := 10) 59 hX CI_6 s_34 rfl fl_X6_67 rfl dX6_read_59 ?_
    refine w_if_eq (tgt := 127) 62 hX dX6_read_62 (by decide) (fun c2 => ?_) (fun c2 => ?_)
    · have h := it h c2
      exact w_sub [0, 1, 2] rfl (bX6_read_34_1_127 hX hR l1 u h)
    · have h := ie h c2
      refine w_iload_n 1 65 hX rfl rfl dX6_read_65 ?_
      by_cases c3 : l1 = 0
      · have h := it h c3
        refine w_tabIn (tgt := 92) (off := 26) 66 hX dX6_read_66 (by rw [c3]; decide) (by rw [c3]; decide) (by rw [c3]; decide) (by decide) ?_
        refine w_aload_n 0 92 hX rfl rfl dX6_read_92 ?_
        obtain ⟨u5, gu5, h⟩ := o_bind h
        refine w_invVv (av := []) (st := []) 93 hX CI_6 s_34 rfl mv_yX6_lawLine mi_yX6_lawLine ml_X6_70 (CX6_lawLine_34 u gu5) rfl (by decide) (Nat.le_of_ble_eq_true rfl) (Nat.le_refl _) (Nat.le_refl _) dX6_read_93 ?_
        refine w_goto (tgt := 121) 96 hX (by decide) dX6_read_96 ?_
        exact bX6_read_34_1_121 hX hR hk50 l1 l4 u5 h
      · have h := ie h c3
        by_cases c6 : l1 = 1
        · have h := it h c6
          refine w_tabIn (tgt := 99) (off := 33) 66 hX dX6_read_66 (by rw [c6]; decide) (by rw [c6]; decide) (by rw [c6]; decide) (by decide) ?_
          refine w_aload_n 0 99 hX rfl rfl dX6_read_99 ?_
          refine w_aload_n 2 100 hX rfl rfl dX6_read_100 ?_
          refine w_getI (j := 0) 101 hX CI_9 s_1 rfl fl_X6_73 rfl dX6_read_101 ?_
          obtain ⟨u8, gu8, h⟩ := o_bind h
          refine w_invVv (av := [.int (u 1 0)]) (st := []) 104 hX CI_6 s_34 rfl mv_yX6_tellingLine mi_yX6_tellingLine ml_X6_78 (CX6_tellingLine_34 (u 1 0) u gu8) rfl (by decide) (Nat.le_of_ble_eq_true rfl) (Nat.le_refl _) (Nat.le_refl _) dX6_read_104 ?_
          refine w_goto (tgt := 121) 107 hX (by decide) dX6_read_107 ?_
          exact bX6_read_34_1_121 hX hR hk50 l1 l4 u8 h
        · have h := ie h c6
          by_cases c9 : l1 = 2
          · have h := it h c9
            refine w_tabIn (tgt := 110) (off := 44) 66 hX dX6_read_66 (by rw [c9]; decide) (by rw [c9]; decide) (by rw [c9]; decide) (by decide) ?_
            refine w_aload_n 0 110 hX rfl rfl dX6_read_110 ?_
            obtain ⟨u11, gu11, h⟩ := o_bind h
            refine w_invVv (av := []) (st := []) 111 hX CI_6 s_34 rfl mv_yX6_weightLine mi_yX6_weightLine ml_X6_82 (CX6_weightLine_34 u gu11) rfl (by decide) (Nat.le_of_ble_eq_true rfl) (Nat.le_refl _) (Nat.le_refl _) dX6_read_111 ?_
            refine w_goto (tgt := 121) 114 hX (by decide) dX6_read_114 ?_
            exact bX6_read_34_1_121 hX hR hk50 l1 l4 u11 h
          · have h := ie h c9
            have zc3 := lv_neT c3 (a := 0) (by decide)
            have zc6 := lv_neT c6 (a := 1) (by decide)
            have zc9 := lv_neT c9 (a := 2) (by decide)
            refine w_tabOut (tgt := 117) 66 hX dX6_read_66 (by omega) (by decide) ?_
            refine w_aload_n 0 117 hX rfl rfl dX6_read_117 ?_
            obtain ⟨u13, gu13, h⟩ := o_bind h
            refine w_invVv (av := []) (st := []) 118 hX CI_6 s_34 rfl mv_yX6_orderLine mi_yX6_orderLine ml_X6_85 (CX6_orderLine_34 u gu13) rfl (by decide) (Nat.le_of_ble_eq_true rfl) (Nat.le_refl _) (Nat.le_refl _) dX6_read_118 ?_
            exact bX6_read_34_1_121 hX hR hk50 l1 l4 u13 h
def FX6_read_34_1_L50 : Nat → Int32 → Int32 → Mem → Option (Int32 × Mem)
  | 0, _, _, _ => none
  | n + 1, l1, l4, u => FX6_read_34_1_b50 (FX6_read_34_1_L50 n) l1 l4 u
theorem lX6_read_34_1_50 {G : Gt} {X : Xt} {v : Int32} {u' : Mem} (hX : CxOk G X cX6_read 5 RX6 (some (.int v), (SHg G), (RHg G), u') 92) (hR : CxRet G X (some .int) (some (.int v), (SHg G), (RHg G), u')) : ∀ (n : Nat) (l1 l4 : Int32) (u : Mem), FX6_read_34_1_L50 n l1 l4 u = some (v, u') → WM G X 50 [(0, .ref 34), (1, .int l1), (2, .ref 1), (4, .int l4)] [] (SHg G) (RHg G) u := by
  intro n
  induction n with
  | zero =>
    intro l1 l4 u h
    exact nn_ h
  | succ n ih =>
    intro l1 l4 u h
    exact bX6_read_34_1_50 hX hR ih l1 l4 u h
def FX6_read_34_1 (p1 : Int32) (u : Mem) : Option (Int32 × Mem) :=
  (some (mupd u 34 12 0)).bind fun u1 => (some (mupd u1 34 13 0)).bind fun u2 => (some (mupd u2 34 14 (-1))).bind fun u3 => (if p1 < 0 then (some ((-1), u3)) else ((if p1 ≤ 3 then ((FX6_cut_34 (if 400 < (u 34 12) then 400 else (u 34 12)) p1 u3).bind fun u7 => (FX6_clear_34 u7).bind fun u9 => FX6_read_34_1_L50 FU p1 0 u9) else (some ((-1), u3)))))
theorem CX6_read_34_1 {G : Gt} (p1 : Int32) (u : Mem) {v : Int32} {u' : Mem} (h : FX6_read_34_1 p1 u = some (v, u')) : CT G yX6_read cX6_read 5 (some .int) 92 [.ref 34, .int p1, .ref 1] (SHg G) (RHg G) u (some (.int v), (SHg G), (RHg G), u') :=
  ct_of (by decide) rfl (Nat.le_of_ble_eq_true rfl) (Nat.le_refl _) (Nat.le_refl _) (fun X hX hR => by
  unfold FX6_read_34_1 at h
  refine w_aload_n 0 0 hX rfl rfl dX6_read_0 ?_
  refine w_getI (j := 12) 1 hX CI_6 s_34 rfl fl_X6_48 rfl dX6_read_1 ?_
  refine w_sipush 400 4 hX isp_400 dX6_read_4 ?_
  refine w_min 7 hX ml_X6_51 jm_min_s jm_i jm_min_c (by decide) (Nat.le_of_ble_eq_true rfl) (Nat.le_refl _) (Nat.le_refl _) dX6_read_7 ?_
  refine w_istore_n (lv' := [(3, .int (if 400 < (u 34 12) then 400 else (u 34 12))), (0, .ref 34), (1, .int p1), (2, .ref 1)]) 10 hX rfl dX6_read_10 (by decide) rfl ?_
  refine w_aload_n 1 11 hX rfl rfl dX6_read_11 ?_
  refine w_iconst 0 12 hX ic_0 dX6_read_12 ?_
  obtain ⟨u1, gu1, h⟩ := o_bind h
  refine w_putI (j := 12) 13 hX CI_6 s_34 rfl fl_X6_48 rfl rfl rfl rfl dX6_read_13 ?_
  rw [Option.some.inj gu1]
  refine w_aload_n 1 16 hX rfl rfl dX6_read_16 ?_
  refine w_iconst 0 17 hX ic_0 dX6_read_17 ?_
  obtain ⟨u2, gu2, h⟩ := o_bind h
  refine w_putI (j := 13) 18 hX CI_6 s_34 rfl fl_X6_57 rfl rfl rfl rfl dX6_read_18 ?_
  rw [Option.some.inj gu2]
  refine w_aload_n 1 21 hX rfl rfl dX6_read_21 ?_
  refine w_iconst (-1) 22 hX ic_m1 dX6_read_22 ?_
  obtain ⟨u3, gu3, h⟩ := o_bind h
  refine w_putI (j := 14) 23 hX CI_6 s_34 rfl fl_X6_44 rfl rfl rfl rfl dX6_read_23 ?_
  rw [Option.some.inj gu3]
  refine w_iload_n 2 26 hX rfl rfl dX6_read_26 ?_
  refine w_if_lt (tgt := 35) 27 hX dX6_read_27 (by decide) (fun c4 => ?_) (fun c4 => ?_)
  · have h := it h c4
    refine w_iconst (-1) 35 hX ic_m1 dX6_read_35 ?_
    exact w_iret 36 hX hR dX6_read_36 (by cases h; rfl)
  · have h := ie h c4
    refine w_iload_n 2 30 hX rfl rfl dX6_read_30 ?_
    refine w_iconst 3 31 hX ic_3 dX6_read_31 ?_
    refine w_icmp_le (tgt := 37) 32 hX dX6_read_32 (by decide) (fun c5 => ?_) (fun c5 => ?_)
    · have h := it h c5
      refine w_aload_n 1 37 hX rfl rfl dX6_read_37 ?_
      refine w_iload_n 0 38 hX rfl rfl dX6_read_38 ?_
      refine w_iload_n 2 39 hX rfl rfl dX6_read_39 ?_
      obtain ⟨u7, gu7, h⟩ := o_bind h
      refine w_invVv (av := [.int (if 400 < (u 34 12) then 400 else (u 34 12)), .int p1]) (st := []) 40 hX CI_6 s_34 rfl mv_yX6_cut mi_yX6_cut ml_X6_60 (CX6_cut_34 (if 400 < (u 34 12) then 400 else (u 34 12)) p1 u3 gu7) rfl (by decide) (Nat.le_of_ble_eq_true rfl) (Nat.le_refl _) (Nat.le_refl _) dX6_read_40 ?_
      refine w_aload_n 1 43 hX rfl rfl dX6_read_43 ?_
      obtain ⟨u9, gu9, h⟩ := o_bind h
      refine w_invVv (av := []) (st := []) 44 hX CI_6 s_34 rfl mv_yX6_clear mi_yX6_clear ml_X6_64 (CX6_clear_34 u7 gu9) rfl (by decide) (Nat.le_of_ble_eq_true rfl) (Nat.le_refl _) (Nat.le_refl _) dX6_read_44 ?_
      refine w_iconst 0 47 hX ic_0 dX6_read_47 ?_
      refine w_istore (lv' := [(4, .int 0), (3, .int (if 400 < (u 34 12) then 400 else (u 34 12))), (0, .ref 34), (1, .int p1), (2, .ref 1)]) 48 hX dX6_read_48 (by decide) rfl ?_
      exact w_sub [2, 3, 4, 0] rfl (lX6_read_34_1_50 hX hR FU p1 0 u9 h)
    · have h := ie h c5
      refine w_iconst (-1) 35 hX ic_m1 dX6_read_35 ?_
      exact w_iret 36 hX hR dX6_read_36 (by cases h; rfl))
def FX11_text_0_b35 (l2 : Int32) (u : Mem) : Option (Int32 × Mem) :=
  some (l2, u)
theorem bX11_text_0_35 {G : Gt} {X : Xt} {v : Int32} {u' : Mem} (hX : CxOk G X cX11_text 3 RX11 (some (.int v), (SHg G), (RHg G), u') 93) (hR : CxRet G X (some .int) (some (.int v), (SHg G), (RHg G), u')) (l2 : Int32) (u : Mem) (h : FX11_text_0_b35 l2 u = some (v, u')) : WM G X 35 [(2, .int l2)] [] (SHg G) (RHg G) u := by
  unfold FX11_text_0_b35 at h
  refine w_iload_n 0 35 hX rfl rfl dX11_text_35 ?_
  exact w_iret 36 hX hR dX11_text_36 (by cases h; rfl)
def FX11_text_0_b28 (l2 : Int32) (u : Mem) : Option (Int32 × Mem) :=
  (FX10_forgetAll_52 u).bind fun u2 => FX11_text_0_b35 l2 u2
theorem bX11_text_0_28 {G : Gt} {X : Xt} {v : Int32} {u' : Mem} (hX : CxOk G X cX11_text 3 RX11 (some (.int v), (SHg G), (RHg G), u') 93) (hR : CxRet G X (some .int) (some (.int v), (SHg G), (RHg G), u')) (l2 : Int32) (u : Mem) (h : FX11_text_0_b28 l2 u = some (v, u')) : WM G X 28 [(0, .ref 0), (2, .int l2)] [] (SHg G) (RHg G) u := by
  unfold FX11_text_0_b28 at h
  refine w_aload_n 0 28 hX rfl rfl dX11_text_28 ?_
  refine w_getR 29 hX CI_11 s_0 rfl r_0_5 fl_X11_49 rfl dX11_text_29 ?_
  obtain ⟨u2, gu2, h⟩ := o_bind h
  refine w_invVv (av := []) (st := []) 32 hX CI_10 s_52 rfl mv_yX10_forgetAll mi_yX10_forgetAll ml_X11_88 (CX10_forgetAll_52 u gu2) rfl (by decide) (Nat.le_of_ble_eq_true rfl) (Nat.le_refl _) (Nat.le_refl _) dX11_text_32 ?_
  exact w_sub [1] rfl (bX11_text_0_35 hX hR l2 u2 h)
def FX11_text_0 (p1 : Int32) (u : Mem) : Option (Int32 × Mem) :=
  bnd2 (FX6_read_34_1 p1 u) fun x1 u2 => (if x1 = (-1) then (FX11_text_0_b35 x1 u2) else ((if p1 = 1 then (FX11_text_0_b28 x1 u2) else ((if p1 = 3 then (FX11_text_0_b28 x1 u2) else (FX11_text_0_b35 x1 u2))))))
theorem CX11_text_0 {G : Gt} (p1 : Int32) (u : Mem) {v : Int32} {u' : Mem} (h : FX11_text_0 p1 u = some (v, u')) : CT G yX11_text cX11_text 3 (some .int) 93 [.ref 0, .int p1] (SHg G) (RHg G) u (some (.int v), (SHg G), (RHg G), u') :=
  ct_of (by decide) rfl (Nat.le_of_ble_eq_true rfl) (Nat.le_refl _) (Nat.le_refl _) (fun X hX hR => by
  unfold FX11_text_0 at h
  refine w_aload_n 0 0 hX rfl rfl dX11_text_0 ?_
  refine w_getR 1 hX CI_11 s_0 rfl r_0_4 fl_X11_42 rfl dX11_text_1 ?_
  refine w_iload_n 1 4 hX rfl rfl dX11_text_4 ?_
  refine w_aload_n 0 5 hX rfl rfl dX11_text_5 ?_
  refine w_getR 6 hX CI_11 s_0 rfl r_0_0 fl_X11_10 rfl dX11_text_6 ?_
  obtain ⟨x1, u2, gx1, h⟩ := o_bnd2 h
  refine w_invVi (av := [.int p1, .ref 1]) (st := []) 9 hX CI_6 s_34 rfl mv_yX6_read mi_yX6_read ml_X11_172 (CX6_read_34_1 p1 u gx1) rfl (by decide) (Nat.le_of_ble_eq_true rfl) (Nat.le_refl _) (Nat.le_refl _) dX11_text_9 ?_
  refine w_istore_n (lv' := [(2, .int x1), (0, .ref 0), (1, .int p1)]) 12 hX rfl dX11_text_12 (by decide) rfl ?_
  refine w_iload_n 0 13 hX rfl rfl dX11_text_13 ?_
  refine w_iconst (-1) 14 hX ic_m1 dX11_text_14 ?_
  refine w_icmp_eq (tgt := 35) 15 hX dX11_text_15 (by decide) (fun c3 => ?_) (fun c3 => ?_)
  · have h := it h c3
    exact w_sub [0] rfl (bX11_text_0_35 hX hR x1 u2 h)
  · have h := ie h c3
    refine w_iload_n 2 18 hX rfl rfl dX11_text_18 ?_
    refine w_iconst 1 19 hX ic_1 dX11_text_19 ?_
    refine w_icmp_eq (tgt := 28) 20 hX dX11_text_20 (by decide) (fun c4 => ?_) (fun c4 => ?_)
    · have h := it h c4
      exact w_sub [1, 0] rfl (bX11_text_0_28 hX hR x1 u2 h)
    · have h := ie h c4
      refine w_iload_n 2 23 hX rfl rfl dX11_text_23 ?_
      refine w_iconst 3 24 hX ic_3 dX11_text_24 ?_
      refine w_icmp_ne (tgt := 35) 25 hX dX11_text_25 (by decide) (fun c5 => ?_) (fun c5 => ?_)
      · have h := ie h c5
        exact w_sub [0] rfl (bX11_text_0_35 hX hR x1 u2 h)
      · have h := it h c5
        exact w_sub [1, 0] rfl (bX11_text_0_28 hX hR x1 u2 h))
def FX11_of_0 (p1 p2 : Int32) (u : Mem) : Option (Int32 × Mem) :=
  (FX9_hasMan_1 p1 u).bind fun x1 => (if x1 = 0 then (some ((-2), u)) else ((if p2 = 0 then ((rdA u 2 12 p1).bind fun x4 => some (x4, u)) else ((if p2 = 1 then ((rdA u 3 12 p1).bind fun x6 => some (x6, u)) else ((if p2 = 2 then ((rdA u 4 12 p1).bind fun x8 => some (x8, u)) else ((if p2 = 3 then ((rdA u 24 12 p1).bind fun x10 => some (x10, u)) else ((if p2 = 4 then ((rdA u 25 12 p1).bind fun x12 => some (x12, u)) else ((if p2 = 5 then ((rdA u 26 12 p1).bind fun x14 => some (x14, u)) else ((if p2 = 6 then ((rdA u 27 12 p1).bind fun x16 => some (x16, u)) else ((if p2 = 7 then ((rdA u 27 12 p1).bind fun x18 => (if x18 = 1 then ((rdA u 28 12 p1).bind fun x20 => some (x20, u)) else (some ((-1), u)))) else ((if p2 = 8 then ((rdA u 5 12 p1).bind fun x22 => some (x22, u)) else ((if p2 = 9 then (some ((-2), u)) else ((if p2 = 10 then (bnd2 (FX3_asked_32 p1 0 u) fun x25 u26 => some (x25, u26)) else ((if p2 = 11 then (bnd2 (FX3_asked_32 p1 1 u) fun x28 u29 => some (x28, u29)) else ((if p2 = 12 then (bnd2 (FX3_asked_32 p1 2 u) fun x31 u32 => some (x31, u32)) else ((if p2 = 13 then (bnd2 (FX3_asked_32 p1 3 u) fun x34 u35 => some (x34, u35)) else (some ((-2), u)))))))))))))))))))))))))))))))
theorem CX11_of_0 {G : Gt} (p1 p2 : Int32) (u : Mem) {v : Int32} {u' : Mem} (h : FX11_of_0 p1 p2 u = some (v, u')) : CT G yX11_of cX11_of 3 (some .int) 4 [.ref 0, .int p1, .int p2] (SHg G) (RHg G) u (some (.int v), (SHg G), (RHg G), u') :=
  ct_of (by decide) rfl (Nat.le_of_ble_eq_true rfl) (Nat.le_refl _) (Nat.le_refl _) (fun X hX hR => by
  unfold FX11_of_0 at h
  refine w_aload_n 0 0 hX rfl rfl dX11_of_0 ?_
  refine w_getR 1 hX CI_11 s_0 rfl r_0_0 fl_X11_10 rfl dX11_of_1 ?_
  refine w_iload_n 1 4 hX rfl rfl dX11_of_4 ?_
  obtain ⟨x1, gx1, h⟩ := o_bind h
  refine w_invVi (av := [.int p1]) (st := []) 5 hX CI_9 s_1 rfl mv_yX9_hasMan mi_yX9_hasMan ml_X11_119 (CX9_hasMan_1 p1 u gx1) rfl (by decide) (Nat.le_of_ble_eq_true rfl) (Nat.le_refl _) (Nat.le_refl _) dX11_of_5 ?_
  refine w_if_ne (tgt := 14) 8 hX dX11_of_8 (by decide) (fun c2 => ?_) (fun c2 => ?_)
  · have h := ie h c2
    refine w_iload_n 2 14 hX rfl rfl dX11_of_14 ?_
    by_cases c3 : p2 = 0
    · have h := it h c3
      refine w_tabIn (tgt := 84) (off := 69) 15 hX dX11_of_15 (by rw [c3]; decide) (by rw [c3]; decide) (by rw [c3]; decide) (by decide) ?_
      refine w_aload_n 0 84 hX rfl rfl dX11_of_84 ?_
      refine w_getR 85 hX CI_11 s_0 rfl r_0_0 fl_X11_10 rfl dX11_of_85 ?_
      refine w_getR 88 hX CI_9 s_1 rfl r_1_1 fl_X11_98 rfl dX11_of_88 ?_
      refine w_iload_n 1 91 hX rfl rfl dX11_of_91 ?_
      obtain ⟨x4, gx4, h⟩ := o_bind h
      refine w_iald 92 hX s_2 gx4 dX11_of_92 ?_
      exact w_iret 93 hX hR dX11_of_93 (by cases h; rfl)
    · have h := ie h c3
      by_cases c5 : p2 = 1
      · have h := it h c5
        refine w_tabIn (tgt := 94) (off := 79) 15 hX dX11_of_15 (by rw [c5]; decide) (by rw [c5]; decide) (by rw [c5]; decide) (by decide) ?_
        refine w_aload_n 0 94 hX rfl rfl dX11_of_94 ?_
        refine w_getR 95 hX CI_11 s_0 rfl r_0_0 fl_X11_10 rfl dX11_of_95 ?_
        refine w_getR 98 hX CI_9 s_1 rfl r_1_2 fl_X11_102 rfl dX11_of_98 ?_
        refine w_iload_n 1 101 hX rfl rfl dX11_of_101 ?_
        obtain ⟨x6, gx6, h⟩ := o_bind h
        refine w_iald 102 hX s_3 gx6 dX11_of_102 ?_
        exact w_iret 103 hX hR dX11_of_103 (by cases h; rfl)
      · have h := ie h c5
        by_cases c7 : p2 = 2
        · have h := it h c7
          refine w_tabIn (tgt := 104) (off := 89) 15 hX dX11_of_15 (by rw [c7]; decide) (by rw [c7]; decide) (by rw [c7]; decide) (by decide) ?_
          refine w_aload_n 0 104 hX rfl rfl dX11_of_104 ?_
          refine w_getR 105 hX CI_11 s_0 rfl r_0_0 fl_X11_10 rfl dX11_of_105 ?_
          refine w_getR 108 hX CI_9 s_1 rfl r_1_3 fl_X11_105 rfl dX11_of_108 ?_
          refine w_iload_n 1 111 hX rfl rfl dX11_of_111 ?_
          obtain ⟨x8, gx8, h⟩ := o_bind h
          refine w_iald 112 hX s_4 gx8 dX11_of_112 ?_
          exact w_iret 113 hX hR dX11_of_113 (by cases h; rfl)
        · have h := ie h c7
          by_cases c9 : p2 = 3
          · have h := it h c9
            refine w_tabIn (tgt := 114) (off := 99) 15 hX dX11_of_15 (by rw [c9]; decide) (by rw [c9]; decide) (by rw [c9]; decide) (by decide) ?_
            refine w_aload_n 0 114 hX rfl rfl dX11_of_114 ?_
            refine w_getR 115 hX CI_11 s_0 rfl r_0_1 fl_X11_19 rfl dX11_of_115 ?_
            refine w_getR 118 hX CI_0 s_23 rfl r_23_0 fl_X11_122 rfl dX11_of_118 ?_
            refine w_iload_n 1 121 hX rfl rfl dX11_of_121 ?_
            obtain ⟨x10, gx10, h⟩ := o_bind h
            refine w_iald 122 hX s_24 gx10 dX11_of_122 ?_
            exact w_iret 123 hX hR dX11_of_123 (by cases h; rfl)
          · have h := ie h c9
            by_cases c11 : p2 = 4
            · have h := it h c11
              refine w_tabIn (tgt := 124) (off := 109) 15 hX dX11_of_15 (by rw [c11]; decide) (by rw [c11]; decide) (by rw [c11]; decide) (by decide) ?_
              refine w_aload_n 0 124 hX rfl rfl dX11_of_124 ?_
              refine w_getR 125 hX CI_11 s_0 rfl r_0_1 fl_X11_19 rfl dX11_of_125 ?_
              refine w_getR 128 hX CI_0 s_23 rfl r_23_1 fl_X11_139 rfl dX11_of_128 ?_
              refine w_iload_n 1 131 hX rfl rfl dX11_of_131 ?_
              obtain ⟨x12, gx12, h⟩ := o_bind h
              refine w_iald 132 hX s_25 gx12 dX11_of_132 ?_
              exact w_iret 133 hX hR dX11_of_133 (by cases h; rfl)
            · have h := ie h c11
              by_cases c13 : p2 = 5
              · have h := it h c13
                refine w_tabIn (tgt := 134) (off := 119) 15 hX dX11_of_15 (by rw [c13]; decide) (by rw [c13]; decide) (by rw [c13]; decide) (by decide) ?_
                refine w_aload_n 0 134 hX rfl rfl dX11_of_134 ?_
                refine w_getR 135 hX CI_11 s_0 rfl r_0_1 fl_X11_19 rfl dX11_of_135 ?_
                refine w_getR 138 hX CI_0 s_23 rfl r_23_2 fl_X11_125 rfl dX11_of_138 ?_
                refine w_iload_n 1 141 hX rfl rfl dX11_of_141 ?_
                obtain ⟨x14, gx14, h⟩ := o_bind h
                refine w_iald 142 hX s_26 gx14 dX11_of_142 ?_
                exact w_iret 143 hX hR dX11_of_143 (by cases h; rfl)
              · have h := ie h c13
                by_cases c15 : p2 = 6
                · have h := it h c15
                  refine w_tabIn (tgt := 144) (off := 129) 15 hX dX11_of_15 (by rw [c15]; decide) (by rw [c15]; decide) (by rw [c15]; decide) (by decide) ?_
                  refine w_aload_n 0 144 hX rfl rfl dX11_of_144 ?_
                  refine w_getR 145 hX CI_11 s_0 rfl r_0_1 fl_X11_19 rfl dX11_of_145 ?_
                  refine w_getR 148 hX CI_0 s_23 rfl r_23_3 fl_X11_141 rfl dX11_of_148 ?_
                  refine w_iload_n 1 151 hX rfl rfl dX11_of_151 ?_
                  obtain ⟨x16, gx16, h⟩ := o_bind h
                  refine w_iald 152 hX s_27 gx16 dX11_of_152 ?_
                  exact w_iret 153 hX hR dX11_of_153 (by cases h; rfl)
                · have h := ie h c15
                  by_cases c17 : p2 = 7
                  · have h := it h c17
                    refine w_tabIn (tgt := 154) (off := 139) 15 hX dX11_of_15 (by rw [c17]; decide) (by rw [c17]; decide) (by rw [c17]; decide) (by decide) ?_
                    refine w_aload_n 0 154 hX rfl rfl dX11_of_154 ?_
                    refine w_getR 155 hX CI_11 s_0 rfl r_0_1 fl_X11_19 rfl dX11_of_155 ?_
                    refine w_getR 158 hX CI_0 s_23 rfl r_23_3 fl_X11_141 rfl dX11_of_158 ?_
                    refine w_iload_n 1 161 hX rfl rfl dX11_of_161 ?_
                    obtain ⟨x18, gx18, h⟩ := o_bind h
                    refine w_iald 162 hX s_27 gx18 dX11_of_162 ?_
                    refine w_iconst 1 163 hX ic_1 dX11_of_163 ?_
                    refine w_icmp_ne (tgt := 179) 164 hX dX11_of_164 (by decide) (fun c19 => ?_) (fun c19 => ?_)
                    · have h := ie h c19
                      refine w_iconst (-1) 179 hX ic_m1 dX11_of_179 ?_
                      exact w_iret 180 hX hR dX11_of_180 (by cases h; rfl)
                    · have h := it h c19
                      refine w_aload_n 0 167 hX rfl rfl dX11_of_167 ?_
                      refine w_getR 168 hX CI_11 s_0 rfl r_0_1 fl_X11_19 rfl dX11_of_168 ?_
                      refine w_getR 171 hX CI_0 s_23 rfl r_23_4 fl_X11_144 rfl dX11_of_171 ?_
                      refine w_iload_n 1 174 hX rfl rfl dX11_of_174 ?_
                      obtain ⟨x20, gx20, h⟩ := o_bind h
                      refine w_iald 175 hX s_28 gx20 dX11_of_175 ?_
                      refine w_goto (tgt := 180) 176 hX (by decide) dX11_of_176 ?_
                      exact w_iret 180 hX hR dX11_of_180 (by cases h; rfl)
                  · have h := ie h c17
                    by_cases c21 : p2 = 8
                    · have h := it h c21
                      refine w_tabIn (tgt := 181) (off := 166) 15 hX dX11_of_15 (by rw [c21]; decide) (by rw [c21]; decide) (by rw [c21]; decide) (by decide) ?_
                      refine w_aload_n 0 181 hX rfl rfl dX11_of_181 ?_
                      refine w_getR 182 hX CI_11 s_0 rfl r_0_0 fl_X11_10 rfl dX11_of_182 ?_
                      refine w_getR 185 hX CI_9 s_1 rfl r_1_4 fl_X11_108 rfl dX11_of_185 ?_
                      refine w_iload_n 1 188 hX rfl rfl dX11_of_188 ?_
                      obtain ⟨x22, gx22, h⟩ := o_bind h
                      refine w_iald 189 hX s_5 gx22 dX11_of_189 ?_
                      exact w_iret 190 hX hR dX11_of_190 (by cases h; rfl)
                    · have h := ie h c21
                      by_cases c23 : p2 = 9
                      · have h := it h c23
                        refine w_tabIn (tgt := 231) (off := 216) 15 hX dX11_of_15 (by rw [c23]; decide) (by rw [c23]; decide) (by rw [c23]; decide) (by decide) ?_
                        refine w_bipush (-2) 231 hX ib_m2 dX11_of_231 ?_
                        exact w_iret 233 hX hR dX11_of_233 (by cases h; rfl)
                      · have h := ie h c23
                        by_cases c24 : p2 = 10
                        · have h := it h c24
                          refine w_tabIn (tgt := 191) (off := 176) 15 hX dX11_of_15 (by rw [c24]; decide) (by rw [c24]; decide) (by rw [c24]; decide) (by decide) ?_
                          refine w_aload_n 0 191 hX rfl rfl dX11_of_191 ?_
                          refine w_getR 192 hX CI_11 s_0 rfl r_0_3 fl_X11_35 rfl dX11_of_192 ?_
                          refine w_iload_n 1 195 hX rfl rfl dX11_of_195 ?_
                          refine w_iconst 0 196 hX ic_0 dX11_of_196 ?_
                          obtain ⟨x25, u26, gx25, h⟩ := o_bnd2 h
                          refine w_invVi (av := [.int p1, .int 0]) (st := []) 197 hX CI_3 s_32 rfl mv_yX3_asked mi_yX3_asked ml_X11_182 (CX3_asked_32 p1 0 u gx25) rfl (by decide) (Nat.le_of_ble_eq_true rfl) (Nat.le_refl _) (Nat.le_refl _) dX11_of_197 ?_
                          exact w_iret 200 hX hR dX11_of_200 (by cases h; rfl)
                        · have h := ie h c24
                          by_cases c27 : p2 = 11
                          · have h := it h c27
                            refine w_tabIn (tgt := 201) (off := 186) 15 hX dX11_of_15 (by rw [c27]; decide) (by rw [c27]; decide) (by rw [c27]; decide) (by decide) ?_
                            refine w_aload_n 0 201 hX rfl rfl dX11_of_201 ?_
                            refine w_getR 202 hX CI_11 s_0 rfl r_0_3 fl_X11_35 rfl dX11_of_202 ?_
                            refine w_iload_n 1 205 hX rfl rfl dX11_of_205 ?_
                            refine w_iconst 1 206 hX ic_1 dX11_of_206 ?_
                            obtain ⟨x28, u29, gx28, h⟩ := o_bnd2 h
                            refine w_invVi (av := [.int p1, .int 1]) (st := []) 207 hX CI_3 s_32 rfl mv_yX3_asked mi_yX3_asked ml_X11_182 (CX3_asked_32 p1 1 u gx28) rfl (by decide) (Nat.le_of_ble_eq_true rfl) (Nat.le_refl _) (Nat.le_refl _) dX11_of_207 ?_
                            exact w_iret 210 hX hR dX11_of_210 (by cases h; rfl)
                          · have h := ie h c27
                            by_cases c30 : p2 = 12
                            · have h := it h c30
                              refine w_tabIn (tgt := 211) (off := 196) 15 hX dX11_of_15 (by rw [c30]; decide) (by rw [c30]; decide) (by rw [c30]; decide) (by decide) ?_
                              refine w_aload_n 0 211 hX rfl rfl dX11_of_211 ?_
                              refine w_getR 212 hX CI_11 s_0 rfl r_0_3 fl_X11_35 rfl dX11_of_212 ?_
                              refine w_iload_n 1 215 hX rfl rfl dX11_of_215 ?_
                              refine w_iconst 2 216 hX ic_2 dX11_of_216 ?_
                              obtain ⟨x31, u32, gx31, h⟩ := o_bnd2 h
                              refine w_invVi (av := [.int p1, .int 2]) (st := []) 217 hX CI_3 s_32 rfl mv_yX3_asked mi_yX3_asked ml_X11_182 (CX3_asked_32 p1 2 u gx31) rfl (by decide) (Nat.le_of_ble_eq_true rfl) (Nat.le_refl _) (Nat.le_refl _) dX11_of_217 ?_
                              exact w_iret 220 hX hR dX11_of_220 (by cases h; rfl)
                            · have h := ie h c30
                              by_cases c33 : p2 = 13
                              · have h := it h c33
                                refine w_tabIn (tgt := 221) (off := 206) 15 hX dX11_of_15 (by rw [c33]; decide) (by rw [c33]; decide) (by rw [c33]; decide) (by decide) ?_
                                refine w_aload_n 0 221 hX rfl rfl dX11_of_221 ?_
                                refine w_getR 222 hX CI_11 s_0 rfl r_0_3 fl_X11_35 rfl dX11_of_222 ?_
                                refine w_iload_n 1 225 hX rfl rfl dX11_of_225 ?_
                                refine w_iconst 3 226 hX ic_3 dX11_of_226 ?_
                                obtain ⟨x34, u35, gx34, h⟩ := o_bnd2 h
                                refine w_invVi (av := [.int p1, .int 3]) (st := []) 227 hX CI_3 s_32 rfl mv_yX3_asked mi_yX3_asked ml_X11_182 (CX3_asked_32 p1 3 u gx34) rfl (by decide) (Nat.le_of_ble_eq_true rfl) (Nat.le_refl _) (Nat.le_refl _) dX11_of_227 ?_
                                exact w_iret 230 hX hR dX11_of_230 (by cases h; rfl)
                              · have h := ie h c33
                                have zc3 := lv_neT c3 (a := 0) (by decide)
                                have zc5 := lv_neT c5 (a := 1) (by decide)
                                have zc7 := lv_neT c7 (a := 2) (by decide)
                                have zc9 := lv_neT c9 (a := 3) (by decide)
                                have zc11 := lv_neT c11 (a := 4) (by decide)
                                have zc13 := lv_neT c13 (a := 5) (by decide)
                                have zc15 := lv_neT c15 (a := 6) (by decide)
                                have zc17 := lv_neT c17 (a := 7) (by decide)
                                have zc21 := lv_neT c21 (a := 8) (by decide)
                                have zc23 := lv_neT c23 (a := 9) (by decide)
                                have zc24 := lv_neT c24 (a := 10) (by decide)
                                have zc27 := lv_neT c27 (a := 11) (by decide)
                                have zc30 := lv_neT c30 (a := 12) (by decide)
                                have zc33 := lv_neT c33 (a := 13) (by decide)
                                refine w_tabOut (tgt := 231) 15 hX dX11_of_15 (by omega) (by decide) ?_
                                refine w_bipush (-2) 231 hX ib_m2 dX11_of_231 ?_
                                exact w_iret 233 hX hR dX11_of_233 (by cases h; rfl)
  · have h := it h c2
    refine w_bipush (-2) 11 hX ib_m2 dX11_of_11 ?_
    exact w_iret 13 hX hR dX11_of_13 (by cases h; rfl))
def FX11_weight_0 (p1 : Int32) (u : Mem) : Option Int32 :=
  (FX11_isFact p1).bind fun x1 => (if x1 = 0 then (some (-1)) else ((rdA u 7 8 p1).bind fun x3 => some x3))
theorem CX11_weight_0 {G : Gt} (p1 : Int32) (u : Mem) {v : Int32} (h : FX11_weight_0 p1 u = some v) : CT G yX11_weight cX11_weight 2 (some .int) 2 [.ref 0, .int p1] (SHg G) (RHg G) u (some (.int v), (SHg G), (RHg G), u) :=
  ct_of (by decide) rfl (Nat.le_of_ble_eq_true rfl) (Nat.le_refl _) (Nat.le_refl _) (fun X hX hR => by
  unfold FX11_weight_0 at h
  refine w_iload_n 1 0 hX rfl rfl dX11_weight_0 ?_
  obtain ⟨x1, gx1, h⟩ := o_bind h
  refine w_invSi (av := [.int p1]) (st := []) 1 hX ms_yX11_isFact mi_yX11_isFact ml_X11_128 (CX11_isFact p1 u gx1) rfl (by decide) (Nat.le_of_ble_eq_true rfl) (Nat.le_refl _) (Nat.le_refl _) dX11_weight_1 ?_
  refine w_if_eq (tgt := 19) 4 hX dX11_weight_4 (by decide) (fun c2 => ?_) (fun c2 => ?_)
  · have h := it h c2
    refine w_iconst (-1) 19 hX ic_m1 dX11_weight_19 ?_
    exact w_iret 20 hX hR dX11_weight_20 (by cases h; rfl)
  · have h := ie h c2
    refine w_aload_n 0 7 hX rfl rfl dX11_weight_7 ?_
    refine w_getR 8 hX CI_11 s_0 rfl r_0_0 fl_X11_10 rfl dX11_weight_8 ?_
    refine w_getR 11 hX CI_9 s_1 rfl r_1_6 fl_X11_185 rfl dX11_weight_11 ?_
    refine w_iload_n 1 14 hX rfl rfl dX11_weight_14 ?_
    obtain ⟨x3, gx3, h⟩ := o_bind h
    refine w_iald 15 hX s_7 gx3 dX11_weight_15 ?_
    refine w_goto (tgt := 20) 16 hX (by decide) dX11_weight_16 ?_
    exact w_iret 20 hX hR dX11_weight_20 (by cases h; rfl))
def FX11_country_0 (p1 p2 : Int32) (u : Mem) : Option Int32 :=
  (FX11_isCountry p1).bind fun x1 => (if x1 = 0 then (some (-1)) else ((if p2 = 0 then ((FX3_howManyInField_32 p1 u).bind fun x4 => some x4) else ((if p2 = 1 then ((FX3_known_32 p1 u).bind fun x6 => some x6) else ((if p2 = 2 then ((FX3_known_32 p1 u).bind fun x8 => (FX9_weightOf_1 x8 u).bind fun x9 => some x9) else ((if p2 = 3 then ((rdA u 6 2 p1).bind fun x11 => some x11) else ((if p2 = 4 then ((FX5_rests_15 (u 23 7) p1 u).bind fun x13 => (if x13 = 0 then (some 0) else (some 1))) else (some (-1)))))))))))))
theorem CX11_country_0 {G : Gt} (p1 p2 : Int32) (u : Mem) {v : Int32} (h : FX11_country_0 p1 p2 u = some v) : CT G yX11_country cX11_country 3 (some .int) 3 [.ref 0, .int p1, .int p2] (SHg G) (RHg G) u (some (.int v), (SHg G), (RHg G), u) :=
  ct_of (by decide) rfl (Nat.le_of_ble_eq_true rfl) (Nat.le_refl _) (Nat.le_refl _) (fun X hX hR => by
  unfold FX11_country_0 at h
  refine w_iload_n 1 0 hX rfl rfl dX11_country_0 ?_
  obtain ⟨x1, gx1, h⟩ := o_bind h
  refine w_invSi (av := [.int p1]) (st := []) 1 hX ms_yX11_isCountry mi_yX11_isCountry ml_X11_91 (CX11_isCountry p1 u gx1) rfl (by decide) (Nat.le_of_ble_eq_true rfl) (Nat.le_refl _) (Nat.le_refl _) dX11_country_1 ?_
  refine w_if_ne (tgt := 9) 4 hX dX11_country_4 (by decide) (fun c2 => ?_) (fun c2 => ?_)
  · have h := ie h c2
    refine w_iload_n 2 9 hX rfl rfl dX11_country_9 ?_
    by_cases c3 : p2 = 0
    · have h := it h c3
      refine w_tabIn (tgt := 44) (off := 34) 10 hX dX11_country_10 (by rw [c3]; decide) (by rw [c3]; decide) (by rw [c3]; decide) (by decide) ?_
      refine w_aload_n 0 44 hX rfl rfl dX11_country_44 ?_
      refine w_getR 45 hX CI_11 s_0 rfl r_0_3 fl_X11_35 rfl dX11_country_45 ?_
      refine w_iload_n 1 48 hX rfl rfl dX11_country_48 ?_
      obtain ⟨x4, gx4, h⟩ := o_bind h
      refine w_invVi (av := [.int p1]) (st := []) 49 hX CI_3 s_32 rfl mv_yX3_howManyInField mi_yX3_howManyInField ml_X11_188 (CX3_howManyInField_32 p1 u gx4) rfl (by decide) (Nat.le_of_ble_eq_true rfl) (Nat.le_refl _) (Nat.le_refl _) dX11_country_49 ?_
      exact w_iret 52 hX hR dX11_country_52 (by cases h; rfl)
    · have h := ie h c3
      by_cases c5 : p2 = 1
      · have h := it h c5
        refine w_tabIn (tgt := 53) (off := 43) 10 hX dX11_country_10 (by rw [c5]; decide) (by rw [c5]; decide) (by rw [c5]; decide) (by decide) ?_
        refine w_aload_n 0 53 hX rfl rfl dX11_country_53 ?_
        refine w_getR 54 hX CI_11 s_0 rfl r_0_3 fl_X11_35 rfl dX11_country_54 ?_
        refine w_iload_n 1 57 hX rfl rfl dX11_country_57 ?_
        obtain ⟨x6, gx6, h⟩ := o_bind h
        refine w_invVi (av := [.int p1]) (st := []) 58 hX CI_3 s_32 rfl mv_yX3_known mi_yX3_known ml_X11_192 (CX3_known_32 p1 u gx6) rfl (by decide) (Nat.le_of_ble_eq_true rfl) (Nat.le_refl _) (Nat.le_refl _) dX11_country_58 ?_
        exact w_iret 61 hX hR dX11_country_61 (by cases h; rfl)
      · have h := ie h c5
        by_cases c7 : p2 = 2
        · have h := it h c7
          refine w_tabIn (tgt := 62) (off := 52) 10 hX dX11_country_10 (by rw [c7]; decide) (by rw [c7]; decide) (by rw [c7]; decide) (by decide) ?_
          refine w_aload_n 0 62 hX rfl rfl dX11_country_62 ?_
          refine w_getR 63 hX CI_11 s_0 rfl r_0_0 fl_X11_10 rfl dX11_country_63 ?_
          refine w_aload_n 0 66 hX rfl rfl dX11_country_66 ?_
          refine w_getR 67 hX CI_11 s_0 rfl r_0_3 fl_X11_35 rfl dX11_country_67 ?_
          refine w_iload_n 1 70 hX rfl rfl dX11_country_70 ?_
          obtain ⟨x8, gx8, h⟩ := o_bind h
          refine w_invVi (av := [.int p1]) (st := [.ref 1]) 71 hX CI_3 s_32 rfl mv_yX3_known mi_yX3_known ml_X11_192 (CX3_known_32 p1 u gx8) rfl (by decide) (Nat.le_of_ble_eq_true rfl) (Nat.le_refl _) (Nat.le_refl _) dX11_country_71 ?_
          obtain ⟨x9, gx9, h⟩ := o_bind h
          refine w_invVi (av := [.int x8]) (st := []) 74 hX CI_9 s_1 rfl mv_yX9_weightOf mi_yX9_weightOf ml_X11_195 (CX9_weightOf_1 x8 u gx9) rfl (by decide) (Nat.le_of_ble_eq_true rfl) (Nat.le_refl _) (Nat.le_refl _) dX11_country_74 ?_
          exact w_iret 77 hX hR dX11_country_77 (by cases h; rfl)
        · have h := ie h c7
          by_cases c10 : p2 = 3
          · have h := it h c10
            refine w_tabIn (tgt := 78) (off := 68) 10 hX dX11_country_10 (by rw [c10]; decide) (by rw [c10]; decide) (by rw [c10]; decide) (by decide) ?_
            refine w_aload_n 0 78 hX rfl rfl dX11_country_78 ?_
            refine w_getR 79 hX CI_11 s_0 rfl r_0_0 fl_X11_10 rfl dX11_country_79 ?_
            refine w_getR 82 hX CI_9 s_1 rfl r_1_5 fl_X11_198 rfl dX11_country_82 ?_
            refine w_iload_n 1 85 hX rfl rfl dX11_country_85 ?_
            obtain ⟨x11, gx11, h⟩ := o_bind h
            refine w_iald 86 hX s_6 gx11 dX11_country_86 ?_
            exact w_iret 87 hX hR dX11_country_87 (by cases h; rfl)
          · have h := ie h c10
            by_cases c12 : p2 = 4
            · have h := it h c12
              refine w_tabIn (tgt := 88) (off := 78) 10 hX dX11_country_10 (by rw [c12]; decide) (by rw [c12]; decide) (by rw [c12]; decide) (by decide) ?_
              refine w_aload_n 0 88 hX rfl rfl dX11_country_88 ?_
              refine w_getR 89 hX CI_11 s_0 rfl r_0_0 fl_X11_10 rfl dX11_country_89 ?_
              refine w_getR 92 hX CI_9 s_1 rfl r_1_14 fl_X11_201 rfl dX11_country_92 ?_
              refine w_aload_n 0 95 hX rfl rfl dX11_country_95 ?_
              refine w_getR 96 hX CI_11 s_0 rfl r_0_1 fl_X11_19 rfl dX11_country_96 ?_
              refine w_getI (j := 7) 99 hX CI_0 s_23 rfl fl_X11_153 rfl dX11_country_99 ?_
              refine w_iload_n 1 102 hX rfl rfl dX11_country_102 ?_
              obtain ⟨x13, gx13, h⟩ := o_bind h
              refine w_invVi (av := [.int (u 23 7), .int p1]) (st := []) 103 hX CI_5 s_15 rfl mv_yX5_rests mi_yX5_rests ml_X11_205 (CX5_rests_15 (u 23 7) p1 u gx13) rfl (by decide) (Nat.le_of_ble_eq_true rfl) (Nat.le_refl _) (Nat.le_refl _) dX11_country_103 ?_
              refine w_if_eq (tgt := 113) 106 hX dX11_country_106 (by decide) (fun c14 => ?_) (fun c14 => ?_)
              · have h := it h c14
                refine w_iconst 0 113 hX ic_0 dX11_country_113 ?_
                exact w_iret 114 hX hR dX11_country_114 (by cases h; rfl)
              · have h := ie h c14
                refine w_iconst 1 109 hX ic_1 dX11_country_109 ?_
                refine w_goto (tgt := 114) 110 hX (by decide) dX11_country_110 ?_
                exact w_iret 114 hX hR dX11_country_114 (by cases h; rfl)
            · have h := ie h c12
              have zc3 := lv_neT c3 (a := 0) (by decide)
              have zc5 := lv_neT c5 (a := 1) (by decide)
              have zc7 := lv_neT c7 (a := 2) (by decide)
              have zc10 := lv_neT c10 (a := 3) (by decide)
              have zc12 := lv_neT c12 (a := 4) (by decide)
              refine w_tabOut (tgt := 115) 10 hX dX11_country_10 (by omega) (by decide) ?_
              refine w_iconst (-1) 115 hX ic_m1 dX11_country_115 ?_
              exact w_iret 116 hX hR dX11_country_116 (by cases h; rfl)
  · have h := it h c2
    refine w_iconst (-1) 7 hX ic_m1 dX11_country_7 ?_
    exact w_iret 8 hX hR dX11_country_8 (by cases h; rfl))
def FX1_part_30_b25 (l1 l2 t0 : Int32) (u : Mem) : Option Int32 :=
  (if t0 = 0 then (some (-1)) else ((rdA u 31 600 ((l1 * 4) + l2)).bind fun x2 => some x2))
theorem bX1_part_30_25 {G : Gt} {X : Xt} {v : Int32} {u : Mem} (hX : CxOk G X cX1_part 4 RX1 (some (.int v), (SHg G), (RHg G), u) 1) (hR : CxRet G X (some .int) (some (.int v), (SHg G), (RHg G), u)) (l1 l2 t0 : Int32) (h : FX1_part_30_b25 l1 l2 t0 u = some v) : WM G X 25 [(0, .ref 30), (1, .int l1), (2, .int l2)] [.int t0] (SHg G) (RHg G) u := by
  unfold FX1_part_30_b25 at h
  refine w_istore_n (lv' := [(3, .int t0), (0, .ref 30), (1, .int l1), (2, .int l2)]) 25 hX rfl dX1_part_25 (by decide) rfl ?_
  refine w_iload_n 0 26 hX rfl rfl dX1_part_26 ?_
  refine w_if_eq (tgt := 43) 27 hX dX1_part_27 (by decide) (fun c1 => ?_) (fun c1 => ?_)
  · have h := it h c1
    refine w_iconst (-1) 43 hX ic_m1 dX1_part_43 ?_
    exact w_iret 44 hX hR dX1_part_44 (by cases h; rfl)
  · have h := ie h c1
    refine w_aload_n 1 30 hX rfl rfl dX1_part_30 ?_
    refine w_getR 31 hX CI_1 s_30 rfl r_30_0 fl_X1_11 rfl dX1_part_31 ?_
    refine w_iload_n 2 34 hX rfl rfl dX1_part_34 ?_
    refine w_iconst 4 35 hX ic_4 dX1_part_35 ?_
    refine w_imul 36 hX dX1_part_36 ?_
    refine w_iload_n 3 37 hX rfl rfl dX1_part_37 ?_
    refine w_iadd 38 hX dX1_part_38 ?_
    obtain ⟨x2, gx2, h⟩ := o_bind h
    refine w_iald 39 hX s_31 gx2 dX1_part_39 ?_
    refine w_goto (tgt := 44) 40 hX (by decide) dX1_part_40 ?_
    exact w_iret 44 hX hR dX1_part_44 (by cases h; rfl)
def FX1_part_30 (p1 p2 : Int32) (u : Mem) : Option Int32 :=
  (if p1 < 0 then (FX1_part_30_b25 p1 p2 0 u) else ((if 150 ≤ p1 then (FX1_part_30_b25 p1 p2 0 u) else ((if p2 < 0 then (FX1_part_30_b25 p1 p2 0 u) else ((if 4 ≤ p2 then (FX1_part_30_b25 p1 p2 0 u) else (FX1_part_30_b25 p1 p2 1 u))))))))
theorem CX1_part_30 {G : Gt} (p1 p2 : Int32) (u : Mem) {v : Int32} (h : FX1_part_30 p1 p2 u = some v) : CT G yX1_part cX1_part 4 (some .int) 1 [.ref 30, .int p1, .int p2] (SHg G) (RHg G) u (some (.int v), (SHg G), (RHg G), u) :=
  ct_of (by decide) rfl (Nat.le_of_ble_eq_true rfl) (Nat.le_refl _) (Nat.le_refl _) (fun X hX hR => by
  unfold FX1_part_30 at h
  refine w_iload_n 1 0 hX rfl rfl dX1_part_0 ?_
  refine w_if_lt (tgt := 24) 1 hX dX1_part_1 (by decide) (fun c1 => ?_) (fun c1 => ?_)
  · have h := it h c1
    refine w_iconst 0 24 hX ic_0 dX1_part_24 ?_
    exact bX1_part_30_25 hX hR p1 p2 0 h
  · have h := ie h c1
    refine w_iload_n 1 4 hX rfl rfl dX1_part_4 ?_
    refine w_sipush 150 5 hX isp_150 dX1_part_5 ?_
    refine w_icmp_ge (tgt := 24) 8 hX dX1_part_8 (by decide) (fun c2 => ?_) (fun c2 => ?_)
    · have h := it h c2
      refine w_iconst 0 24 hX ic_0 dX1_part_24 ?_
      exact bX1_part_30_25 hX hR p1 p2 0 h
    · have h := ie h c2
      refine w_iload_n 2 11 hX rfl rfl dX1_part_11 ?_
      refine w_if_lt (tgt := 24) 12 hX dX1_part_12 (by decide) (fun c3 => ?_) (fun c3 => ?_)
      · have h := it h c3
        refine w_iconst 0 24 hX ic_0 dX1_part_24 ?_
        exact bX1_part_30_25 hX hR p1 p2 0 h
      · have h := ie h c3
        refine w_iload_n 2 15 hX rfl rfl dX1_part_15 ?_
        refine w_iconst 4 16 hX ic_4 dX1_part_16 ?_
        refine w_icmp_ge (tgt := 24) 17 hX dX1_part_17 (by decide) (fun c4 => ?_) (fun c4 => ?_)
        · have h := it h c4
          refine w_iconst 0 24 hX ic_0 dX1_part_24 ?_
          exact bX1_part_30_25 hX hR p1 p2 0 h
        · have h := ie h c4
          refine w_iconst 1 20 hX ic_1 dX1_part_20 ?_
          refine w_goto (tgt := 25) 21 hX (by decide) dX1_part_21 ?_
          exact bX1_part_30_25 hX hR p1 p2 1 h)
def FX11_book_0_b29 (l1 l2 t0 : Int32) (u : Mem) : Option Int32 :=
  (if t0 = 0 then (some (-2)) else ((FX1_part_30 l1 l2 u).bind fun x2 => some x2))
theorem bX11_book_0_29 {G : Gt} {X : Xt} {v : Int32} {u : Mem} (hX : CxOk G X cX11_book 4 RX11 (some (.int v), (SHg G), (RHg G), u) 2) (hR : CxRet G X (some .int) (some (.int v), (SHg G), (RHg G), u)) (l1 l2 t0 : Int32) (h : FX11_book_0_b29 l1 l2 t0 u = some v) : WM G X 29 [(0, .ref 0), (1, .int l1), (2, .int l2)] [.int t0] (SHg G) (RHg G) u := by
  unfold FX11_book_0_b29 at h
  refine w_istore_n (lv' := [(3, .int t0), (0, .ref 0), (1, .int l1), (2, .int l2)]) 29 hX rfl dX11_book_29 (by decide) rfl ?_
  refine w_iload_n 0 30 hX rfl rfl dX11_book_30 ?_
  refine w_if_eq (tgt := 46) 31 hX dX11_book_31 (by decide) (fun c1 => ?_) (fun c1 => ?_)
  · have h := it h c1
    refine w_bipush (-2) 46 hX ib_m2 dX11_book_46 ?_
    exact w_iret 48 hX hR dX11_book_48 (by cases h; rfl)
  · have h := ie h c1
    refine w_aload_n 1 34 hX rfl rfl dX11_book_34 ?_
    refine w_getR 35 hX CI_11 s_0 rfl r_0_2 fl_X11_26 rfl dX11_book_35 ?_
    refine w_iload_n 2 38 hX rfl rfl dX11_book_38 ?_
    refine w_iload_n 3 39 hX rfl rfl dX11_book_39 ?_
    obtain ⟨x2, gx2, h⟩ := o_bind h
    refine w_invVi (av := [.int l1, .int l2]) (st := []) 40 hX CI_1 s_30 rfl mv_yX1_part mi_yX1_part ml_X11_213 (CX1_part_30 l1 l2 u gx2) rfl (by decide) (Nat.le_of_ble_eq_true rfl) (Nat.le_refl _) (Nat.le_refl _) dX11_book_40 ?_
    refine w_goto (tgt := 48) 43 hX (by decide) dX11_book_43 ?_
    exact w_iret 48 hX hR dX11_book_48 (by cases h; rfl)
def FX11_book_0 (p1 p2 : Int32) (u : Mem) : Option Int32 :=
  (if p1 < 0 then (FX11_book_0_b29 p1 p2 0 u) else ((if (u 23 9) ≤ p1 then (FX11_book_0_b29 p1 p2 0 u) else ((if p2 < 0 then (FX11_book_0_b29 p1 p2 0 u) else ((if 4 ≤ p2 then (FX11_book_0_b29 p1 p2 0 u) else (FX11_book_0_b29 p1 p2 1 u))))))))
theorem CX11_book_0 {G : Gt} (p1 p2 : Int32) (u : Mem) {v : Int32} (h : FX11_book_0 p1 p2 u = some v) : CT G yX11_book cX11_book 4 (some .int) 2 [.ref 0, .int p1, .int p2] (SHg G) (RHg G) u (some (.int v), (SHg G), (RHg G), u) :=
  ct_of (by decide) rfl (Nat.le_of_ble_eq_true rfl) (Nat.le_refl _) (Nat.le_refl _) (fun X hX hR => by
  unfold FX11_book_0 at h
  refine w_iload_n 1 0 hX rfl rfl dX11_book_0 ?_
  refine w_if_lt (tgt := 28) 1 hX dX11_book_1 (by decide) (fun c1 => ?_) (fun c1 => ?_)
  · have h := it h c1
    refine w_iconst 0 28 hX ic_0 dX11_book_28 ?_
    exact bX11_book_0_29 hX hR p1 p2 0 h
  · have h := ie h c1
    refine w_iload_n 1 4 hX rfl rfl dX11_book_4 ?_
    refine w_aload_n 0 5 hX rfl rfl dX11_book_5 ?_
    refine w_getR 6 hX CI_11 s_0 rfl r_0_1 fl_X11_19 rfl dX11_book_6 ?_
    refine w_getI (j := 9) 9 hX CI_0 s_23 rfl fl_X11_210 rfl dX11_book_9 ?_
    refine w_icmp_ge (tgt := 28) 12 hX dX11_book_12 (by decide) (fun c2 => ?_) (fun c2 => ?_)
    · have h := it h c2
      refine w_iconst 0 28 hX ic_0 dX11_book_28 ?_
      exact bX11_book_0_29 hX hR p1 p2 0 h
    · have h := ie h c2
      refine w_iload_n 2 15 hX rfl rfl dX11_book_15 ?_
      refine w_if_lt (tgt := 28) 16 hX dX11_book_16 (by decide) (fun c3 => ?_) (fun c3 => ?_)
      · have h := it h c3
        refine w_iconst 0 28 hX ic_0 dX11_book_28 ?_
        exact bX11_book_0_29 hX hR p1 p2 0 h
      · have h := ie h c3
        refine w_iload_n 2 19 hX rfl rfl dX11_book_19 ?_
        refine w_iconst 4 20 hX ic_4 dX11_book_20 ?_
        refine w_icmp_ge (tgt := 28) 21 hX dX11_book_21 (by decide) (fun c4 => ?_) (fun c4 => ?_)
        · have h := it h c4
          refine w_iconst 0 28 hX ic_0 dX11_book_28 ?_
          exact bX11_book_0_29 hX hR p1 p2 0 h
        · have h := ie h c4
          refine w_iconst 1 24 hX ic_1 dX11_book_24 ?_
          refine w_goto (tgt := 29) 25 hX (by decide) dX11_book_25 ?_
          exact bX11_book_0_29 hX hR p1 p2 1 h)
def FX0_become_23_54 (u : Mem) : Option Mem :=
  (some (cpM u 55 24 12)).bind fun u1 => (some (cpM u1 56 25 12)).bind fun u2 => (some (cpM u2 57 26 12)).bind fun u3 => (some (cpM u3 58 27 12)).bind fun u4 => (some (cpM u4 59 28 12)).bind fun u5 => (some (cpM u5 60 29 12)).bind fun u6 => (some (mupd u6 23 6 (u6 54 6))).bind fun u7 => (some (mupd u7 23 7 (u7 54 7))).bind fun u8 => (some (mupd u8 23 8 (u8 54 8))).bind fun u9 => (some (mupd u9 23 9 (u9 54 9))).bind fun u10 => some u10
theorem CX0_become_23_54 {G : Gt} (u : Mem) {u' : Mem} (h : FX0_become_23_54 u = some u') : CT G yX0_become cX0_become 2 none 3 [.ref 23, .ref 54] (SHg G) (RHg G) u (none, (SHg G), (RHg G), u') :=
  ct_of (by decide) rfl (Nat.le_of_ble_eq_true rfl) (Nat.le_refl _) (Nat.le_refl _) (fun X hX hR => by
  unfold FX0_become_23_54 at h
  refine w_aload_n 1 0 hX rfl rfl dX0_become_0 ?_
  refine w_getR 1 hX CI_0 s_54 rfl r_54_0 fl_X0_9 rfl dX0_become_1 ?_
  refine w_aload_n 0 4 hX rfl rfl dX0_become_4 ?_
  refine w_getR 5 hX CI_0 s_23 rfl r_23_0 fl_X0_9 rfl dX0_become_5 ?_
  obtain ⟨u1, gu1, h⟩ := o_bind h
  refine w_invSNv (av := [.ref 55, .ref 24]) (st := []) 8 hX ms_yX11_copy mi_yX11_copy ml_X0_34 (C_copy s_55 s_24 (by decide) (by decide) (by decide) gu1) rfl (by decide) (Nat.le_of_ble_eq_true rfl) (Nat.le_refl _) (Nat.le_refl _) dX0_become_8 ?_
  refine w_aload_n 1 11 hX rfl rfl dX0_become_11 ?_
  refine w_getR 12 hX CI_0 s_54 rfl r_54_1 fl_X0_15 rfl dX0_become_12 ?_
  refine w_aload_n 0 15 hX rfl rfl dX0_become_15 ?_
  refine w_getR 16 hX CI_0 s_23 rfl r_23_1 fl_X0_15 rfl dX0_become_16 ?_
  obtain ⟨u2, gu2, h⟩ := o_bind h
  refine w_invSNv (av := [.ref 56, .ref 25]) (st := []) 19 hX ms_yX11_copy mi_yX11_copy ml_X0_34 (C_copy s_56 s_25 (by decide) (by decide) (by decide) gu2) rfl (by decide) (Nat.le_of_ble_eq_true rfl) (Nat.le_refl _) (Nat.le_refl _) dX0_become_19 ?_
  refine w_aload_n 1 22 hX rfl rfl dX0_become_22 ?_
  refine w_getR 23 hX CI_0 s_54 rfl r_54_2 fl_X0_18 rfl dX0_become_23 ?_
  refine w_aload_n 0 26 hX rfl rfl dX0_become_26 ?_
  refine w_getR 27 hX CI_0 s_23 rfl r_23_2 fl_X0_18 rfl dX0_become_27 ?_
  obtain ⟨u3, gu3, h⟩ := o_bind h
  refine w_invSNv (av := [.ref 57, .ref 26]) (st := []) 30 hX ms_yX11_copy mi_yX11_copy ml_X0_34 (C_copy s_57 s_26 (by decide) (by decide) (by decide) gu3) rfl (by decide) (Nat.le_of_ble_eq_true rfl) (Nat.le_refl _) (Nat.le_refl _) dX0_become_30 ?_
  refine w_aload_n 1 33 hX rfl rfl dX0_become_33 ?_
  refine w_getR 34 hX CI_0 s_54 rfl r_54_3 fl_X0_21 rfl dX0_become_34 ?_
  refine w_aload_n 0 37 hX rfl rfl dX0_become_37 ?_
  refine w_getR 38 hX CI_0 s_23 rfl r_23_3 fl_X0_21 rfl dX0_become_38 ?_
  obtain ⟨u4, gu4, h⟩ := o_bind h
  refine w_invSNv (av := [.ref 58, .ref 27]) (st := []) 41 hX ms_yX11_copy mi_yX11_copy ml_X0_34 (C_copy s_58 s_27 (by decide) (by decide) (by decide) gu4) rfl (by decide) (Nat.le_of_ble_eq_true rfl) (Nat.le_refl _) (Nat.le_refl _) dX0_become_41 ?_
  refine w_aload_n 1 44 hX rfl rfl dX0_become_44 ?_
  refine w_getR 45 hX CI_0 s_54 rfl r_54_4 fl_X0_24 rfl dX0_become_45 ?_
  refine w_aload_n 0 48 hX rfl rfl dX0_become_48 ?_
  refine w_getR 49 hX CI_0 s_23 rfl r_23_4 fl_X0_24 rfl dX0_become_49 ?_
  obtain ⟨u5, gu5, h⟩ := o_bind h
  refine w_invSNv (av := [.ref 59, .ref 28]) (st := []) 52 hX ms_yX11_copy mi_yX11_copy ml_X0_34 (C_copy s_59 s_28 (by decide) (by decide) (by decide) gu5) rfl (by decide) (Nat.le_of_ble_eq_true rfl) (Nat.le_refl _) (Nat.le_refl _) dX0_become_52 ?_
  refine w_aload_n 1 55 hX rfl rfl dX0_become_55 ?_
  refine w_getR 56 hX CI_0 s_54 rfl r_54_5 fl_X0_27 rfl dX0_become_56 ?_
  refine w_aload_n 0 59 hX rfl rfl dX0_become_59 ?_
  refine w_getR 60 hX CI_0 s_23 rfl r_23_5 fl_X0_27 rfl dX0_become_60 ?_
  obtain ⟨u6, gu6, h⟩ := o_bind h
  refine w_invSNv (av := [.ref 60, .ref 29]) (st := []) 63 hX ms_yX11_copy mi_yX11_copy ml_X0_34 (C_copy s_60 s_29 (by decide) (by decide) (by decide) gu6) rfl (by decide) (Nat.le_of_ble_eq_true rfl) (Nat.le_refl _) (Nat.le_refl _) dX0_become_63 ?_
  refine w_aload_n 0 66 hX rfl rfl dX0_become_66 ?_
  refine w_aload_n 1 67 hX rfl rfl dX0_become_67 ?_
  refine w_getI (j := 6) 68 hX CI_0 s_54 rfl fl_X0_30 rfl dX0_become_68 ?_
  obtain ⟨u7, gu7, h⟩ := o_bind h
  refine w_putI (j := 6) 71 hX CI_0 s_23 rfl fl_X0_30 rfl rfl rfl rfl dX0_become_71 ?_
  rw [Option.some.inj gu7]
  refine w_aload_n 0 74 hX rfl rfl dX0_become_74 ?_
  refine w_aload_n 1 75 hX rfl rfl dX0_become_75 ?_
  refine w_getI (j := 7) 76 hX CI_0 s_54 rfl fl_X0_38 rfl dX0_become_76 ?_
  obtain ⟨u8, gu8, h⟩ := o_bind h
  refine w_putI (j := 7) 79 hX CI_0 s_23 rfl fl_X0_38 rfl rfl rfl rfl dX0_become_79 ?_
  rw [Option.some.inj gu8]
  refine w_aload_n 0 82 hX rfl rfl dX0_become_82 ?_
  refine w_aload_n 1 83 hX rfl rfl dX0_become_83 ?_
  refine w_getI (j := 8) 84 hX CI_0 s_54 rfl fl_X0_41 rfl dX0_become_84 ?_
  obtain ⟨u9, gu9, h⟩ := o_bind h
  refine w_putI (j := 8) 87 hX CI_0 s_23 rfl fl_X0_41 rfl rfl rfl rfl dX0_become_87 ?_
  rw [Option.some.inj gu9]
  refine w_aload_n 0 90 hX rfl rfl dX0_become_90 ?_
  refine w_aload_n 1 91 hX rfl rfl dX0_become_91 ?_
  refine w_getI (j := 9) 92 hX CI_0 s_54 rfl fl_X0_44 rfl dX0_become_92 ?_
  obtain ⟨u10, gu10, h⟩ := o_bind h
  refine w_putI (j := 9) 95 hX CI_0 s_23 rfl fl_X0_44 rfl rfl rfl rfl dX0_become_95 ?_
  rw [Option.some.inj gu10]
  exact w_vret 98 hX hR dX0_become_98 (by cases h; rfl))
def FX0_become_23_61 (u : Mem) : Option Mem :=
  (some (cpM u 62 24 12)).bind fun u1 => (some (cpM u1 63 25 12)).bind fun u2 => (some (cpM u2 64 26 12)).bind fun u3 => (some (cpM u3 65 27 12)).bind fun u4 => (some (cpM u4 66 28 12)).bind fun u5 => (some (cpM u5 67 29 12)).bind fun u6 => (some (mupd u6 23 6 (u6 61 6))).bind fun u7 => (some (mupd u7 23 7 (u7 61 7))).bind fun u8 => (some (mupd u8 23 8 (u8 61 8))).bind fun u9 => (some (mupd u9 23 9 (u9 61 9))).bind fun u10 => some u10
theorem CX0_become_23_61 {G : Gt} (u : Mem) {u' : Mem} (h : FX0_become_23_61 u = some u') : CT G yX0_become cX0_become 2 none 3 [.ref 23, .ref 61] (SHg G) (RHg G) u (none, (SHg G), (RHg G), u') :=
  ct_of (by decide) rfl (Nat.le_of_ble_eq_true rfl) (Nat.le_refl _) (Nat.le_refl _) (fun X hX hR => by
  unfold FX0_become_23_61 at h
  refine w_aload_n 1 0 hX rfl rfl dX0_become_0 ?_
  refine w_getR 1 hX CI_0 s_61 rfl r_61_0 fl_X0_9 rfl dX0_become_1 ?_
  refine w_aload_n 0 4 hX rfl rfl dX0_become_4 ?_
  refine w_getR 5 hX CI_0 s_23 rfl r_23_0 fl_X0_9 rfl dX0_become_5 ?_
  obtain ⟨u1, gu1, h⟩ := o_bind h
  refine w_invSNv (av := [.ref 62, .ref 24]) (st := []) 8 hX ms_yX11_copy mi_yX11_copy ml_X0_34 (C_copy s_62 s_24 (by decide) (by decide) (by decide) gu1) rfl (by decide) (Nat.le_of_ble_eq_true rfl) (Nat.le_refl _) (Nat.le_refl _) dX0_become_8 ?_
  refine w_aload_n 1 11 hX rfl rfl dX0_become_11 ?_
  refine w_getR 12 hX CI_0 s_61 rfl r_61_1 fl_X0_15 rfl dX0_become_12 ?_
  refine w_aload_n 0 15 hX rfl rfl dX0_become_15 ?_
  refine w_getR 16 hX CI_0 s_23 rfl r_23_1 fl_X0_15 rfl dX0_become_16 ?_
  obtain ⟨u2, gu2, h⟩ := o_bind h
  refine w_invSNv (av := [.ref 63, .ref 25]) (st := []) 19 hX ms_yX11_copy mi_yX11_copy ml_X0_34 (C_copy s_63 s_25 (by decide) (by decide) (by decide) gu2) rfl (by decide) (Nat.le_of_ble_eq_true rfl) (Nat.le_refl _) (Nat.le_refl _) dX0_become_19 ?_
  refine w_aload_n 1 22 hX rfl rfl dX0_become_22 ?_
  refine w_getR 23 hX CI_0 s_61 rfl r_61_2 fl_X0_18 rfl dX0_become_23 ?_
  refine w_aload_n 0 26 hX rfl rfl dX0_become_26 ?_
  refine w_getR 27 hX CI_0 s_23 rfl r_23_2 fl_X0_18 rfl dX0_become_27 ?_
  obtain ⟨u3, gu3, h⟩ := o_bind h
  refine w_invSNv (av := [.ref 64, .ref 26]) (st := []) 30 hX ms_yX11_copy mi_yX11_copy ml_X0_34 (C_copy s_64 s_26 (by decide) (by decide) (by decide) gu3) rfl (by decide) (Nat.le_of_ble_eq_true rfl) (Nat.le_refl _) (Nat.le_refl _) dX0_become_30 ?_
  refine w_aload_n 1 33 hX rfl rfl dX0_become_33 ?_
  refine w_getR 34 hX CI_0 s_61 rfl r_61_3 fl_X0_21 rfl dX0_become_34 ?_
  refine w_aload_n 0 37 hX rfl rfl dX0_become_37 ?_
  refine w_getR 38 hX CI_0 s_23 rfl r_23_3 fl_X0_21 rfl dX0_become_38 ?_
  obtain ⟨u4, gu4, h⟩ := o_bind h
  refine w_invSNv (av := [.ref 65, .ref 27]) (st := []) 41 hX ms_yX11_copy mi_yX11_copy ml_X0_34 (C_copy s_65 s_27 (by decide) (by decide) (by decide) gu4) rfl (by decide) (Nat.le_of_ble_eq_true rfl) (Nat.le_refl _) (Nat.le_refl _) dX0_become_41 ?_
  refine w_aload_n 1 44 hX rfl rfl dX0_become_44 ?_
  refine w_getR 45 hX CI_0 s_61 rfl r_61_4 fl_X0_24 rfl dX0_become_45 ?_
  refine w_aload_n 0 48 hX rfl rfl dX0_become_48 ?_
  refine w_getR 49 hX CI_0 s_23 rfl r_23_4 fl_X0_24 rfl dX0_become_49 ?_
  obtain ⟨u5, gu5, h⟩ := o_bind h
  refine w_invSNv (av := [.ref 66, .ref 28]) (st := []) 52 hX ms_yX11_copy mi_yX11_copy ml_X0_34 (C_copy s_66 s_28 (by decide) (by decide) (by decide) gu5) rfl (by decide) (Nat.le_of_ble_eq_true rfl) (Nat.le_refl _) (Nat.le_refl _) dX0_become_52 ?_
  refine w_aload_n 1 55 hX rfl rfl dX0_become_55 ?_
  refine w_getR 56 hX CI_0 s_61 rfl r_61_5 fl_X0_27 rfl dX0_become_56 ?_
  refine w_aload_n 0 59 hX rfl rfl dX0_become_59 ?_
  refine w_getR 60 hX CI_0 s_23 rfl r_23_5 fl_X0_27 rfl dX0_become_60 ?_
  obtain ⟨u6, gu6, h⟩ := o_bind h
  refine w_invSNv (av := [.ref 67, .ref 29]) (st := []) 63 hX ms_yX11_copy mi_yX11_copy ml_X0_34 (C_copy s_67 s_29 (by decide) (by decide) (by decide) gu6) rfl (by decide) (Nat.le_of_ble_eq_true rfl) (Nat.le_refl _) (Nat.le_refl _) dX0_become_63 ?_
  refine w_aload_n 0 66 hX rfl rfl dX0_become_66 ?_
  refine w_aload_n 1 67 hX rfl rfl dX0_become_67 ?_
  refine w_getI (j := 6) 68 hX CI_0 s_61 rfl fl_X0_30 rfl dX0_become_68 ?_
  obtain ⟨u7, gu7, h⟩ := o_bind h
  refine w_putI (j := 6) 71 hX CI_0 s_23 rfl fl_X0_30 rfl rfl rfl rfl dX0_become_71 ?_
  rw [Option.some.inj gu7]
  refine w_aload_n 0 74 hX rfl rfl dX0_become_74 ?_
  refine w_aload_n 1 75 hX rfl rfl dX0_become_75 ?_
  refine w_getI (j := 7) 76 hX CI_0 s_61 rfl fl_X0_38 rfl dX0_become_76 ?_
  obtain ⟨u8, gu8, h⟩ := o_bind h
  refine w_putI (j := 7) 79 hX CI_0 s_23 rfl fl_X0_38 rfl rfl rfl rfl dX0_become_79 ?_
  rw [Option.some.inj gu8]
  refine w_aload_n 0 82 hX rfl rfl dX0_become_82 ?_
  refine w_aload_n 1 83 hX rfl rfl dX0_become_83 ?_
  refine w_getI (j := 8) 84 hX CI_0 s_61 rfl fl_X0_41 rfl dX0_become_84 ?_
  obtain ⟨u9, gu9, h⟩ := o_bind h
  refine w_putI (j := 8) 87 hX CI_0 s_23 rfl fl_X0_41 rfl rfl rfl rfl dX0_become_87 ?_
  rw [Option.some.inj gu9]
  refine w_aload_n 0 90 hX rfl rfl dX0_become_90 ?_
  refine w_aload_n 1 91 hX rfl rfl dX0_become_91 ?_
  refine w_getI (j := 9) 92 hX CI_0 s_61 rfl fl_X0_44 rfl dX0_become_92 ?_
  obtain ⟨u10, gu10, h⟩ := o_bind h
  refine w_putI (j := 9) 95 hX CI_0 s_23 rfl fl_X0_44 rfl rfl rfl rfl dX0_become_95 ?_
  rw [Option.some.inj gu10]
  exact w_vret 98 hX hR dX0_become_98 (by cases h; rfl))
def FX0_become_23_68 (u : Mem) : Option Mem :=
  (some (cpM u 69 24 12)).bind fun u1 => (some (cpM u1 70 25 12)).bind fun u2 => (some (cpM u2 71 26 12)).bind fun u3 => (some (cpM u3 72 27 12)).bind fun u4 => (some (cpM u4 73 28 12)).bind fun u5 => (some (cpM u5 74 29 12)).bind fun u6 => (some (mupd u6 23 6 (u6 68 6))).bind fun u7 => (some (mupd u7 23 7 (u7 68 7))).bind fun u8 => (some (mupd u8 23 8 (u8 68 8))).bind fun u9 => (some (mupd u9 23 9 (u9 68 9))).bind fun u10 => some u10
theorem CX0_become_23_68 {G : Gt} (u : Mem) {u' : Mem} (h : FX0_become_23_68 u = some u') : CT G yX0_become cX0_become 2 none 3 [.ref 23, .ref 68] (SHg G) (RHg G) u (none, (SHg G), (RHg G), u') :=
  ct_of (by decide) rfl (Nat.le_of_ble_eq_true rfl) (Nat.le_refl _) (Nat.le_refl _) (fun X hX hR => by
  unfold FX0_become_23_68 at h
  refine w_aload_n 1 0 hX rfl rfl dX0_become_0 ?_
  refine w_getR 1 hX CI_0 s_68 rfl r_68_0 fl_X0_9 rfl dX0_become_1 ?_
  refine w_aload_n 0 4 hX rfl rfl dX0_become_4 ?_
  refine w_getR 5 hX CI_0 s_23 rfl r_23_0 fl_X0_9 rfl dX0_become_5 ?_
  obtain ⟨u1, gu1, h⟩ := o_bind h
  refine w_invSNv (av := [.ref 69, .ref 24]) (st := []) 8 hX ms_yX11_copy mi_yX11_copy ml_X0_34 (C_copy s_69 s_24 (by decide) (by decide) (by decide) gu1) rfl (by decide) (Nat.le_of_ble_eq_true rfl) (Nat.le_refl _) (Nat.le_refl _) dX0_become_8 ?_
  refine w_aload_n 1 11 hX rfl rfl dX0_become_11 ?_
  refine w_getR 12 hX CI_0 s_68 rfl r_68_1 fl_X0_15 rfl dX0_become_12 ?_
  refine w_aload_n 0 15 hX rfl rfl dX0_become_15 ?_
  refine w_getR 16 hX CI_0 s_23 rfl r_23_1 fl_X0_15 rfl dX0_become_16 ?_
  obtain ⟨u2, gu2, h⟩ := o_bind h
  refine w_invSNv (av := [.ref 70, .ref 25]) (st := []) 19 hX ms_yX11_copy mi_yX11_copy ml_X0_34 (C_copy s_70 s_25 (by decide) (by decide) (by decide) gu2) rfl (by decide) (Nat.le_of_ble_eq_true rfl) (Nat.le_refl _) (Nat.le_refl _) dX0_become_19 ?_
  refine w_aload_n 1 22 hX rfl rfl dX0_become_22 ?_
  refine w_getR 23 hX CI_0 s_68 rfl r_68_2 fl_X0_18 rfl dX0_become_23 ?_
  refine w_aload_n 0 26 hX rfl rfl dX0_become_26 ?_
  refine w_getR 27 hX CI_0 s_23 rfl r_23_2 fl_X0_18 rfl dX0_become_27 ?_
  obtain ⟨u3, gu3, h⟩ := o_bind h
  refine w_invSNv (av := [.ref 71, .ref 26]) (st := []) 30 hX ms_yX11_copy mi_yX11_copy ml_X0_34 (C_copy s_71 s_26 (by decide) (by decide) (by decide) gu3) rfl (by decide) (Nat.le_of_ble_eq_true rfl) (Nat.le_refl _) (Nat.le_refl _) dX0_become_30 ?_
  refine w_aload_n 1 33 hX rfl rfl dX0_become_33 ?_
  refine w_getR 34 hX CI_0 s_68 rfl r_68_3 fl_X0_21 rfl dX0_become_34 ?_
  refine w_aload_n 0 37 hX rfl rfl dX0_become_37 ?_
  refine w_getR 38 hX CI_0 s_23 rfl r_23_3 fl_X0_21 rfl dX0_become_38 ?_
  obtain ⟨u4, gu4, h⟩ := o_bind h
  refine w_invSNv (av := [.ref 72, .ref 27]) (st := []) 41 hX ms_yX11_copy mi_yX11_copy ml_X0_34 (C_copy s_72 s_27 (by decide) (by decide) (by decide) gu4) rfl (by decide) (Nat.le_of_ble_eq_true rfl) (Nat.le_refl _) (Nat.le_refl _) dX0_become_41 ?_
  refine w_aload_n 1 44 hX rfl rfl dX0_become_44 ?_
  refine w_getR 45 hX CI_0 s_68 rfl r_68_4 fl_X0_24 rfl dX0_become_45 ?_
  refine w_aload_n 0 48 hX rfl rfl dX0_become_48 ?_
  refine w_getR 49 hX CI_0 s_23 rfl r_23_4 fl_X0_24 rfl dX0_become_49 ?_
  obtain ⟨u5, gu5, h⟩ := o_bind h
  refine w_invSNv (av := [.ref 73, .ref 28]) (st := []) 52 hX ms_yX11_copy mi_yX11_copy ml_X0_34 (C_copy s_73 s_28 (by decide) (by decide) (by decide) gu5) rfl (by decide) (Nat.le_of_ble_eq_true rfl) (Nat.le_refl _) (Nat.le_refl _) dX0_become_52 ?_
  refine w_aload_n 1 55 hX rfl rfl dX0_become_55 ?_
  refine w_getR 56 hX CI_0 s_68 rfl r_68_5 fl_X0_27 rfl dX0_become_56 ?_
  refine w_aload_n 0 59 hX rfl rfl dX0_become_59 ?_
  refine w_getR 60 hX CI_0 s_23 rfl r_23_5 fl_X0_27 rfl dX0_become_60 ?_
  obtain ⟨u6, gu6, h⟩ := o_bind h
  refine w_invSNv (av := [.ref 74, .ref 29]) (st := []) 63 hX ms_yX11_copy mi_yX11_copy ml_X0_34 (C_copy s_74 s_29 (by decide) (by decide) (by decide) gu6) rfl (by decide) (Nat.le_of_ble_eq_true rfl) (Nat.le_refl _) (Nat.le_refl _) dX0_become_63 ?_
  refine w_aload_n 0 66 hX rfl rfl dX0_become_66 ?_
  refine w_aload_n 1 67 hX rfl rfl dX0_become_67 ?_
  refine w_getI (j := 6) 68 hX CI_0 s_68 rfl fl_X0_30 rfl dX0_become_68 ?_
  obtain ⟨u7, gu7, h⟩ := o_bind h
  refine w_putI (j := 6) 71 hX CI_0 s_23 rfl fl_X0_30 rfl rfl rfl rfl dX0_become_71 ?_
  rw [Option.some.inj gu7]
  refine w_aload_n 0 74 hX rfl rfl dX0_become_74 ?_
  refine w_aload_n 1 75 hX rfl rfl dX0_become_75 ?_
  refine w_getI (j := 7) 76 hX CI_0 s_68 rfl fl_X0_38 rfl dX0_become_76 ?_
  obtain ⟨u8, gu8, h⟩ := o_bind h
  refine w_putI (j := 7) 79 hX CI_0 s_23 rfl fl_X0_38 rfl rfl rfl rfl dX0_become_79 ?_
  rw [Option.some.inj gu8]
  refine w_aload_n 0 82 hX rfl rfl dX0_become_82 ?_
  refine w_aload_n 1 83 hX rfl rfl dX0_become_83 ?_
  refine w_getI (j := 8) 84 hX CI_0 s_68 rfl fl_X0_41 rfl dX0_become_84 ?_
  obtain ⟨u9, gu9, h⟩ := o_bind h
  refine w_putI (j := 8) 87 hX CI_0 s_23 rfl fl_X0_41 rfl rfl rfl rfl dX0_become_87 ?_
  rw [Option.some.inj gu9]
  refine w_aload_n 0 90 hX rfl rfl dX0_become_90 ?_
  refine w_aload_n 1 91 hX rfl rfl dX0_become_91 ?_
  refine w_getI (j := 9) 92 hX CI_0 s_68 rfl fl_X0_44 rfl dX0_become_92 ?_
  obtain ⟨u10, gu10, h⟩ := o_bind h
  refine w_putI (j := 9) 95 hX CI_0 s_23 rfl fl_X0_44 rfl rfl rfl rfl dX0_become_95 ?_
  rw [Option.some.inj gu10]
  exact w_vret 98 hX hR dX0_become_98 (by cases h; rfl))
def FX0_become_23_75 (u : Mem) : Option Mem :=
  (some (cpM u 76 24 12)).bind fun u1 => (some (cpM u1 77 25 12)).bind fun u2 => (some (cpM u2 78 26 12)).bind fun u3 => (some (cpM u3 79 27 12)).bind fun u4 => (some (cpM u4 80 28 12)).bind fun u5 => (some (cpM u5 81 29 12)).bind fun u6 => (some (mupd u6 23 6 (u6 75 6))).bind fun u7 => (some (mupd u7 23 7 (u7 75 7))).bind fun u8 => (some (mupd u8 23 8 (u8 75 8))).bind fun u9 => (some (mupd u9 23 9 (u9 75 9))).bind fun u10 => some u10
theorem CX0_become_23_75 {G : Gt} (u : Mem) {u' : Mem} (h : FX0_become_23_75 u = some u') : CT G yX0_become cX0_become 2 none 3 [.ref 23, .ref 75] (SHg G) (RHg G) u (none, (SHg G), (RHg G), u') :=
  ct_of (by decide) rfl (Nat.le_of_ble_eq_true rfl) (Nat.le_refl _) (Nat.le_refl _) (fun X hX hR => by
  unfold FX0_become_23_75 at h
  refine w_aload_n 1 0 hX rfl rfl dX0_become_0 ?_
  refine w_getR 1 hX CI_0 s_75 rfl r_75_0 fl_X0_9 rfl dX0_become_1 ?_
  refine w_aload_n 0 4 hX rfl rfl dX0_become_4 ?_
  refine w_getR 5 hX CI_0 s_23 rfl r_23_0 fl_X0_9 rfl dX0_become_5 ?_
  obtain ⟨u1, gu1, h⟩ := o_bind h
  refine w_invSNv (av := [.ref 76, .ref 24]) (st := []) 8 hX ms_yX11_copy mi_yX11_copy ml_X0_34 (C_copy s_76 s_24 (by decide) (by decide) (by decide) gu1) rfl (by decide) (Nat.le_of_ble_eq_true rfl) (Nat.le_refl _) (Nat.le_refl _) dX0_become_8 ?_
  refine w_aload_n 1 11 hX rfl rfl dX0_become_11 ?_
  refine w_getR 12 hX CI_0 s_75 rfl r_75_1 fl_X0_15 rfl dX0_become_12 ?_
  refine w_aload_n 0 15 hX rfl rfl dX0_become_15 ?_
  refine w_getR 16 hX CI_0 s_23 rfl r_23_1 fl_X0_15 rfl dX0_become_16 ?_
  obtain ⟨u2, gu2, h⟩ := o_bind h
  refine w_invSNv (av := [.ref 77, .ref 25]) (st := []) 19 hX ms_yX11_copy mi_yX11_copy ml_X0_34 (C_copy s_77 s_25 (by decide) (by decide) (by decide) gu2) rfl (by decide) (Nat.le_of_ble_eq_true rfl) (Nat.le_refl _) (Nat.le_refl _) dX0_become_19 ?_
  refine w_aload_n 1 22 hX rfl rfl dX0_become_22 ?_
  refine w_getR 23 hX CI_0 s_75 rfl r_75_2 fl_X0_18 rfl dX0_become_23 ?_
  refine w_aload_n 0 26 hX rfl rfl dX0_become_26 ?_
  refine w_getR 27 hX CI_0 s_23 rfl r_23_2 fl_X0_18 rfl dX0_become_27 ?_
  obtain ⟨u3, gu3, h⟩ := o_bind h
  refine w_invSNv (av := [.ref 78, .ref 26]) (st := []) 30 hX ms_yX11_copy mi_yX11_copy ml_X0_34 (C_copy s_78 s_26 (by decide) (by decide) (by decide) gu3) rfl (by decide) (Nat.le_of_ble_eq_true rfl) (Nat.le_refl _) (Nat.le_refl _) dX0_become_30 ?_
  refine w_aload_n 1 33 hX rfl rfl dX0_become_33 ?_
  refine w_getR 34 hX CI_0 s_75 rfl r_75_3 fl_X0_21 rfl dX0_become_34 ?_
  refine w_aload_n 0 37 hX rfl rfl dX0_become_37 ?_
  refine w_getR 38 hX CI_0 s_23 rfl r_23_3 fl_X0_21 rfl dX0_become_38 ?_
  obtain ⟨u4, gu4, h⟩ := o_bind h
  refine w_invSNv (av := [.ref 79, .ref 27]) (st := []) 41 hX ms_yX11_copy mi_yX11_copy ml_X0_34 (C_copy s_79 s_27 (by decide) (by decide) (by decide) gu4) rfl (by decide) (Nat.le_of_ble_eq_true rfl) (Nat.le_refl _) (Nat.le_refl _) dX0_become_41 ?_
  refine w_aload_n 1 44 hX rfl rfl dX0_become_44 ?_
  refine w_getR 45 hX CI_0 s_75 rfl r_75_4 fl_X0_24 rfl dX0_become_45 ?_
  refine w_aload_n 0 48 hX rfl rfl dX0_become_48 ?_
  refine w_getR 49 hX CI_0 s_23 rfl r_23_4 fl_X0_24 rfl dX0_become_49 ?_
  obtain ⟨u5, gu5, h⟩ := o_bind h
  refine w_invSNv (av := [.ref 80, .ref 28]) (st := []) 52 hX ms_yX11_copy mi_yX11_copy ml_X0_34 (C_copy s_80 s_28 (by decide) (by decide) (by decide) gu5) rfl (by decide) (Nat.le_of_ble_eq_true rfl) (Nat.le_refl _) (Nat.le_refl _) dX0_become_52 ?_
  refine w_aload_n 1 55 hX rfl rfl dX0_become_55 ?_
  refine w_getR 56 hX CI_0 s_75 rfl r_75_5 fl_X0_27 rfl dX0_become_56 ?_
  refine w_aload_n 0 59 hX rfl rfl dX0_become_59 ?_
  refine w_getR 60 hX CI_0 s_23 rfl r_23_5 fl_X0_27 rfl dX0_become_60 ?_
  obtain ⟨u6, gu6, h⟩ := o_bind h
  refine w_invSNv (av := [.ref 81, .ref 29]) (st := []) 63 hX ms_yX11_copy mi_yX11_copy ml_X0_34 (C_copy s_81 s_29 (by decide) (by decide) (by decide) gu6) rfl (by decide) (Nat.le_of_ble_eq_true rfl) (Nat.le_refl _) (Nat.le_refl _) dX0_become_63 ?_
  refine w_aload_n 0 66 hX rfl rfl dX0_become_66 ?_
  refine w_aload_n 1 67 hX rfl rfl dX0_become_67 ?_
  refine w_getI (j := 6) 68 hX CI_0 s_75 rfl fl_X0_30 rfl dX0_become_68 ?_
  obtain ⟨u7, gu7, h⟩ := o_bind h
  refine w_putI (j := 6) 71 hX CI_0 s_23 rfl fl_X0_30 rfl rfl rfl rfl dX0_become_71 ?_
  rw [Option.some.inj gu7]
  refine w_aload_n 0 74 hX rfl rfl dX0_become_74 ?_
  refine w_aload_n 1 75 hX rfl rfl dX0_become_75 ?_
  refine w_getI (j := 7) 76 hX CI_0 s_75 rfl fl_X0_38 rfl dX0_become_76 ?_
  obtain ⟨u8, gu8, h⟩ := o_bind h
  refine w_putI (j := 7) 79 hX CI_0 s_23 rfl fl_X0_38 rfl rfl rfl rfl dX0_become_79 ?_
  rw [Option.some.inj gu8]
  refine w_aload_n 0 82 hX rfl rfl dX0_become_82 ?_
  refine w_aload_n 1 83 hX rfl rfl dX0_become_83 ?_
  refine w_getI (j := 8) 84 hX CI_0 s_75 rfl fl_X0_41 rfl dX0_become_84 ?_
  obtain ⟨u9, gu9, h⟩ := o_bind h
  refine w_putI (j := 8) 87 hX CI_0 s_23 rfl fl_X0_41 rfl rfl rfl rfl dX0_become_87 ?_
  rw [Option.some.inj gu9]
  refine w_aload_n 0 90 hX rfl rfl dX0_become_90 ?_
  refine w_aload_n 1 91 hX rfl rfl dX0_become_91 ?_
  refine w_getI (j := 9) 92 hX CI_0 s_75 rfl fl_X0_44 rfl dX0_become_92 ?_
  obtain ⟨u10, gu10, h⟩ := o_bind h
  refine w_putI (j := 9) 95 hX CI_0 s_23 rfl fl_X0_44 rfl rfl rfl rfl dX0_become_95 ?_
  rw [Option.some.inj gu10]
  exact w_vret 98 hX hR dX0_become_98 (by cases h; rfl))
def FX0_become_23_82 (u : Mem) : Option Mem :=
  (some (cpM u 83 24 12)).bind fun u1 => (some (cpM u1 84 25 12)).bind fun u2 => (some (cpM u2 85 26 12)).bind fun u3 => (some (cpM u3 86 27 12)).bind fun u4 => (some (cpM u4 87 28 12)).bind fun u5 => (some (cpM u5 88 29 12)).bind fun u6 => (some (mupd u6 23 6 (u6 82 6))).bind fun u7 => (some (mupd u7 23 7 (u7 82 7))).bind fun u8 => (some (mupd u8 23 8 (u8 82 8))).bind fun u9 => (some (mupd u9 23 9 (u9 82 9))).bind fun u10 => some u10
theorem CX0_become_23_82 {G : Gt} (u : Mem) {u' : Mem} (h : FX0_become_23_82 u = some u') : CT G yX0_become cX0_become 2 none 3 [.ref 23, .ref 82] (SHg G) (RHg G) u (none, (SHg G), (RHg G), u') :=
  ct_of (by decide) rfl (Nat.le_of_ble_eq_true rfl) (Nat.le_refl _) (Nat.le_refl _) (fun X hX hR => by
  unfold FX0_become_23_82 at h
  refine w_aload_n 1 0 hX rfl rfl dX0_become_0 ?_
  refine w_getR 1 hX CI_0 s_82 rfl r_82_0 fl_X0_9 rfl dX0_become_1 ?_
  refine w_aload_n 0 4 hX rfl rfl dX0_become_4 ?_
  refine w_getR 5 hX CI_0 s_23 rfl r_23_0 fl_X0_9 rfl dX0_become_5 ?_
  obtain ⟨u1, gu1, h⟩ := o_bind h
  refine w_invSNv (av := [.ref 83, .ref 24]) (st := []) 8 hX ms_yX11_copy mi_yX11_copy ml_X0_34 (C_copy s_83 s_24 (by decide) (by decide) (by decide) gu1) rfl (by decide) (Nat.le_of_ble_eq_true rfl) (Nat.le_refl _) (Nat.le_refl _) dX0_become_8 ?_
  refine w_aload_n 1 11 hX rfl rfl dX0_become_11 ?_
  refine w_getR 12 hX CI_0 s_82 rfl r_82_1 fl_X0_15 rfl dX0_become_12 ?_
  refine w_aload_n 0 15 hX rfl rfl dX0_become_15 ?_
  refine w_getR 16 hX CI_0 s_23 rfl r_23_1 fl_X0_15 rfl dX0_become_16 ?_
  obtain ⟨u2, gu2, h⟩ := o_bind h
  refine w_invSNv (av := [.ref 84, .ref 25]) (st := []) 19 hX ms_yX11_copy mi_yX11_copy ml_X0_34 (C_copy s_84 s_25 (by decide) (by decide) (by decide) gu2) rfl (by decide) (Nat.le_of_ble_eq_true rfl) (Nat.le_refl _) (Nat.le_refl _) dX0_become_19 ?_
  refine w_aload_n 1 22 hX rfl rfl dX0_become_22 ?_
  refine w_getR 23 hX CI_0 s_82 rfl r_82_2 fl_X0_18 rfl dX0_become_23 ?_
  refine w_aload_n 0 26 hX rfl rfl dX0_become_26 ?_
  refine w_getR 27 hX CI_0 s_23 rfl r_23_2 fl_X0_18 rfl dX0_become_27 ?_
  obtain ⟨u3, gu3, h⟩ := o_bind h
  refine w_invSNv (av := [.ref 85, .ref 26]) (st := []) 30 hX ms_yX11_copy mi_yX11_copy ml_X0_34 (C_copy s_85 s_26 (by decide) (by decide) (by decide) gu3) rfl (by decide) (Nat.le_of_ble_eq_true rfl) (Nat.le_refl _) (Nat.le_refl _) dX0_become_30 ?_
  refine w_aload_n 1 33 hX rfl rfl dX0_become_33 ?_
  refine w_getR 34 hX CI_0 s_82 rfl r_82_3 fl_X0_21 rfl dX0_become_34 ?_
  refine w_aload_n 0 37 hX rfl rfl dX0_become_37 ?_
  refine w_getR 38 hX CI_0 s_23 rfl r_23_3 fl_X0_21 rfl dX0_become_38 ?_
  obtain ⟨u4, gu4, h⟩ := o_bind h
  refine w_invSNv (av := [.ref 86, .ref 27]) (st := []) 41 hX ms_yX11_copy mi_yX11_copy ml_X0_34 (C_copy s_86 s_27 (by decide) (by decide) (by decide) gu4) rfl (by decide) (Nat.le_of_ble_eq_true rfl) (Nat.le_refl _) (Nat.le_refl _) dX0_become_41 ?_
  refine w_aload_n 1 44 hX rfl rfl dX0_become_44 ?_
  refine w_getR 45 hX CI_0 s_82 rfl r_82_4 fl_X0_24 rfl dX0_become_45 ?_
  refine w_aload_n 0 48 hX rfl rfl dX0_become_48 ?_
  refine w_getR 49 hX CI_0 s_23 rfl r_23_4 fl_X0_24 rfl dX0_become_49 ?_
  obtain ⟨u5, gu5, h⟩ := o_bind h
  refine w_invSNv (av := [.ref 87, .ref 28]) (st := []) 52 hX ms_yX11_copy mi_yX11_copy ml_X0_34 (C_copy s_87 s_28 (by decide) (by decide) (by decide) gu5) rfl (by decide) (Nat.le_of_ble_eq_true rfl) (Nat.le_refl _) (Nat.le_refl _) dX0_become_52 ?_
  refine w_aload_n 1 55 hX rfl rfl dX0_become_55 ?_
  refine w_getR 56 hX CI_0 s_82 rfl r_82_5 fl_X0_27 rfl dX0_become_56 ?_
  refine w_aload_n 0 59 hX rfl rfl dX0_become_59 ?_
  refine w_getR 60 hX CI_0 s_23 rfl r_23_5 fl_X0_27 rfl dX0_become_60 ?_
  obtain ⟨u6, gu6, h⟩ := o_bind h
  refine w_invSNv (av := [.ref 88, .ref 29]) (st := []) 63 hX ms_yX11_copy mi_yX11_copy ml_X0_34 (C_copy s_88 s_29 (by decide) (by decide) (by decide) gu6) rfl (by decide) (Nat.le_of_ble_eq_true rfl) (Nat.le_refl _) (Nat.le_refl _) dX0_become_63 ?_
  refine w_aload_n 0 66 hX rfl rfl dX0_become_66 ?_
  refine w_aload_n 1 67 hX rfl rfl dX0_become_67 ?_
  refine w_getI (j := 6) 68 hX CI_0 s_82 rfl fl_X0_30 rfl dX0_become_68 ?_
  obtain ⟨u7, gu7, h⟩ := o_bind h
  refine w_putI (j := 6) 71 hX CI_0 s_23 rfl fl_X0_30 rfl rfl rfl rfl dX0_become_71 ?_
  rw [Option.some.inj gu7]
  refine w_aload_n 0 74 hX rfl rfl dX0_become_74 ?_
  refine w_aload_n 1 75 hX rfl rfl dX0_become_75 ?_
  refine w_getI (j := 7) 76 hX CI_0 s_82 rfl fl_X0_38 rfl dX0_become_76 ?_
  obtain ⟨u8, gu8, h⟩ := o_bind h
  refine w_putI (j := 7) 79 hX CI_0 s_23 rfl fl_X0_38 rfl rfl rfl rfl dX0_become_79 ?_
  rw [Option.some.inj gu8]
  refine w_aload_n 0 82 hX rfl rfl dX0_become_82 ?_
  refine w_aload_n 1 83 hX rfl rfl dX0_become_83 ?_
  refine w_getI (j := 8) 84 hX CI_0 s_82 rfl fl_X0_41 rfl dX0_become_84 ?_
  obtain ⟨u9, gu9, h⟩ := o_bind h
  refine w_putI (j := 8) 87 hX CI_0 s_23 rfl fl_X0_41 rfl rfl rfl rfl dX0_become_87 ?_
  rw [Option.some.inj gu9]
  refine w_aload_n 0 90 hX rfl rfl dX0_become_90 ?_
  refine w_aload_n 1 91 hX rfl rfl dX0_become_91 ?_
  refine w_getI (j := 9) 92 hX CI_0 s_82 rfl fl_X0_44 rfl dX0_become_92 ?_
  obtain ⟨u10, gu10, h⟩ := o_bind h
  refine w_putI (j := 9) 95 hX CI_0 s_23 rfl fl_X0_44 rfl rfl rfl rfl dX0_become_95 ?_
  rw [Option.some.inj gu10]
  exact w_vret 98 hX hR dX0_become_98 (by cases h; rfl))
def FX0_become_23_89 (u : Mem) : Option Mem :=
  (some (cpM u 90 24 12)).bind fun u1 => (some (cpM u1 91 25 12)).bind fun u2 => (some (cpM u2 92 26 12)).bind fun u3 => (some (cpM u3 93 27 12)).bind fun u4 => (some (cpM u4 94 28 12)).bind fun u5 => (some (cpM u5 95 29 12)).bind fun u6 => (some (mupd u6 23 6 (u6 89 6))).bind fun u7 => (some (mupd u7 23 7 (u7 89 7))).bind fun u8 => (some (mupd u8 23 8 (u8 89 8))).bind fun u9 => (some (mupd u9 23 9 (u9 89 9))).bind fun u10 => some u10
theorem CX0_become_23_89 {G : Gt} (u : Mem) {u' : Mem} (h : FX0_become_23_89 u = some u') : CT G yX0_become cX0_become 2 none 3 [.ref 23, .ref 89] (SHg G) (RHg G) u (none, (SHg G), (RHg G), u') :=
  ct_of (by decide) rfl (Nat.le_of_ble_eq_true rfl) (Nat.le_refl _) (Nat.le_refl _) (fun X hX hR => by
  unfold FX0_become_23_89 at h
  refine w_aload_n 1 0 hX rfl rfl dX0_become_0 ?_
  refine w_getR 1 hX CI_0 s_89 rfl r_89_0 fl_X0_9 rfl dX0_become_1 ?_
  refine w_aload_n 0 4 hX rfl rfl dX0_become_4 ?_
  refine w_getR 5 hX CI_0 s_23 rfl r_23_0 fl_X0_9 rfl dX0_become_5 ?_
  obtain ⟨u1, gu1, h⟩ := o_bind h
  refine w_invSNv (av := [.ref 90, .ref 24]) (st := []) 8 hX ms_yX11_copy mi_yX11_copy ml_X0_34 (C_copy s_90 s_24 (by decide) (by decide) (by decide) gu1) rfl (by decide) (Nat.le_of_ble_eq_true rfl) (Nat.le_refl _) (Nat.le_refl _) dX0_become_8 ?_
  refine w_aload_n 1 11 hX rfl rfl dX0_become_11 ?_
  refine w_getR 12 hX CI_0 s_89 rfl r_89_1 fl_X0_15 rfl dX0_become_12 ?_
  refine w_aload_n 0 15 hX rfl rfl dX0_become_15 ?_
  refine w_getR 16 hX CI_0 s_23 rfl r_23_1 fl_X0_15 rfl dX0_become_16 ?_
  obtain ⟨u2, gu2, h⟩ := o_bind h
  refine w_invSNv (av := [.ref 91, .ref 25]) (st := []) 19 hX ms_yX11_copy mi_yX11_copy ml_X0_34 (C_copy s_91 s_25 (by decide) (by decide) (by decide) gu2) rfl (by decide) (Nat.le_of_ble_eq_true rfl) (Nat.le_refl _) (Nat.le_refl _) dX0_become_19 ?_
  refine w_aload_n 1 22 hX rfl rfl dX0_become_22 ?_
  refine w_getR 23 hX CI_0 s_89 rfl r_89_2 fl_X0_18 rfl dX0_become_23 ?_
  refine w_aload_n 0 26 hX rfl rfl dX0_become_26 ?_
  refine w_getR 27 hX CI_0 s_23 rfl r_23_2 fl_X0_18 rfl dX0_become_27 ?_
  obtain ⟨u3, gu3, h⟩ := o_bind h
  refine w_invSNv (av := [.ref 92, .ref 26]) (st := []) 30 hX ms_yX11_copy mi_yX11_copy ml_X0_34 (C_copy s_92 s_26 (by decide) (by decide) (by decide) gu3) rfl (by decide) (Nat.le_of_ble_eq_true rfl) (Nat.le_refl _) (Nat.le_refl _) dX0_become_30 ?_
  refine w_aload_n 1 33 hX rfl rfl dX0_become_33 ?_
  refine w_getR 34 hX CI_0 s_89 rfl r_89_3 fl_X0_21 rfl dX0_become_34 ?_
  refine w_aload_n 0 37 hX rfl rfl dX0_become_37 ?_
  refine w_getR 38 hX CI_0 s_23 rfl r_23_3 fl_X0_21 rfl dX0_become_38 ?_
  obtain ⟨u4, gu4, h⟩ := o_bind h
  refine w_invSNv (av := [.ref 93, .ref 27]) (st := []) 41 hX ms_yX11_copy mi_yX11_copy ml_X0_34 (C_copy s_93 s_27 (by decide) (by decide) (by decide) gu4) rfl (by decide) (Nat.le_of_ble_eq_true rfl) (Nat.le_refl _) (Nat.le_refl _) dX0_become_41 ?_
  refine w_aload_n 1 44 hX rfl rfl dX0_become_44 ?_
  refine w_getR 45 hX CI_0 s_89 rfl r_89_4 fl_X0_24 rfl dX0_become_45 ?_
  refine w_aload_n 0 48 hX rfl rfl dX0_become_48 ?_
  refine w_getR 49 hX CI_0 s_23 rfl r_23_4 fl_X0_24 rfl dX0_become_49 ?_
  obtain ⟨u5, gu5, h⟩ := o_bind h
  refine w_invSNv (av := [.ref 94, .ref 28]) (st := []) 52 hX ms_yX11_copy mi_yX11_copy ml_X0_34 (C_copy s_94 s_28 (by decide) (by decide) (by decide) gu5) rfl (by decide) (Nat.le_of_ble_eq_true rfl) (Nat.le_refl _) (Nat.le_refl _) dX0_become_52 ?_
  refine w_aload_n 1 55 hX rfl rfl dX0_become_55 ?_
  refine w_getR 56 hX CI_0 s_89 rfl r_89_5 fl_X0_27 rfl dX0_become_56 ?_
  refine w_aload_n 0 59 hX rfl rfl dX0_become_59 ?_
  refine w_getR 60 hX CI_0 s_23 rfl r_23_5 fl_X0_27 rfl dX0_become_60 ?_
  obtain ⟨u6, gu6, h⟩ := o_bind h
  refine w_invSNv (av := [.ref 95, .ref 29]) (st := []) 63 hX ms_yX11_copy mi_yX11_copy ml_X0_34 (C_copy s_95 s_29 (by decide) (by decide) (by decide) gu6) rfl (by decide) (Nat.le_of_ble_eq_true rfl) (Nat.le_refl _) (Nat.le_refl _) dX0_become_63 ?_
  refine w_aload_n 0 66 hX rfl rfl dX0_become_66 ?_
  refine w_aload_n 1 67 hX rfl rfl dX0_become_67 ?_
  refine w_getI (j := 6) 68 hX CI_0 s_89 rfl fl_X0_30 rfl dX0_become_68 ?_
  obtain ⟨u7, gu7, h⟩ := o_bind h
  refine w_putI (j := 6) 71 hX CI_0 s_23 rfl fl_X0_30 rfl rfl rfl rfl dX0_become_71 ?_
  rw [Option.some.inj gu7]
  refine w_aload_n 0 74 hX rfl rfl dX0_become_74 ?_
  refine w_aload_n 1 75 hX rfl rfl dX0_become_75 ?_
  refine w_getI (j := 7) 76 hX CI_0 s_89 rfl fl_X0_38 rfl dX0_become_76 ?_
  obtain ⟨u8, gu8, h⟩ := o_bind h
  refine w_putI (j := 7) 79 hX CI_0 s_23 rfl fl_X0_38 rfl rfl rfl rfl dX0_become_79 ?_
  rw [Option.some.inj gu8]
  refine w_aload_n 0 82 hX rfl rfl dX0_become_82 ?_
  refine w_aload_n 1 83 hX rfl rfl dX0_become_83 ?_
  refine w_getI (j := 8) 84 hX CI_0 s_89 rfl fl_X0_41 rfl dX0_become_84 ?_
  obtain ⟨u9, gu9, h⟩ := o_bind h
  refine w_putI (j := 8) 87 hX CI_0 s_23 rfl fl_X0_41 rfl rfl rfl rfl dX0_become_87 ?_
  rw [Option.some.inj gu9]
  refine w_aload_n 0 90 hX rfl rfl dX0_become_90 ?_
  refine w_aload_n 1 91 hX rfl rfl dX0_become_91 ?_
  refine w_getI (j := 9) 92 hX CI_0 s_89 rfl fl_X0_44 rfl dX0_become_92 ?_
  obtain ⟨u10, gu10, h⟩ := o_bind h
  refine w_putI (j := 9) 95 hX CI_0 s_23 rfl fl_X0_44 rfl rfl rfl rfl dX0_become_95 ?_
  rw [Option.some.inj gu10]
  exact w_vret 98 hX hR dX0_become_98 (by cases h; rfl))
def FX10_goBack_52_23 (u : Mem) : Option (Int32 × Mem) :=
  (rmI (((u 52 1) + 6) - 1) 6).bind fun x1 => (if (u 52 2) ≤ 0 then (some (0, u)) else ((if x1 < 0 then (some (0, u)) else ((if 6 ≤ x1 then (some (0, u)) else ((if x1 = 0 then ((FX0_become_23_54 u).bind fun u7 => (some (mupd u7 52 1 x1)).bind fun u8 => (some (mupd u8 52 2 ((u8 52 2) - 1))).bind fun u9 => some (1, u9)) else ((if x1 = 1 then ((FX0_become_23_61 u).bind fun u12 => (some (mupd u12 52 1 x1)).bind fun u13 => (some (mupd u13 52 2 ((u13 52 2) - 1))).bind fun u14 => some (1, u14)) else ((if x1 = 2 then ((FX0_become_23_68 u).bind fun u17 => (some (mupd u17 52 1 x1)).bind fun u18 => (some (mupd u18 52 2 ((u18 52 2) - 1))).bind fun u19 => some (1, u19)) else ((if x1 = 3 then ((FX0_become_23_75 u).bind fun u22 => (some (mupd u22 52 1 x1)).bind fun u23 => (some (mupd u23 52 2 ((u23 52 2) - 1))).bind fun u24 => some (1, u24)) else ((if x1 = 4 then ((FX0_become_23_82 u).bind fun u27 => (some (mupd u27 52 1 x1)).bind fun u28 => (some (mupd u28 52 2 ((u28 52 2) - 1))).bind fun u29 => some (1, u29)) else ((if x1 = 5 then ((FX0_become_23_89 u).bind fun u32 => (some (mupd u32 52 1 x1)).bind fun u33 => (some (mupd u33 52 2 ((u33 52 2) - 1))).bind fun u34 => some (1, u34)) else (none))))))))))))))))))
theorem CX10_goBack_52_23 {G : Gt} (u : Mem) {v : Int32} {u' : Mem} (h : FX10_goBack_52_23 u = some (v, u')) : CT G yX10_goBack cX10_goBack 3 (some .boolean) 4 [.ref 52, .ref 23] (SHg G) (RHg G) u (some (.int v), (SHg G), (RHg G), u') :=
  ct_of (by decide) rfl (Nat.le_of_ble_eq_true rfl) (Nat.le_refl _) (Nat.le_refl _) (fun X hX hR => by
  unfold FX10_goBack_52_23 at h
  refine w_aload_n 0 0 hX rfl rfl dX10_goBack_0 ?_
  refine w_getI (j := 1) 1 hX CI_10 s_52 rfl fl_X10_20 rfl dX10_goBack_1 ?_
  refine w_bipush 6 4 hX ib_6 dX10_goBack_4 ?_
  refine w_iadd 6 hX dX10_goBack_6 ?_
  refine w_iconst 1 7 hX ic_1 dX10_goBack_7 ?_
  refine w_isub 8 hX dX10_goBack_8 ?_
  refine w_bipush 6 9 hX ib_6 dX10_goBack_9 ?_
  obtain ⟨x1, gx1, h⟩ := o_bind h
  obtain ⟨qx1, jx1⟩ := rmI_ok gx1
  refine w_irem 11 hX qx1 dX10_goBack_11 ?_
  rw [jx1]
  refine w_istore_n (lv' := [(2, .int x1), (0, .ref 52), (1, .ref 23)]) 12 hX rfl dX10_goBack_12 (by decide) rfl ?_
  refine w_aload_n 1 13 hX rfl rfl dX10_goBack_13 ?_
  refine w_getI (j := 2) 14 hX CI_10 s_52 rfl fl_X10_16 rfl dX10_goBack_14 ?_
  refine w_if_le (tgt := 39) 17 hX dX10_goBack_17 (by decide) (fun c2 => ?_) (fun c2 => ?_)
  · have h := it h c2
    refine w_iconst 0 39 hX ic_0 dX10_goBack_39 ?_
    exact w_zret 40 hX hR (by decide) dX10_goBack_40 (by cases h; rfl)
  · have h := ie h c2
    refine w_iload_n 0 20 hX rfl rfl dX10_goBack_20 ?_
    refine w_if_lt (tgt := 39) 21 hX dX10_goBack_21 (by decide) (fun c3 => ?_) (fun c3 => ?_)
    · have h := it h c3
      refine w_iconst 0 39 hX ic_0 dX10_goBack_39 ?_
      exact w_zret 40 hX hR (by decide) dX10_goBack_40 (by cases h; rfl)
    · have h := ie h c3
      refine w_iload_n 0 24 hX rfl rfl dX10_goBack_24 ?_
      refine w_bipush 6 25 hX ib_6 dX10_goBack_25 ?_
      refine w_icmp_ge (tgt := 39) 27 hX dX10_goBack_27 (by decide) (fun c4 => ?_) (fun c4 => ?_)
      · have h := it h c4
        refine w_iconst 0 39 hX ic_0 dX10_goBack_39 ?_
        exact w_zret 40 hX hR (by decide) dX10_goBack_40 (by cases h; rfl)
      · have h := ie h c4
        refine w_aload_n 1 30 hX rfl rfl dX10_goBack_30 ?_
        refine w_getR 31 hX CI_10 s_52 rfl r_52_0 fl_X10_11 rfl dX10_goBack_31 ?_
        refine w_iload_n 0 34 hX rfl rfl dX10_goBack_34 ?_
        by_cases c5 : x1 = 0
        · have h := it h c5
          refine w_aald 35 hX s_53 (by rw [c5]; unfold vp_in; decide) (by rw [c5]; exact r_53_0) dX10_goBack_35 ?_
          refine w_ifnonnull (tgt := 41) 36 hX (by decide) dX10_goBack_36 ?_
          refine w_aload_n 2 41 hX rfl rfl dX10_goBack_41 ?_
          refine w_aload_n 1 42 hX rfl rfl dX10_goBack_42 ?_
          refine w_getR 43 hX CI_10 s_52 rfl r_52_0 fl_X10_11 rfl dX10_goBack_43 ?_
          refine w_iload_n 0 46 hX rfl rfl dX10_goBack_46 ?_
          refine w_aald 47 hX s_53 (by rw [c5]; unfold vp_in; decide) (by rw [c5]; exact r_53_0) dX10_goBack_47 ?_
          obtain ⟨u7, gu7, h⟩ := o_bind h
          refine w_invVv (av := [.ref 54]) (st := []) 48 hX CI_0 s_23 rfl mv_yX0_become mi_yX0_become ml_X10_23 (CX0_become_23_54 u gu7) rfl (by decide) (Nat.le_of_ble_eq_true rfl) (Nat.le_refl _) (Nat.le_refl _) dX10_goBack_48 ?_
          refine w_aload_n 1 51 hX rfl rfl dX10_goBack_51 ?_
          refine w_iload_n 0 52 hX rfl rfl dX10_goBack_52 ?_
          obtain ⟨u8, gu8, h⟩ := o_bind h
          refine w_putI (j := 1) 53 hX CI_10 s_52 rfl fl_X10_20 rfl rfl rfl rfl dX10_goBack_53 ?_
          rw [Option.some.inj gu8]
          refine w_aload_n 1 56 hX rfl rfl dX10_goBack_56 ?_
          refine w_dup 57 hX rfl dX10_goBack_57 ?_
          refine w_getI (j := 2) 58 hX CI_10 s_52 rfl fl_X10_16 rfl dX10_goBack_58 ?_
          refine w_iconst 1 61 hX ic_1 dX10_goBack_61 ?_
          refine w_isub 62 hX dX10_goBack_62 ?_
          obtain ⟨u9, gu9, h⟩ := o_bind h
          refine w_putI (j := 2) 63 hX CI_10 s_52 rfl fl_X10_16 rfl rfl rfl rfl dX10_goBack_63 ?_
          rw [Option.some.inj gu9]
          refine w_iconst 1 66 hX ic_1 dX10_goBack_66 ?_
          exact w_zret 67 hX hR (by decide) dX10_goBack_67 (by cases h; rfl)
        · have h := ie h c5
          by_cases c10 : x1 = 1
          · have h := it h c10
            refine w_aald 35 hX s_53 (by rw [c10]; unfold vp_in; decide) (by rw [c10]; exact r_53_1) dX10_goBack_35 ?_
            refine w_ifnonnull (tgt := 41) 36 hX (by decide) dX10_goBack_36 ?_
            refine w_aload_n 2 41 hX rfl rfl dX10_goBack_41 ?_
            refine w_aload_n 1 42 hX rfl rfl dX10_goBack_42 ?_
            refine w_getR 43 hX CI_10 s_52 rfl r_52_0 fl_X10_11 rfl dX10_goBack_43 ?_
            refine w_iload_n 0 46 hX rfl rfl dX10_goBack_46 ?_
            refine w_aald 47 hX s_53 (by rw [c10]; unfold vp_in; decide) (by rw [c10]; exact r_53_1) dX10_goBack_47 ?_
            obtain ⟨u12, gu12, h⟩ := o_bind h
            refine w_invVv (av := [.ref 61]) (st := []) 48 hX CI_0 s_23 rfl mv_yX0_become mi_yX0_become ml_X10_23 (CX0_become_23_61 u gu12) rfl (by decide) (Nat.le_of_ble_eq_true rfl) (Nat.le_refl _) (Nat.le_refl _) dX10_goBack_48 ?_
            refine w_aload_n 1 51 hX rfl rfl dX10_goBack_51 ?_
            refine w_iload_n 0 52 hX rfl rfl dX10_goBack_52 ?_
            obtain ⟨u13, gu13, h⟩ := o_bind h
            refine w_putI (j := 1) 53 hX CI_10 s_52 rfl fl_X10_20 rfl rfl rfl rfl dX10_goBack_53 ?_
            rw [Option.some.inj gu13]
            refine w_aload_n 1 56 hX rfl rfl dX10_goBack_56 ?_
            refine w_dup 57 hX rfl dX10_goBack_57 ?_
            refine w_getI (j := 2) 58 hX CI_10 s_52 rfl fl_X10_16 rfl dX10_goBack_58 ?_
            refine w_iconst 1 61 hX ic_1 dX10_goBack_61 ?_
            refine w_isub 62 hX dX10_goBack_62 ?_
            obtain ⟨u14, gu14, h⟩ := o_bind h
            refine w_putI (j := 2) 63 hX CI_10 s_52 rfl fl_X10_16 rfl rfl rfl rfl dX10_goBack_63 ?_
            rw [Option.some.inj gu14]
            refine w_iconst 1 66 hX ic_1 dX10_goBack_66 ?_
            exact w_zret 67 hX hR (by decide) dX10_goBack_67 (by cases h; rfl)
          · have h := ie h c10
            by_cases c15 : x1 = 2
            · have h := it h c15
              refine w_aald 35 hX s_53 (by rw [c15]; unfold vp_in; decide) (by rw [c15]; exact r_53_2) dX10_goBack_35 ?_
              refine w_ifnonnull (tgt := 41) 36 hX (by decide) dX10_goBack_36 ?_
              refine w_aload_n 2 41 hX rfl rfl dX10_goBack_41 ?_
              refine w_aload_n 1 42 hX rfl rfl dX10_goBack_42 ?_
              refine w_getR 43 hX CI_10 s_52 rfl r_52_0 fl_X10_11 rfl dX10_goBack_43 ?_
              refine w_iload_n 0 46 hX rfl rfl dX10_goBack_46 ?_
              refine w_aald 47 hX s_53 (by rw [c15]; unfold vp_in; decide) (by rw [c15]; exact r_53_2) dX10_goBack_47 ?_
              obtain ⟨u17, gu17, h⟩ := o_bind h
              refine w_invVv (av := [.ref 68]) (st := []) 48 hX CI_0 s_23 rfl mv_yX0_become mi_yX0_become ml_X10_23 (CX0_become_23_68 u gu17) rfl (by decide) (Nat.le_of_ble_eq_true rfl) (Nat.le_refl _) (Nat.le_refl _) dX10_goBack_48 ?_
              refine w_aload_n 1 51 hX rfl rfl dX10_goBack_51 ?_
              refine w_iload_n 0 52 hX rfl rfl dX10_goBack_52 ?_
              obtain ⟨u18, gu18, h⟩ := o_bind h
              refine w_putI (j := 1) 53 hX CI_10 s_52 rfl fl_X10_20 rfl rfl rfl rfl dX10_goBack_53 ?_
              rw [Option.some.inj gu18]
              refine w_aload_n 1 56 hX rfl rfl dX10_goBack_56 ?_
              refine w_dup 57 hX rfl dX10_goBack_57 ?_
              refine w_getI (j := 2) 58 hX CI_10 s_52 rfl fl_X10_16 rfl dX10_goBack_58 ?_
              refine w_iconst 1 61 hX ic_1 dX10_goBack_61 ?_
              refine w_isub 62 hX dX10_goBack_62 ?_
              obtain ⟨u19, gu19, h⟩ := o_bind h
              refine w_putI (j := 2) 63 hX CI_10 s_52 rfl fl_X10_16 rfl rfl rfl rfl dX10_goBack_63 ?_
              rw [Option.some.inj gu19]
              refine w_iconst 1 66 hX ic_1 dX10_goBack_66 ?_
              exact w_zret 67 hX hR (by decide) dX10_goBack_67 (by cases h; rfl)
            · have h := ie h c15
              by_cases c20 : x1 = 3
              · have h := it h c20
                refine w_aald 35 hX s_53 (by rw [c20]; unfold vp_in; decide) (by rw [c20]; exact r_53_3) dX10_goBack_35 ?_
                refine w_ifnonnull (tgt := 41) 36 hX (by decide) dX10_goBack_36 ?_
                refine w_aload_n 2 41 hX rfl rfl dX10_goBack_41 ?_
                refine w_aload_n 1 42 hX rfl rfl dX10_goBack_42 ?_
                refine w_getR 43 hX CI_10 s_52 rfl r_52_0 fl_X10_11 rfl dX10_goBack_43 ?_
                refine w_iload_n 0 46 hX rfl rfl dX10_goBack_46 ?_
                refine w_aald 47 hX s_53 (by rw [c20]; unfold vp_in; decide) (by rw [c20]; exact r_53_3) dX10_goBack_47 ?_
                obtain ⟨u22, gu22, h⟩ := o_bind h
                refine w_invVv (av := [.ref 75]) (st := []) 48 hX CI_0 s_23 rfl mv_yX0_become mi_yX0_become ml_X10_23 (CX0_become_23_75 u gu22) rfl (by decide) (Nat.le_of_ble_eq_true rfl) (Nat.le_refl _) (Nat.le_refl _) dX10_goBack_48 ?_
                refine w_aload_n 1 51 hX rfl rfl dX10_goBack_51 ?_
                refine w_iload_n 0 52 hX rfl rfl dX10_goBack_52 ?_
                obtain ⟨u23, gu23, h⟩ := o_bind h
                refine w_putI (j := 1) 53 hX CI_10 s_52 rfl fl_X10_20 rfl rfl rfl rfl dX10_goBack_53 ?_
                rw [Option.some.inj gu23]
                refine w_aload_n 1 56 hX rfl rfl dX10_goBack_56 ?_
                refine w_dup 57 hX rfl dX10_goBack_57 ?_
                refine w_getI (j := 2) 58 hX CI_10 s_52 rfl fl_X10_16 rfl dX10_goBack_58 ?_
                refine w_iconst 1 61 hX ic_1 dX10_goBack_61 ?_
                refine w_isub 62 hX dX10_goBack_62 ?_
                obtain ⟨u24, gu24, h⟩ := o_bind h
                refine w_putI (j := 2) 63 hX CI_10 s_52 rfl fl_X10_16 rfl rfl rfl rfl dX10_goBack_63 ?_
                rw [Option.some.inj gu24]
                refine w_iconst 1 66 hX ic_1 dX10_goBack_66 ?_
                exact w_zret 67 hX hR (by decide) dX10_goBack_67 (by cases h; rfl)
              · have h := ie h c20
                by_cases c25 : x1 = 4
                · have h := it h c25
                  refine w_aald 35 hX s_53 (by rw [c25]; unfold vp_in; decide) (by rw [c25]; exact r_53_4) dX10_goBack_35 ?_
                  refine w_ifnonnull (tgt := 41) 36 hX (by decide) dX10_goBack_36 ?_
                  refine w_aload_n 2 41 hX rfl rfl dX10_goBack_41 ?_
                  refine w_aload_n 1 42 hX rfl rfl dX10_goBack_42 ?_
                  refine w_getR 43 hX CI_10 s_52 rfl r_52_0 fl_X10_11 rfl dX10_goBack_43 ?_
                  refine w_iload_n 0 46 hX rfl rfl dX10_goBack_46 ?_
                  refine w_aald 47 hX s_53 (by rw [c25]; unfold vp_in; decide) (by rw [c25]; exact r_53_4) dX10_goBack_47 ?_
                  obtain ⟨u27, gu27, h⟩ := o_bind h
                  refine w_invVv (av := [.ref 82]) (st := []) 48 hX CI_0 s_23 rfl mv_yX0_become mi_yX0_become ml_X10_23 (CX0_become_23_82 u gu27) rfl (by decide) (Nat.le_of_ble_eq_true rfl) (Nat.le_refl _) (Nat.le_refl _) dX10_goBack_48 ?_
                  refine w_aload_n 1 51 hX rfl rfl dX10_goBack_51 ?_
                  refine w_iload_n 0 52 hX rfl rfl dX10_goBack_52 ?_
                  obtain ⟨u28, gu28, h⟩ := o_bind h
                  refine w_putI (j := 1) 53 hX CI_10 s_52 rfl fl_X10_20 rfl rfl rfl rfl dX10_goBack_53 ?_
                  rw [Option.some.inj gu28]
                  refine w_aload_n 1 56 hX rfl rfl dX10_goBack_56 ?_
                  refine w_dup 57 hX rfl dX10_goBack_57 ?_
                  refine w_getI (j := 2) 58 hX CI_10 s_52 rfl fl_X10_16 rfl dX10_goBack_58 ?_
                  refine w_iconst 1 61 hX ic_1 dX10_goBack_61 ?_
                  refine w_isub 62 hX dX10_goBack_62 ?_
                  obtain ⟨u29, gu29, h⟩ := o_bind h
                  refine w_putI (j := 2) 63 hX CI_10 s_52 rfl fl_X10_16 rfl rfl rfl rfl dX10_goBack_63 ?_
                  rw [Option.some.inj gu29]
                  refine w_iconst 1 66 hX ic_1 dX10_goBack_66 ?_
                  exact w_zret 67 hX hR (by decide) dX10_goBack_67 (by cases h; rfl)
                · have h := ie h c25
                  by_cases c30 : x1 = 5
                  · have h := it h c30
                    refine w_aald 35 hX s_53 (by rw [c30]; unfold vp_in; decide) (by rw [c30]; exact r_53_5) dX10_goBack_35 ?_
                    refine w_ifnonnull (tgt := 41) 36 hX (by decide) dX10_goBack_36 ?_
                    refine w_aload_n 2 41 hX rfl rfl dX10_goBack_41 ?_
                    refine w_aload_n 1 42 hX rfl rfl dX10_goBack_42 ?_
                    refine w_getR 43 hX CI_10 s_52 rfl r_52_0 fl_X10_11 rfl dX10_goBack_43 ?_
                    refine w_iload_n 0 46 hX rfl rfl dX10_goBack_46 ?_
                    refine w_aald 47 hX s_53 (by rw [c30]; unfold vp_in; decide) (by rw [c30]; exact r_53_5) dX10_goBack_47 ?_
                    obtain ⟨u32, gu32, h⟩ := o_bind h
                    refine w_invVv (av := [.ref 89]) (st := []) 48 hX CI_0 s_23 rfl mv_yX0_become mi_yX0_become ml_X10_23 (CX0_become_23_89 u gu32) rfl (by decide) (Nat.le_of_ble_eq_true rfl) (Nat.le_refl _) (Nat.le_refl _) dX10_goBack_48 ?_
                    refine w_aload_n 1 51 hX rfl rfl dX10_goBack_51 ?_
                    refine w_iload_n 0 52 hX rfl rfl dX10_goBack_52 ?_
                    obtain ⟨u33, gu33, h⟩ := o_bind h
                    refine w_putI (j := 1) 53 hX CI_10 s_52 rfl fl_X10_20 rfl rfl rfl rfl dX10_goBack_53 ?_
                    rw [Option.some.inj gu33]
                    refine w_aload_n 1 56 hX rfl rfl dX10_goBack_56 ?_
                    refine w_dup 57 hX rfl dX10_goBack_57 ?_
                    refine w_getI (j := 2) 58 hX CI_10 s_52 rfl fl_X10_16 rfl dX10_goBack_58 ?_
                    refine w_iconst 1 61 hX ic_1 dX10_goBack_61 ?_
                    refine w_isub 62 hX dX10_goBack_62 ?_
                    obtain ⟨u34, gu34, h⟩ := o_bind h
                    refine w_putI (j := 2) 63 hX CI_10 s_52 rfl fl_X10_16 rfl rfl rfl rfl dX10_goBack_63 ?_
                    rw [Option.some.inj gu34]
                    refine w_iconst 1 66 hX ic_1 dX10_goBack_66 ?_
                    exact w_zret 67 hX hR (by decide) dX10_goBack_67 (by cases h; rfl)
                  · have h := ie h c30
                    cases h)
def FX11_undo_0 (u : Mem) : Option (Int32 × Mem) :=
  bnd2 (FX10_goBack_52_23 u) fun x1 u2 => (bchk x1).bind fun x3 => some (x3, u2)
theorem CX11_undo_0 {G : Gt} (u : Mem) {v : Int32} {u' : Mem} (h : FX11_undo_0 u = some (v, u')) : CT G yX11_undo cX11_undo 1 (some .boolean) 5 [.ref 0] (SHg G) (RHg G) u (some (.int v), (SHg G), (RHg G), u') :=
  ct_of (by decide) rfl (Nat.le_of_ble_eq_true rfl) (Nat.le_refl _) (Nat.le_refl _) (fun X hX hR => by
  unfold FX11_undo_0 at h
  refine w_aload_n 0 0 hX rfl rfl dX11_undo_0 ?_
  refine w_getR 1 hX CI_11 s_0 rfl r_0_5 fl_X11_49 rfl dX11_undo_1 ?_
  refine w_aload_n 0 4 hX rfl rfl dX11_undo_4 ?_
  refine w_getR 5 hX CI_11 s_0 rfl r_0_1 fl_X11_19 rfl dX11_undo_5 ?_
  obtain ⟨x1, u2, gx1, h⟩ := o_bnd2 h
  refine w_invVi (av := [.ref 23]) (st := []) 8 hX CI_10 s_52 rfl mv_yX10_goBack mi_yX10_goBack ml_X11_267 (CX10_goBack_52_23 u gx1) rfl (by decide) (Nat.le_of_ble_eq_true rfl) (Nat.le_refl _) (Nat.le_refl _) dX11_undo_8 ?_
  obtain ⟨x3, gx3, h⟩ := o_bind h
  obtain ⟨jx3, nx3, mx3⟩ := bchk_ok gx3
  rw [jx3]
  exact w_zret 11 hX hR nx3 dX11_undo_11 (by cases h; rfl))
def FX11_look_0 (p1 : Int32) (u : Mem) : Option Int32 :=
  (if p1 = 0 then (some (u 1 0)) else ((if p1 = 1 then (some (u 23 7)) else ((if p1 = 2 then (some (u 23 6)) else ((if p1 = 3 then (some (u 1 7)) else ((if p1 = 4 then (some (u 1 8)) else ((if p1 = 5 then (some (u 1 9)) else ((if p1 = 6 then (some (u 1 10)) else ((if p1 = 7 then (some (u 23 9)) else ((if p1 = 8 then (some (u 23 8)) else ((if p1 = 9 then (some (u 8 7)) else ((if p1 = 10 then (some (u 1 11)) else ((if p1 = 11 then (some (u 1 12)) else ((if p1 = 12 then (some (u 15 3)) else ((if p1 = 13 then (some (u 19 3)) else ((if p1 = 14 then (some (u 52 2)) else (some (-1)))))))))))))))))))))))))))))))
theorem CX11_look_0 {G : Gt} (p1 : Int32) (u : Mem) {v : Int32} (h : FX11_look_0 p1 u = some v) : CT G yX11_look cX11_look 2 (some .int) 1 [.ref 0, .int p1] (SHg G) (RHg G) u (some (.int v), (SHg G), (RHg G), u) :=
  ct_of (by decide) rfl (Nat.le_of_ble_eq_true rfl) (Nat.le_refl _) (Nat.le_refl _) (fun X hX hR => by
  unfold FX11_look_0 at h
  refine w_iload_n 1 0 hX rfl rfl dX11_look_0 ?_
  by_cases c1 : p1 = 0
  · have h := it h c1
    refine w_tabIn (tgt := 76) (off := 75) 1 hX dX11_look_1 (by rw [c1]; decide) (by rw [c1]; decide) (by rw [c1]; decide) (by decide) ?_
    refine w_aload_n 0 76 hX rfl rfl dX11_look_76 ?_
    refine w_getR 77 hX CI_11 s_0 rfl r_0_0 fl_X11_10 rfl dX11_look_77 ?_
    refine w_getI (j := 0) 80 hX CI_9 s_1 rfl fl_X11_95 rfl dX11_look_80 ?_
    exact w_iret 83 hX hR dX11_look_83 (by cases h; rfl)
  · have h := ie h c1
    by_cases c2 : p1 = 1
    · have h := it h c2
      refine w_tabIn (tgt := 84) (off := 83) 1 hX dX11_look_1 (by rw [c2]; decide) (by rw [c2]; decide) (by rw [c2]; decide) (by decide) ?_
      refine w_aload_n 0 84 hX rfl rfl dX11_look_84 ?_
      refine w_getR 85 hX CI_11 s_0 rfl r_0_1 fl_X11_19 rfl dX11_look_85 ?_
      refine w_getI (j := 7) 88 hX CI_0 s_23 rfl fl_X11_153 rfl dX11_look_88 ?_
      exact w_iret 91 hX hR dX11_look_91 (by cases h; rfl)
    · have h := ie h c2
      by_cases c3 : p1 = 2
      · have h := it h c3
        refine w_tabIn (tgt := 92) (off := 91) 1 hX dX11_look_1 (by rw [c3]; decide) (by rw [c3]; decide) (by rw [c3]; decide) (by decide) ?_
        refine w_aload_n 0 92 hX rfl rfl dX11_look_92 ?_
        refine w_getR 93 hX CI_11 s_0 rfl r_0_1 fl_X11_19 rfl dX11_look_93 ?_
        refine w_getI (j := 6) 96 hX CI_0 s_23 rfl fl_X11_156 rfl dX11_look_96 ?_
        exact w_iret 99 hX hR dX11_look_99 (by cases h; rfl)
      · have h := ie h c3
        by_cases c4 : p1 = 3
        · have h := it h c4
          refine w_tabIn (tgt := 100) (off := 99) 1 hX dX11_look_1 (by rw [c4]; decide) (by rw [c4]; decide) (by rw [c4]; decide) (by decide) ?_
          refine w_aload_n 0 100 hX rfl rfl dX11_look_100 ?_
          refine w_getR 101 hX CI_11 s_0 rfl r_0_0 fl_X11_10 rfl dX11_look_101 ?_
          refine w_getI (j := 7) 104 hX CI_9 s_1 rfl fl_X11_280 rfl dX11_look_104 ?_
          exact w_iret 107 hX hR dX11_look_107 (by cases h; rfl)
        · have h := ie h c4
          by_cases c5 : p1 = 4
          · have h := it h c5
            refine w_tabIn (tgt := 108) (off := 107) 1 hX dX11_look_1 (by rw [c5]; decide) (by rw [c5]; decide) (by rw [c5]; decide) (by decide) ?_
            refine w_aload_n 0 108 hX rfl rfl dX11_look_108 ?_
            refine w_getR 109 hX CI_11 s_0 rfl r_0_0 fl_X11_10 rfl dX11_look_109 ?_
            refine w_getI (j := 8) 112 hX CI_9 s_1 rfl fl_X11_283 rfl dX11_look_112 ?_
            exact w_iret 115 hX hR dX11_look_115 (by cases h; rfl)
          · have h := ie h c5
            by_cases c6 : p1 = 5
            · have h := it h c6
              refine w_tabIn (tgt := 116) (off := 115) 1 hX dX11_look_1 (by rw [c6]; decide) (by rw [c6]; decide) (by rw [c6]; decide) (by decide) ?_
              refine w_aload_n 0 116 hX rfl rfl dX11_look_116 ?_
              refine w_getR 117 hX CI_11 s_0 rfl r_0_0 fl_X11_10 rfl dX11_look_117 ?_
              refine w_getI (j := 9) 120 hX CI_9 s_1 rfl fl_X11_286 rfl dX11_look_120 ?_
              exact w_iret 123 hX hR dX11_look_123 (by cases h; rfl)
            · have h := ie h c6
              by_cases c7 : p1 = 6
              · have h := it h c7
                refine w_tabIn (tgt := 124) (off := 123) 1 hX dX11_look_1 (by rw [c7]; decide) (by rw [c7]; decide) (by rw [c7]; decide) (by decide) ?_
                refine w_aload_n 0 124 hX rfl rfl dX11_look_124 ?_
                refine w_getR 125 hX CI_11 s_0 rfl r_0_0 fl_X11_10 rfl dX11_look_125 ?_
                refine w_getI (j := 10) 128 hX CI_9 s_1 rfl fl_X11_289 rfl dX11_look_128 ?_
                exact w_iret 131 hX hR dX11_look_131 (by cases h; rfl)
              · have h := ie h c7
                by_cases c8 : p1 = 7
                · have h := it h c8
                  refine w_tabIn (tgt := 132) (off := 131) 1 hX dX11_look_1 (by rw [c8]; decide) (by rw [c8]; decide) (by rw [c8]; decide) (by decide) ?_
                  refine w_aload_n 0 132 hX rfl rfl dX11_look_132 ?_
                  refine w_getR 133 hX CI_11 s_0 rfl r_0_1 fl_X11_19 rfl dX11_look_133 ?_
                  refine w_getI (j := 9) 136 hX CI_0 s_23 rfl fl_X11_210 rfl dX11_look_136 ?_
                  exact w_iret 139 hX hR dX11_look_139 (by cases h; rfl)
                · have h := ie h c8
                  by_cases c9 : p1 = 8
                  · have h := it h c9
                    refine w_tabIn (tgt := 140) (off := 139) 1 hX dX11_look_1 (by rw [c9]; decide) (by rw [c9]; decide) (by rw [c9]; decide) (by decide) ?_
                    refine w_aload_n 0 140 hX rfl rfl dX11_look_140 ?_
                    refine w_getR 141 hX CI_11 s_0 rfl r_0_1 fl_X11_19 rfl dX11_look_141 ?_
                    refine w_getI (j := 8) 144 hX CI_0 s_23 rfl fl_X11_84 rfl dX11_look_144 ?_
                    exact w_iret 147 hX hR dX11_look_147 (by cases h; rfl)
                  · have h := ie h c9
                    by_cases c10 : p1 = 9
                    · have h := it h c10
                      refine w_tabIn (tgt := 148) (off := 147) 1 hX dX11_look_1 (by rw [c10]; decide) (by rw [c10]; decide) (by rw [c10]; decide) (by decide) ?_
                      refine w_aload_n 0 148 hX rfl rfl dX11_look_148 ?_
                      refine w_getR 149 hX CI_11 s_0 rfl r_0_0 fl_X11_10 rfl dX11_look_149 ?_
                      refine w_getR 152 hX CI_9 s_1 rfl r_1_13 fl_X11_292 rfl dX11_look_152 ?_
                      refine w_getI (j := 7) 155 hX CI_4 s_8 rfl fl_X11_296 rfl dX11_look_155 ?_
                      exact w_iret 158 hX hR dX11_look_158 (by cases h; rfl)
                    · have h := ie h c10
                      by_cases c11 : p1 = 10
                      · have h := it h c11
                        refine w_tabIn (tgt := 159) (off := 158) 1 hX dX11_look_1 (by rw [c11]; decide) (by rw [c11]; decide) (by rw [c11]; decide) (by decide) ?_
                        refine w_aload_n 0 159 hX rfl rfl dX11_look_159 ?_
                        refine w_getR 160 hX CI_11 s_0 rfl r_0_0 fl_X11_10 rfl dX11_look_160 ?_
                        refine w_getI (j := 11) 163 hX CI_9 s_1 rfl fl_X11_299 rfl dX11_look_163 ?_
                        exact w_iret 166 hX hR dX11_look_166 (by cases h; rfl)
                      · have h := ie h c11
                        by_cases c12 : p1 = 11
                        · have h := it h c12
                          refine w_tabIn (tgt := 167) (off := 166) 1 hX dX11_look_1 (by rw [c12]; decide) (by rw [c12]; decide) (by rw [c12]; decide) (by decide) ?_
                          refine w_aload_n 0 167 hX rfl rfl dX11_look_167 ?_
                          refine w_getR 168 hX CI_11 s_0 rfl r_0_0 fl_X11_10 rfl dX11_look_168 ?_
                          refine w_getI (j := 12) 171 hX CI_9 s_1 rfl fl_X11_302 rfl dX11_look_171 ?_
                          exact w_iret 174 hX hR dX11_look_174 (by cases h; rfl)
                        · have h := ie h c12
                          by_cases c13 : p1 = 12
                          · have h := it h c13
                            refine w_tabIn (tgt := 175) (off := 174) 1 hX dX11_look_1 (by rw [c13]; decide) (by rw [c13]; decide) (by rw [c13]; decide) (by decide) ?_
                            refine w_aload_n 0 175 hX rfl rfl dX11_look_175 ?_
                            refine w_getR 176 hX CI_11 s_0 rfl r_0_0 fl_X11_10 rfl dX11_look_176 ?_
                            refine w_getR 179 hX CI_9 s_1 rfl r_1_14 fl_X11_201 rfl dX11_look_179 ?_
                            refine w_getI (j := 3) 182 hX CI_5 s_15 rfl fl_X11_305 rfl dX11_look_182 ?_
                            exact w_iret 185 hX hR dX11_look_185 (by cases h; rfl)
                          · have h := ie h c13
                            by_cases c14 : p1 = 13
                            · have h := it h c14
                              refine w_tabIn (tgt := 186) (off := 185) 1 hX dX11_look_1 (by rw [c14]; decide) (by rw [c14]; decide) (by rw [c14]; decide) (by decide) ?_
                              refine w_aload_n 0 186 hX rfl rfl dX11_look_186 ?_
                              refine w_getR 187 hX CI_11 s_0 rfl r_0_0 fl_X11_10 rfl dX11_look_187 ?_
                              refine w_getR 190 hX CI_9 s_1 rfl r_1_15 fl_X11_241 rfl dX11_look_190 ?_
                              refine w_getI (j := 3) 193 hX CI_8 s_19 rfl fl_X11_306 rfl dX11_look_193 ?_
                              exact w_iret 196 hX hR dX11_look_196 (by cases h; rfl)
                            · have h := ie h c14
                              by_cases c15 : p1 = 14
                              · have h := it h c15
                                refine w_tabIn (tgt := 197) (off := 196) 1 hX dX11_look_1 (by rw [c15]; decide) (by rw [c15]; decide) (by rw [c15]; decide) (by decide) ?_
                                refine w_aload_n 0 197 hX rfl rfl dX11_look_197 ?_
                                refine w_getR 198 hX CI_11 s_0 rfl r_0_5 fl_X11_49 rfl dX11_look_198 ?_
                                refine w_getI (j := 2) 201 hX CI_10 s_52 rfl fl_X11_309 rfl dX11_look_201 ?_
                                exact w_iret 204 hX hR dX11_look_204 (by cases h; rfl)
                              · have h := ie h c15
                                have zc1 := lv_neT c1 (a := 0) (by decide)
                                have zc2 := lv_neT c2 (a := 1) (by decide)
                                have zc3 := lv_neT c3 (a := 2) (by decide)
                                have zc4 := lv_neT c4 (a := 3) (by decide)
                                have zc5 := lv_neT c5 (a := 4) (by decide)
                                have zc6 := lv_neT c6 (a := 5) (by decide)
                                have zc7 := lv_neT c7 (a := 6) (by decide)
                                have zc8 := lv_neT c8 (a := 7) (by decide)
                                have zc9 := lv_neT c9 (a := 8) (by decide)
                                have zc10 := lv_neT c10 (a := 9) (by decide)
                                have zc11 := lv_neT c11 (a := 10) (by decide)
                                have zc12 := lv_neT c12 (a := 11) (by decide)
                                have zc13 := lv_neT c13 (a := 12) (by decide)
                                have zc14 := lv_neT c14 (a := 13) (by decide)
                                have zc15 := lv_neT c15 (a := 14) (by decide)
                                refine w_tabOut (tgt := 205) 1 hX dX11_look_1 (by omega) (by decide) ?_
                                refine w_iconst (-1) 205 hX ic_m1 dX11_look_205 ?_
                                exact w_iret 206 hX hR dX11_look_206 (by cases h; rfl))
