def FX0_become_23_82 (u : Mem) : Option Mem :=
  (some (cpM u 83 24 12)).bind fun u1 => (some (cpM u1 84 25 12)).bind fun u2 => (some (cpM u2 85 26 12)).bind fun u3 => (some (cpM u3 86 27 12)).bind fun u4 => (some (cpM u4 87 28 12)).bind fun u5 => (some (cpM u5 88 29 12)).bind fun u6 => (some (mupd u6 23 6 (u6 82 6))).bind fun u7 => (some (mupd u7 23 7 (u7 82 7))).bind fun u8 => (some (mupd u8 23 8 (u8 82 8))).bind fun u9 => (some (mupd u9 23 9 (u9 82 9))).bind fun u10 => some u10
theorem CX0_become_23_82 {G : Gt} (u : Mem) {u' : Mem} (h : FX0_become_23_82 u = some u') : CT G yX0_become cX0_become 2 none 3 [.ref 23, .ref 82] SH RHO u (none, SH, RHO, u') :=
  ct_of (by decide) rfl (Nat.le_of_ble_eq_true rfl) (Nat.le_refl _) (Nat.le_refl _) (fun X hX hR => by
  unfold FX0_become_23_82 at h
  refine w_aload_n 1 0 hX rfl rfl dX0_become_0 ?_
  refine w_getR 1 hX CI_0 s_82 rfl r_82_0 fl_X0_9 rfl dX0_become_1 ?_
  refine w_aload_n 0 4 hX rfl rfl dX0_become_4 ?_
  refine w_getR 5 hX CI_0 s_23 rfl r_23_0 fl_X0_9 rfl dX0_become_5 ?_
  obtain ⟨u1, gu1, h⟩ := o_bind h
  refine w_invSNv (av := [.ref 83, .ref 24]) (st := []) 8 hX ms_yX11_copy mi_yX11_copy ml_X0_34 (C_copy s_83 s_24 (by decide) (by decide) (by decide) gu1) rfl (by decide) (Nat.le_of_ble_eq_true rfl) (Nat.le_refl _) (Nat.le_refl _) dX0_become_8 ?_
  refine w_aload_n 1 11 hX rfl rfl dX0_become_11 ?_
  refine w_getR 12 hX CI_0 s_82 rfl r_82_1 fl_X0_15 rfl dX0_become_12 ?_
  refine w_aload_n 0 15 hX rfl rfl dX0_become_15 ?_
  refine w_getR 16 hX CI_0 s_23 rfl r_23_1 fl_X0_15 rfl dX0_become_16 ?_
  obtain ⟨u2, gu2, h⟩ := o_bind h
  refine w_invSNv (av := [.ref 84, .ref 25]) (st := []) 19 hX ms_yX11_copy mi_yX11_copy ml_X0_34 (C_copy s_84 s_25 (by decide) (by decide) (by decide) gu2) rfl (by decide) (Nat.le_of_ble_eq_true rfl) (Nat.le_refl _) (Nat.le_refl _) dX0_become_19 ?_
  refine w_aload_n 1 22 hX rfl rfl dX0_become_22 ?_
  refine w_getR 23 hX CI_0 s_82 rfl r_82_2 fl_X0_18 rfl dX0_become_23 ?_
  refine w_aload_n 0 26 hX rfl rfl dX0_become_26 ?_
  refine w_getR 27 hX CI_0 s_23 rfl r_23_2 fl_X0_18 rfl dX0_become_27 ?_
  obtain ⟨u3, gu3, h⟩ := o_bind h
  refine w_invSNv (av := [.ref 85, .ref 26]) (st := []) 30 hX ms_yX11_copy mi_yX11_copy ml_X0_34 (C_copy s_85 s_26 (by decide) (by decide) (by decide) gu3) rfl (by decide) (Nat.le_of_ble_eq_true rfl) (Nat.le_refl _) (Nat.le_refl _) dX0_become_30 ?_
  refine w_aload_n 1 33 hX rfl rfl dX0_become_33 ?_
  refine w_getR 34 hX CI_0 s_82 rfl r_82_3 fl_X0_21 rfl dX0_become_34 ?_
  refine w_aload_n 0 37 hX rfl rfl dX0_become_37 ?_
  refine w_getR 38 hX CI_0 s_23 rfl r_23_3 fl_X0_21 rfl dX0_become_38 ?_
  obtain ⟨u4, gu4, h⟩ := o_bind h
  refine w_invSNv (av := [.ref 86, .ref 27]) (st := []) 41 hX ms_yX11_copy mi_yX11_copy ml_X0_34 (C_copy s_86 s_27 (by decide) (by decide) (by decide) gu4) rfl (by decide) (Nat.le_of_ble_eq_true rfl) (Nat.le_refl _) (Nat.le_refl _) dX0_become_41 ?_
  refine w_aload_n 1 44 hX rfl rfl dX0_become_44 ?_
  refine w_getR 45 hX CI_0 s_82 rfl r_82_4 fl_X0_24 rfl dX0_become_45 ?_
  refine w_aload_n 0 48 hX rfl rfl dX0_become_48 ?_
  refine w_getR 49 hX CI_0 s_23 rfl r_23_4 fl_X0_24 rfl dX0_become_49 ?_
  obtain ⟨u5, gu5, h⟩ := o_bind h
  refine w_invSNv (av := [.ref 87, .ref 28]) (st := []) 52 hX ms_yX11_copy mi_yX11_copy ml_X0_34 (C_copy s_87 s_28 (by decide) (by decide) (by decide) gu5) rfl (by decide) (Nat.le_of_ble_eq_true rfl) (Nat.le_refl _) (Nat.le_refl _) dX0_become_52 ?_
  refine w_aload_n 1 55 hX rfl rfl dX0_become_55 ?_
  refine w_getR 56 hX CI_0 s_82 rfl r_82_5 fl_X0_27 rfl dX0_become_56 ?_
  refine w_aload_n 0 59 hX rfl rfl dX0_become_59 ?_
  refine w_getR 60 hX CI_0 s_23 rfl r_23_5 fl_X0_27 rfl dX0_become_60 ?_
  obtain ⟨u6, gu6, h⟩ := o_bind h
  refine w_invSNv (av := [.ref 88, .ref 29]) (st := []) 63 hX ms_yX11_copy mi_yX11_copy ml_X0_34 (C_copy s_88 s_29 (by decide) (by decide) (by decide) gu6) rfl (by decide) (Nat.le_of_ble_eq_true rfl) (Nat.le_refl _) (Nat.le_refl _) dX0_become_63 ?_
  refine w_aload_n 0 66 hX rfl rfl dX0_become_66 ?_
  refine w_aload_n 1 67 hX rfl rfl dX0_become_67 ?_
  refine w_getI (j := 6) 68 hX CI_0 s_82 rfl fl_X0_30 rfl dX0_become_68 ?_
  obtain ⟨u7, gu7, h⟩ := o_bind h
  refine w_putI (j := 6) 71 hX CI_0 s_23 rfl fl_X0_30 rfl rfl rfl rfl dX0_become_71 ?_
  rw [Option.some.inj gu7]
  refine w_aload_n 0 74 hX rfl rfl dX0_become_74 ?_
  refine w_aload_n 1 75 hX rfl rfl dX0_become_75 ?_
  refine w_getI (j := 7) 76 hX CI_0 s_82 rfl fl_X0_38 rfl dX0_become_76 ?_
  obtain ⟨u8, gu8, h⟩ := o_bind h
  refine w_putI (j := 7) 79 hX CI_0 s_23 rfl fl_X0_38 rfl rfl rfl rfl dX0_become_79 ?_
  rw [Option.some.inj gu8]
  refine w_aload_n 0 82 hX rfl rfl dX0_become_82 ?_
  refine w_aload_n 1 83 hX rfl rfl dX0_become_83 ?_
  refine w_getI (j := 8) 84 hX CI_0 s_82 rfl fl_X0_41 rfl dX0_become_84 ?_
  obtain ⟨u9, gu9, h⟩ := o_bind h
  refine w_putI (j := 8) 87 hX CI_0 s_23 rfl fl_X0_41 rfl rfl rfl rfl dX0_become_87 ?_
  rw [Option.some.inj gu9]
  refine w_aload_n 0 90 hX rfl rfl dX0_become_90 ?_
  refine w_aload_n 1 91 hX rfl rfl dX0_become_91 ?_
  refine w_getI (j := 9) 92 hX CI_0 s_82 rfl fl_X0_44 rfl dX0_become_92 ?_
  obtain ⟨u10, gu10, h⟩ := o_bind h
  refine w_putI (j := 9) 95 hX CI_0 s_23 rfl fl_X0_44 rfl rfl rfl rfl dX0_become_95 ?_
  rw [Option.some.inj gu10]
  exact w_vret 98 hX hR dX0_become_98 (by cases h; rfl))
def FX0_become_23_89 (u : Mem) : Option Mem :=
  (some (cpM u 90 24 12)).bind fun u1 => (some (cpM u1 91 25 12)).bind fun u2 => (some (cpM u2 92 26 12)).bind fun u3 => (some (cpM u3 93 27 12)).bind fun u4 => (some (cpM u4 94 28 12)).bind fun u5 => (some (cpM u5 95 29 12)).bind fun u6 => (some (mupd u6 23 6 (u6 89 6))).bind fun u7 => (some (mupd u7 23 7 (u7 89 7))).bind fun u8 => (some (mupd u8 23 8 (u8 89 8))).bind fun u9 => (some (mupd u9 23 9 (u9 89 9))).bind fun u10 => some u10
theorem CX0_become_23_89 {G : Gt} (u : Mem) {u' : Mem} (h : FX0_become_23_89 u = some u') : CT G yX0_become cX0_become 2 none 3 [.ref 23, .ref 89] SH RHO u (none, SH, RHO, u') :=
  ct_of (by decide) rfl (Nat.le_of_ble_eq_true rfl) (Nat.le_refl _) (Nat.le_refl _) (fun X hX hR => by
  unfold FX0_become_23_89 at h
  refine w_aload_n 1 0 hX rfl rfl dX0_become_0 ?_
  refine w_getR 1 hX CI_0 s_89 rfl r_89_0 fl_X0_9 rfl dX0_become_1 ?_
  refine w_aload_n 0 4 hX rfl rfl dX0_become_4 ?_
  refine w_getR 5 hX CI_0 s_23 rfl r_23_0 fl_X0_9 rfl dX0_become_5 ?_
  obtain ⟨u1, gu1, h⟩ := o_bind h
  refine w_invSNv (av := [.ref 90, .ref 24]) (st := []) 8 hX ms_yX11_copy mi_yX11_copy ml_X0_34 (C_copy s_90 s_24 (by decide) (by decide) (by decide) gu1) rfl (by decide) (Nat.le_of_ble_eq_true rfl) (Nat.le_refl _) (Nat.le_refl _) dX0_become_8 ?_
  refine w_aload_n 1 11 hX rfl rfl dX0_become_11 ?_
  refine w_getR 12 hX CI_0 s_89 rfl r_89_1 fl_X0_15 rfl dX0_become_12 ?_
  refine w_aload_n 0 15 hX rfl rfl dX0_become_15 ?_
  refine w_getR 16 hX CI_0 s_23 rfl r_23_1 fl_X0_15 rfl dX0_become_16 ?_
  obtain ⟨u2, gu2, h⟩ := o_bind h
  refine w_invSNv (av := [.ref 91, .ref 25]) (st := []) 19 hX ms_yX11_copy mi_yX11_copy ml_X0_34 (C_copy s_91 s_25 (by decide) (by decide) (by decide) gu2) rfl (by decide) (Nat.le_of_ble_eq_true rfl) (Nat.le_refl _) (Nat.le_refl _) dX0_become_19 ?_
  refine w_aload_n 1 22 hX rfl rfl dX0_become_22 ?_
  refine w_getR 23 hX CI_0 s_89 rfl r_89_2 fl_X0_18 rfl dX0_become_23 ?_
  refine w_aload_n 0 26 hX rfl rfl dX0_become_26 ?_
  refine w_getR 27 hX CI_0 s_23 rfl r_23_2 fl_X0_18 rfl dX0_become_27 ?_
  obtain ⟨u3, gu3, h⟩ := o_bind h
  refine w_invSNv (av := [.ref 92, .ref 26]) (st := []) 30 hX ms_yX11_copy mi_yX11_copy ml_X0_34 (C_copy s_92 s_26 (by decide) (by decide) (by decide) gu3) rfl (by decide) (Nat.le_of_ble_eq_true rfl) (Nat.le_refl _) (Nat.le_refl _) dX0_become_30 ?_
  refine w_aload_n 1 33 hX rfl rfl dX0_become_33 ?_
  refine w_getR 34 hX CI_0 s_89 rfl r_89_3 fl_X0_21 rfl dX0_become_34 ?_
  refine w_aload_n 0 37 hX rfl rfl dX0_become_37 ?_
  refine w_getR 38 hX CI_0 s_23 rfl r_23_3 fl_X0_21 rfl dX0_become_38 ?_
  obtain ⟨u4, gu4, h⟩ := o_bind h
  refine w_invSNv (av := [.ref 93, .ref 27]) (st := []) 41 hX ms_yX11_copy mi_yX11_copy ml_X0_34 (C_copy s_93 s_27 (by decide) (by decide) (by decide) gu4) rfl (by decide) (Nat.le_of_ble_eq_true rfl) (Nat.le_refl _) (Nat.le_refl _) dX0_become_41 ?_
  refine w_aload_n 1 44 hX rfl rfl dX0_become_44 ?_
  refine w_getR 45 hX CI_0 s_89 rfl r_89_4 fl_X0_24 rfl dX0_become_45 ?_
  refine w_aload_n 0 48 hX rfl rfl dX0_become_48 ?_
  refine w_getR 49 hX CI_0 s_23 rfl r_23_4 fl_X0_24 rfl dX0_become_49 ?_
  obtain ⟨u5, gu5, h⟩ := o_bind h
  refine w_invSNv (av := [.ref 94, .ref 28]) (st := []) 52 hX ms_yX11_copy mi_yX11_copy ml_X0_34 (C_copy s_94 s_28 (by decide) (by decide) (by decide) gu5) rfl (by decide) (Nat.le_of_ble_eq_true rfl) (Nat.le_refl _) (Nat.le_refl _) dX0_become_52 ?_
  refine w_aload_n 1 55 hX rfl rfl dX0_become_55 ?_
  refine w_getR 56 hX CI_0 s_89 rfl r_89_5 fl_X0_27 rfl dX0_become_56 ?_
  refine w_aload_n 0 59 hX rfl rfl dX0_become_59 ?_
  refine w_getR 60 hX CI_0 s_23 rfl r_23_5 fl_X0_27 rfl dX0_become_60 ?_
  obtain ⟨u6, gu6, h⟩ := o_bind h
  refine w_invSNv (av := [.ref 95, .ref 29]) (st := []) 63 hX ms_yX11_copy mi_yX11_copy ml_X0_34 (C_copy s_95 s_29 (by decide) (by decide) (by decide) gu6) rfl (by decide) (Nat.le_of_ble_eq_true rfl) (Nat.le_refl _) (Nat.le_refl _) dX0_become_63 ?_
  refine w_aload_n 0 66 hX rfl rfl dX0_become_66 ?_
  refine w_aload_n 1 67 hX rfl rfl dX0_become_67 ?_
  refine w_getI (j := 6) 68 hX CI_0 s_89 rfl fl_X0_30 rfl dX0_become_68 ?_
  obtain ⟨u7, gu7, h⟩ := o_bind h
  refine w_putI (j := 6) 71 hX CI_0 s_23 rfl fl_X0_30 rfl rfl rfl rfl dX0_become_71 ?_
  rw [Option.some.inj gu7]
  refine w_aload_n 0 74 hX rfl rfl dX0_become_74 ?_
  refine w_aload_n 1 75 hX rfl rfl dX0_become_75 ?_
  refine w_getI (j := 7) 76 hX CI_0 s_89 rfl fl_X0_38 rfl dX0_become_76 ?_
  obtain ⟨u8, gu8, h⟩ := o_bind h
  refine w_putI (j := 7) 79 hX CI_0 s_23 rfl fl_X0_38 rfl rfl rfl rfl dX0_become_79 ?_
  rw [Option.some.inj gu8]
  refine w_aload_n 0 82 hX rfl rfl dX0_become_82 ?_
  refine w_aload_n 1 83 hX rfl rfl dX0_become_83 ?_
  refine w_getI (j := 8) 84 hX CI_0 s_89 rfl fl_X0_41 rfl dX0_become_84 ?_
  obtain ⟨u9, gu9, h⟩ := o_bind h
  refine w_putI (j := 8) 87 hX CI_0 s_23 rfl fl_X0_41 rfl rfl rfl rfl dX0_become_87 ?_
  rw [Option.some.inj gu9]
  refine w_aload_n 0 90 hX rfl rfl dX0_become_90 ?_
  refine w_aload_n 1 91 hX rfl rfl dX0_become_91 ?_
  refine w_getI (j := 9) 92 hX CI_0 s_89 rfl fl_X0_44 rfl dX0_become_92 ?_
  obtain ⟨u10, gu10, h⟩ := o_bind h
  refine w_putI (j := 9) 95 hX CI_0 s_23 rfl fl_X0_44 rfl rfl rfl rfl dX0_become_95 ?_
  rw [Option.some.inj gu10]
  exact w_vret 98 hX hR dX0_become_98 (by cases h; rfl))
def FX10_goBack_52_23 (u : Mem) : Option (Int32 × Mem) :=
  (rmI (((u 52 1) + 6) - 1) 6).bind fun x1 => (if (u 52 2) ≤ 0 then (some (0, u)) else ((if x1 < 0 then (some (0, u)) else ((if 6 ≤ x1 then (some (0, u)) else ((if x1 = 0 then ((FX0_become_23_54 u).bind fun u7 => (some (mupd u7 52 1 x1)).bind fun u8 => (some (mupd u8 52 2 ((u8 52 2) - 1))).bind fun u9 => some (1, u9)) else ((if x1 = 1 then ((FX0_become_23_61 u).bind fun u12 => (some (mupd u12 52 1 x1)).bind fun u13 => (some (mupd u13 52 2 ((u13 52 2) - 1))).bind fun u14 => some (1, u14)) else ((if x1 = 2 then ((FX0_become_23_68 u).bind fun u17 => (some (mupd u17 52 1 x1)).bind fun u18 => (some (mupd u18 52 2 ((u18 52 2) - 1))).bind fun u19 => some (1, u19)) else ((if x1 = 3 then ((FX0_become_23_75 u).bind fun u22 => (some (mupd u22 52 1 x1)).bind fun u23 => (some (mupd u23 52 2 ((u23 52 2) - 1))).bind fun u24 => some (1, u24)) else ((if x1 = 4 then ((FX0_become_23_82 u).bind fun u27 => (some (mupd u27 52 1 x1)).bind fun u28 => (some (mupd u28 52 2 ((u28 52 2) - 1))).bind fun u29 => some (1, u29)) else ((if x1 = 5 then ((FX0_become_23_89 u).bind fun u32 => (some (mupd u32 52 1 x1)).bind fun u33 => (some (mupd u33 52 2 ((u33 52 2) - 1))).bind fun u34 => some (1, u34)) else (none))))))))))))))))))
theorem CX10_goBack_52_23 {G : Gt} (u : Mem) {v : Int32} {u' : Mem} (h : FX10_goBack_52_23 u = some (v, u')) : CT G yX10_goBack cX10_goBack 3 (some .boolean) 4 [.ref 52, .ref 23] SH RHO u (some (.int v), SH, RHO, u') :=
  ct_of (by decide) rfl (Nat.le_of_ble_eq_true rfl) (Nat.le_refl _) (Nat.le_refl _) (fun X hX hR => by
  unfold FX10_goBack_52_23 at h
  refine w_aload_n 0 0 hX rfl rfl dX10_goBack_0 ?_
  refine w_getI (j := 1) 1 hX CI_10 s_52 rfl fl_X10_20 rfl dX10_goBack_1 ?_
  refine w_bipush 6 4 hX ib_6 dX10_goBack_4 ?_
  refine w_iadd 6 hX dX10_goBack_6 ?_
  refine w_iconst 1 7 hX ic_1 dX10_goBack_7 ?_
  refine w_isub 8 hX dX10_goBack_8 ?_
  refine w_bipush 6 9 hX ib_6 dX10_goBack_9 ?_
  obtain ⟨x1, gx1, h⟩ := o_bind h
  obtain ⟨qx1, jx1⟩ := rmI_ok gx1
  refine w_irem 11 hX qx1 dX10_goBack_11 ?_
  rw [jx1]
  refine w_istore_n (lv' := [(2, .int x1), (0, .ref 52), (1, .ref 23)]) 12 hX rfl dX10_goBack_12 (by decide) rfl ?_
  refine w_aload_n 1 13 hX rfl rfl dX10_goBack_13 ?_
  refine w_getI (j := 2) 14 hX CI_10 s_52 rfl fl_X10_16 rfl dX10_goBack_14 ?_
  refine w_if_le (tgt := 39) 17 hX dX10_goBack_17 (by decide) (fun c2 => ?_) (fun c2 => ?_)
  · have h := it h c2
    refine w_iconst 0 39 hX ic_0 dX10_goBack_39 ?_
    exact w_zret 40 hX hR (by decide) dX10_goBack_40 (by cases h; rfl)
  · have h := ie h c2
    refine w_iload_n 0 20 hX rfl rfl dX10_goBack_20 ?_
    refine w_if_lt (tgt := 39) 21 hX dX10_goBack_21 (by decide) (fun c3 => ?_) (fun c3 => ?_)
    · have h := it h c3
      refine w_iconst 0 39 hX ic_0 dX10_goBack_39 ?_
      exact w_zret 40 hX hR (by decide) dX10_goBack_40 (by cases h; rfl)
    · have h := ie h c3
      refine w_iload_n 0 24 hX rfl rfl dX10_goBack_24 ?_
      refine w_bipush 6 25 hX ib_6 dX10_goBack_25 ?_
      refine w_icmp_ge (tgt := 39) 27 hX dX10_goBack_27 (by decide) (fun c4 => ?_) (fun c4 => ?_)
      · have h := it h c4
        refine w_iconst 0 39 hX ic_0 dX10_goBack_39 ?_
        exact w_zret 40 hX hR (by decide) dX10_goBack_40 (by cases h; rfl)
      · have h := ie h c4
        refine w_aload_n 1 30 hX rfl rfl dX10_goBack_30 ?_
        refine w_getR 31 hX CI_10 s_52 rfl r_52_0 fl_X10_11 rfl dX10_goBack_31 ?_
        refine w_iload_n 0 34 hX rfl rfl dX10_goBack_34 ?_
        by_cases c5 : x1 = 0
        · have h := it h c5
          refine w_aald 35 hX s_53 (by rw [c5]; unfold vp_in; decide) (by rw [c5]; exact r_53_0) dX10_goBack_35 ?_
          refine w_ifnonnull (tgt := 41) 36 hX (by decide) dX10_goBack_36 ?_
          refine w_aload_n 2 41 hX rfl rfl dX10_goBack_41 ?_
          refine w_aload_n 1 42 hX rfl rfl dX10_goBack_42 ?_
          refine w_getR 43 hX CI_10 s_52 rfl r_52_0 fl_X10_11 rfl dX10_goBack_43 ?_
          refine w_iload_n 0 46 hX rfl rfl dX10_goBack_46 ?_
          refine w_aald 47 hX s_53 (by rw [c5]; unfold vp_in; decide) (by rw [c5]; exact r_53_0) dX10_goBack_47 ?_
          obtain ⟨u7, gu7, h⟩ := o_bind h
          refine w_invVv (av := [.ref 54]) (st := []) 48 hX CI_0 s_23 rfl mv_yX0_become mi_yX0_become ml_X10_23 (CX0_become_23_54 u gu7) rfl (by decide) (Nat.le_of_ble_eq_true rfl) (Nat.le_refl _) (Nat.le_refl _) dX10_goBack_48 ?_
          refine w_aload_n 1 51 hX rfl rfl dX10_goBack_51 ?_
          refine w_iload_n 0 52 hX rfl rfl dX10_goBack_52 ?_
          obtain ⟨u8, gu8, h⟩ := o_bind h
          refine w_putI (j := 1) 53 hX CI_10 s_52 rfl fl_X10_20 rfl rfl rfl rfl dX10_goBack_53 ?_
          rw [Option.some.inj gu8]
          refine w_aload_n 1 56 hX rfl rfl dX10_goBack_56 ?_
          refine w_dup 57 hX rfl dX10_goBack_57 ?_
          refine w_getI (j := 2) 58 hX CI_10 s_52 rfl fl_X10_16 rfl dX10_goBack_58 ?_
          refine w_iconst 1 61 hX ic_1 dX10_goBack_61 ?_
          refine w_isub 62 hX dX10_goBack_62 ?_
          obtain ⟨u9, gu9, h⟩ := o_bind h
          refine w_putI (j := 2) 63 hX CI_10 s_52 rfl fl_X10_16 rfl rfl rfl rfl dX10_goBack_63 ?_
          rw [Option.some.inj gu9]
          refine w_iconst 1 66 hX ic_1 dX10_goBack_66 ?_
          exact w_zret 67 hX hR (by decide) dX10_goBack_67 (by cases h; rfl)
        · have h := ie h c5
          by_cases c10 : x1 = 1
          · have h := it h c10
            refine w_aald 35 hX s_53 (by rw [c10]; unfold vp_in; decide) (by rw [c10]; exact r_53_1) dX10_goBack_35 ?_
            refine w_ifnonnull (tgt := 41) 36 hX (by decide) dX10_goBack_36 ?_
            refine w_aload_n 2 41 hX rfl rfl dX10_goBack_41 ?_
            refine w_aload_n 1 42 hX rfl rfl dX10_goBack_42 ?_
            refine w_getR 43 hX CI_10 s_52 rfl r_52_0 fl_X10_11 rfl dX10_goBack_43 ?_
            refine w_iload_n 0 46 hX rfl rfl dX10_goBack_46 ?_
            refine w_aald 47 hX s_53 (by rw [c10]; unfold vp_in; decide) (by rw [c10]; exact r_53_1) dX10_goBack_47 ?_
            obtain ⟨u12, gu12, h⟩ := o_bind h
            refine w_invVv (av := [.ref 61]) (st := []) 48 hX CI_0 s_23 rfl mv_yX0_become mi_yX0_become ml_X10_23 (CX0_become_23_61 u gu12) rfl (by decide) (Nat.le_of_ble_eq_true rfl) (Nat.le_refl _) (Nat.le_refl _) dX10_goBack_48 ?_
            refine w_aload_n 1 51 hX rfl rfl dX10_goBack_51 ?_
            refine w_iload_n 0 52 hX rfl rfl dX10_goBack_52 ?_
            obtain ⟨u13, gu13, h⟩ := o_bind h
            refine w_putI (j := 1) 53 hX CI_10 s_52 rfl fl_X10_20 rfl rfl rfl rfl dX10_goBack_53 ?_
            rw [Option.some.inj gu13]
            refine w_aload_n 1 56 hX rfl rfl dX10_goBack_56 ?_
            refine w_dup 57 hX rfl dX10_goBack_57 ?_
            refine w_getI (j := 2) 58 hX CI_10 s_52 rfl fl_X10_16 rfl dX10_goBack_58 ?_
            refine w_iconst 1 61 hX ic_1 dX10_goBack_61 ?_
            refine w_isub 62 hX dX10_goBack_62 ?_
            obtain ⟨u14, gu14, h⟩ := o_bind h
            refine w_putI (j := 2) 63 hX CI_10 s_52 rfl fl_X10_16 rfl rfl rfl rfl dX10_goBack_63 ?_
            rw [Option.some.inj gu14]
            refine w_iconst 1 66 hX ic_1 dX10_goBack_66 ?_
            exact w_zret 67 hX hR (by decide) dX10_goBack_67 (by cases h; rfl)
          · have h := ie h c10
            by_cases c15 : x1 = 2
            · have h := it h c15
              refine w_aald 35 hX s_53 (by rw [c15]; unfold vp_in; decide) (by rw [c15]; exact r_53_2) dX10_goBack_35 ?_
              refine w_ifnonnull (tgt := 41) 36 hX (by decide) dX10_goBack_36 ?_
              refine w_aload_n 2 41 hX rfl rfl dX10_goBack_41 ?_
              refine w_aload_n 1 42 hX rfl rfl dX10_goBack_42 ?_
              refine w_getR 43 hX CI_10 s_52 rfl r_52_0 fl_X10_11 rfl dX10_goBack_43 ?_
              refine w_iload_n 0 46 hX rfl rfl dX10_goBack_46 ?_
              refine w_aald 47 hX s_53 (by rw [c15]; unfold vp_in; decide) (by rw [c15]; exact r_53_2) dX10_goBack_47 ?_
              obtain ⟨u17, gu17, h⟩ := o_bind h
              refine w_invVv (av := [.ref 68]) (st := []) 48 hX CI_0 s_23 rfl mv_yX0_become mi_yX0_become ml_X10_23 (CX0_become_23_68 u gu17) rfl (by decide) (Nat.le_of_ble_eq_true rfl) (Nat.le_refl _) (Nat.le_refl _) dX10_goBack_48 ?_
              refine w_aload_n 1 51 hX rfl rfl dX10_goBack_51 ?_
              refine w_iload_n 0 52 hX rfl rfl dX10_goBack_52 ?_
              obtain ⟨u18, gu18, h⟩ := o_bind h
              refine w_putI (j := 1) 53 hX CI_10 s_52 rfl fl_X10_20 rfl rfl rfl rfl dX10_goBack_53 ?_
              rw [Option.some.inj gu18]
              refine w_aload_n 1 56 hX rfl rfl dX10_goBack_56 ?_
              refine w_dup 57 hX rfl dX10_goBack_57 ?_
              refine w_getI (j := 2) 58 hX CI_10 s_52 rfl fl_X10_16 rfl dX10_goBack_58 ?_
              refine w_iconst 1 61 hX ic_1 dX10_goBack_61 ?_
              refine w_isub 62 hX dX10_goBack_62 ?_
              obtain ⟨u19, gu19, h⟩ := o_bind h
              refine w_putI (j := 2) 63 hX CI_10 s_52 rfl fl_X10_16 rfl rfl rfl rfl dX10_goBack_63 ?_
              rw [Option.some.inj gu19]
              refine w_iconst 1 66 hX ic_1 dX10_goBack_66 ?_
              exact w_zret 67 hX hR (by decide) dX10_goBack_67 (by cases h; rfl)
            · have h := ie h c15
              by_cases c20 : x1 = 3
              · have h := it h c20
                refine w_aald 35 hX s_53 (by rw [c20]; unfold vp_in; decide) (by rw [c20]; exact r_53_3) dX10_goBack_35 ?_
                refine w_ifnonnull (tgt := 41) 36 hX (by decide) dX10_goBack_36 ?_
                refine w_aload_n 2 41 hX rfl rfl dX10_goBack_41 ?_
                refine w_aload_n 1 42 hX rfl rfl dX10_goBack_42 ?_
                refine w_getR 43 hX CI_10 s_52 rfl r_52_0 fl_X10_11 rfl dX10_goBack_43 ?_
                refine w_iload_n 0 46 hX rfl rfl dX10_goBack_46 ?_
                refine w_aald 47 hX s_53 (by rw [c20]; unfold vp_in; decide) (by rw [c20]; exact r_53_3) dX10_goBack_47 ?_
                obtain ⟨u22, gu22, h⟩ := o_bind h
                refine w_invVv (av := [.ref 75]) (st := []) 48 hX CI_0 s_23 rfl mv_yX0_become mi_yX0_become ml_X10_23 (CX0_become_23_75 u gu22) rfl (by decide) (Nat.le_of_ble_eq_true rfl) (Nat.le_refl _) (Nat.le_refl _) dX10_goBack_48 ?_
                refine w_aload_n 1 51 hX rfl rfl dX10_goBack_51 ?_
                refine w_iload_n 0 52 hX rfl rfl dX10_goBack_52 ?_
                obtain ⟨u23, gu23, h⟩ := o_bind h
                refine w_putI (j := 1) 53 hX CI_10 s_52 rfl fl_X10_20 rfl rfl rfl rfl dX10_goBack_53 ?_
                rw [Option.some.inj gu23]
                refine w_aload_n 1 56 hX rfl rfl dX10_goBack_56 ?_
                refine w_dup 57 hX rfl dX10_goBack_57 ?_
                refine w_getI (j := 2) 58 hX CI_10 s_52 rfl fl_X10_16 rfl dX10_goBack_58 ?_
                refine w_iconst 1 61 hX ic_1 dX10_goBack_61 ?_
                refine w_isub 62 hX dX10_goBack_62 ?_
                obtain ⟨u24, gu24, h⟩ := o_bind h
                refine w_putI (j := 2) 63 hX CI_10 s_52 rfl fl_X10_16 rfl rfl rfl rfl dX10_goBack_63 ?_
                rw [Option.some.inj gu24]
                refine w_iconst 1 66 hX ic_1 dX10_goBack_66 ?_
                exact w_zret 67 hX hR (by decide) dX10_goBack_67 (by cases h; rfl)
              · have h := ie h c20
                by_cases c25 : x1 = 4
                · have h := it h c25
                  refine w_aald 35 hX s_53 (by rw [c25]; unfold vp_in; decide) (by rw [c25]; exact r_53_4) dX10_goBack_35 ?_
                  refine w_ifnonnull (tgt := 41) 36 hX (by decide) dX10_goBack_36 ?_
                  refine w_aload_n 2 41 hX rfl rfl dX10_goBack_41 ?_
                  refine w_aload_n 1 42 hX rfl rfl dX10_goBack_42 ?_
                  refine w_getR 43 hX CI_10 s_52 rfl r_52_0 fl_X10_11 rfl dX10_goBack_43 ?_
                  refine w_iload_n 0 46 hX rfl rfl dX10_goBack_46 ?_
                  refine w_aald 47 hX s_53 (by rw [c25]; unfold vp_in; decide) (by rw [c25]; exact r_53_4) dX10_goBack_47 ?_
                  obtain ⟨u27, gu27, h⟩ := o_bind h
                  refine w_invVv (av := [.ref 82]) (st := []) 48 hX CI_0 s_23 rfl mv_yX0_become mi_yX0_become ml_X10_23 (CX0_become_23_82 u gu27) rfl (by decide) (Nat.le_of_ble_eq_true rfl) (Nat.le_refl _) (Nat.le_refl _) dX10_goBack_48 ?_
                  refine w_aload_n 1 51 hX rfl rfl dX10_goBack_51 ?_
                  refine w_iload_n 0 52 hX rfl rfl dX10_goBack_52 ?_
                  obtain ⟨u28, gu28, h⟩ := o_bind h
                  refine w_putI (j := 1) 53 hX CI_10 s_52 rfl fl_X10_20 rfl rfl rfl rfl dX10_goBack_53 ?_
                  rw [Option.some.inj gu28]
                  refine w_aload_n 1 56 hX rfl rfl dX10_goBack_56 ?_
                  refine w_dup 57 hX rfl dX10_goBack_57 ?_
                  refine w_getI (j := 2) 58 hX CI_10 s_52 rfl fl_X10_16 rfl dX10_goBack_58 ?_
                  refine w_iconst 1 61 hX ic_1 dX10_goBack_61 ?_
                  refine w_isub 62 hX dX10_goBack_62 ?_
                  obtain ⟨u29, gu29, h⟩ := o_bind h
                  refine w_putI (j := 2) 63 hX CI_10 s_52 rfl fl_X10_16 rfl rfl rfl rfl dX10_goBack_63 ?_
                  rw [Option.some.inj gu29]
                  refine w_iconst 1 66 hX ic_1 dX10_goBack_66 ?_
                  exact w_zret 67 hX hR (by decide) dX10_goBack_67 (by cases h; rfl)
                · have h := ie h c25
                  by_cases c30 : x1 = 5
                  · have h := it h c30
                    refine w_aald 35 hX s_53 (by rw [c30]; unfold vp_in; decide) (by rw [c30]; exact r_53_5) dX10_goBack_35 ?_
                    refine w_ifnonnull (tgt := 41) 36 hX (by decide) dX10_goBack_36 ?_
                    refine w_aload_n 2 41 hX rfl rfl dX10_goBack_41 ?_
                    refine w_aload_n 1 42 hX rfl rfl dX10_goBack_42 ?_
                    refine w_getR 43 hX CI_10 s_52 rfl r_52_0 fl_X10_11 rfl dX10_goBack_43 ?_
                    refine w_iload_n 0 46 hX rfl rfl dX10_goBack_46 ?_
                    refine w_aald 47 hX s_53 (by rw [c30]; unfold vp_in; decide) (by rw [c30]; exact r_53_5) dX10_goBack_47 ?_
                    obtain ⟨u32, gu32, h⟩ := o_bind h
                    refine w_invVv (av := [.ref 89]) (st := []) 48 hX CI_0 s_23 rfl mv_yX0_become mi_yX0_become ml_X10_23 (CX0_become_23_89 u gu32) rfl (by decide) (Nat.le_of_ble_eq_true rfl) (Nat.le_refl _) (Nat.le_refl _) dX10_goBack_48 ?_
                    refine w_aload_n 1 51 hX rfl rfl dX10_goBack_51 ?_
                    refine w_iload_n 0 52 hX rfl rfl dX10_goBack_52 ?_
                    obtain ⟨u33, gu33, h⟩ := o_bind h
                    refine w_putI (j := 1) 53 hX CI_10 s_52 rfl fl_X10_20 rfl rfl rfl rfl dX10_goBack_53 ?_
                    rw [Option.some.inj gu33]
                    refine w_aload_n 1 56 hX rfl rfl dX10_goBack_56 ?_
                    refine w_dup 57 hX rfl dX10_goBack_57 ?_
                    refine w_getI (j := 2) 58 hX CI_10 s_52 rfl fl_X10_16 rfl dX10_goBack_58 ?_
                    refine w_iconst 1 61 hX ic_1 dX10_goBack_61 ?_
                    refine w_isub 62 hX dX10_goBack_62 ?_
                    obtain ⟨u34, gu34, h⟩ := o_bind h
                    refine w_putI (j := 2) 63 hX CI_10 s_52 rfl fl_X10_16 rfl rfl rfl rfl dX10_goBack_63 ?_
                    rw [Option.some.inj gu34]
                    refine w_iconst 1 66 hX ic_1 dX10_goBack_66 ?_
                    exact w_zret 67 hX hR (by decide) dX10_goBack_67 (by cases h; rfl)
                  · have h := ie h c30
                    cases h)
def FX11_undo_0 (u : Mem) : Option (Int32 × Mem) :=
  bnd2 (FX10_goBack_52_23 u) fun x1 u2 => (bchk x1).bind fun x3 => some (x3, u2)
theorem CX11_undo_0 {G : Gt} (u : Mem) {v : Int32} {u' : Mem} (h : FX11_undo_0 u = some (v, u')) : CT G yX11_undo cX11_undo 1 (some .boolean) 5 [.ref 0] SH RHO u (some (.int v), SH, RHO, u') :=
  ct_of (by decide) rfl (Nat.le_of_ble_eq_true rfl) (Nat.le_refl _) (Nat.le_refl _) (fun X hX hR => by
  unfold FX11_undo_0 at h
  refine w_aload_n 0 0 hX rfl rfl dX11_undo_0 ?_
  refine w_getR 1 hX CI_11 s_0 rfl r_0_5 fl_X11_49 rfl dX11_undo_1 ?_
  refine w_aload_n 0 4 hX rfl rfl dX11_undo_4 ?_
  refine w_getR 5 hX CI_11 s_0 rfl r_0_1 fl_X11_19 rfl dX11_undo_5 ?_
  obtain ⟨x1, u2, gx1, h⟩ := o_bnd2 h
  refine w_invVi (av := [.ref 23]) (st := []) 8 hX CI_10 s_52 rfl mv_yX10_goBack mi_yX10_goBack ml_X11_267 (CX10_goBack_52_23 u gx1) rfl (by decide) (Nat.le_of_ble_eq_true rfl) (Nat.le_refl _) (Nat.le_refl _) dX11_undo_8 ?_
  obtain ⟨x3, gx3, h⟩ := o_bind h
  obtain ⟨jx3, nx3, mx3⟩ := bchk_ok gx3
  rw [jx3]
  exact w_zret 11 hX hR nx3 dX11_undo_11 (by cases h; rfl))
def FX12_undo_146_b21 (k21 : Int32 → Mem → Option (Int32 × Mem)) (l1 : Int32) (u : Mem) : Option (Int32 × Mem) :=
  (if 78 ≤ l1 then (some (1, u)) else ((rdA u 149 468 ((78 * (u 146 4)) + l1)).bind fun x2 => (wrA u 147 1786 l1 x2).bind fun u3 => k21 (l1 + 1) u3))
theorem bX12_undo_146_21 {G : Gt} {X : Xt} {v : Int32} {u' : Mem} (hX : CxOk G X cX12_undo 2 RX12 (some (.int v), SH, RHO, u') 1) (hR : CxRet G X (some .boolean) (some (.int v), SH, RHO, u')) {k21 : Int32 → Mem → Option (Int32 × Mem)} (hk21 : ∀ (l1 : Int32) (u : Mem), k21 l1 u = some (v, u') → WM G X 21 [(0, .ref 146), (1, .int l1)] [] SH RHO u) (l1 : Int32) (u : Mem) (h : FX12_undo_146_b21 k21 l1 u = some (v, u')) : WM G X 21 [(0, .ref 146), (1, .int l1)] [] SH RHO u := by
  unfold FX12_undo_146_b21 at h
  refine w_iload_n 1 21 hX rfl rfl dX12_undo_21 ?_
  refine w_bipush 78 22 hX ib_78 dX12_undo_22 ?_
  refine w_icmp_ge (tgt := 53) 24 hX dX12_undo_24 (by decide) (fun c1 => ?_) (fun c1 => ?_)
  · have h := it h c1
    refine w_iconst 1 53 hX ic_1 dX12_undo_53 ?_
    exact w_zret 54 hX hR (by decide) dX12_undo_54 (by cases h; rfl)
  · have h := ie h c1
    refine w_aload_n 0 27 hX rfl rfl dX12_undo_27 ?_
    refine w_getR 28 hX CI_12 s_146 rfl r_146_0 fl_X12_7 rfl dX12_undo_28 ?_
    refine w_iload_n 1 31 hX rfl rfl dX12_undo_31 ?_
    refine w_aload_n 0 32 hX rfl rfl dX12_undo_32 ?_
    refine w_getR 33 hX CI_12 s_146 rfl r_146_2 fl_X12_16 rfl dX12_undo_33 ?_
    refine w_bipush 78 36 hX ib_78 dX12_undo_36 ?_
    refine w_aload_n 0 38 hX rfl rfl dX12_undo_38 ?_
    refine w_getI (j := 4) 39 hX CI_12 s_146 rfl fl_X12_58 rfl dX12_undo_39 ?_
    refine w_imul 42 hX dX12_undo_42 ?_
    refine w_iload_n 1 43 hX rfl rfl dX12_undo_43 ?_
    refine w_iadd 44 hX dX12_undo_44 ?_
    obtain ⟨x2, gx2, h⟩ := o_bind h
    refine w_iald 45 hX s_149 gx2 dX12_undo_45 ?_
    obtain ⟨u3, gu3, h⟩ := o_bind h
    refine w_iast 46 hX s_147 gu3 dX12_undo_46 ?_
    refine w_iinc (lv' := [(1, .int (l1 + 1)), (0, .ref 146)]) 47 1 hX dX12_undo_47 rfl (inc_1 _) (by decide) rfl ?_
    refine w_goto (tgt := 21) 50 hX (by decide) dX12_undo_50 ?_
    exact w_sub [1, 0] rfl (hk21 (l1 + 1) u3 h)
def FX12_undo_146_L21 : Nat → Int32 → Mem → Option (Int32 × Mem)
  | 0, _, _ => none
  | n + 1, l1, u => FX12_undo_146_b21 (FX12_undo_146_L21 n) l1 u
theorem lX12_undo_146_21 {G : Gt} {X : Xt} {v : Int32} {u' : Mem} (hX : CxOk G X cX12_undo 2 RX12 (some (.int v), SH, RHO, u') 1) (hR : CxRet G X (some .boolean) (some (.int v), SH, RHO, u')) : ∀ (n : Nat) (l1 : Int32) (u : Mem), FX12_undo_146_L21 n l1 u = some (v, u') → WM G X 21 [(0, .ref 146), (1, .int l1)] [] SH RHO u := by
  intro n
  induction n with
  | zero =>
    intro l1 u h
    exact nn_ h
  | succ n ih =>
    intro l1 u h
    exact bX12_undo_146_21 hX hR ih l1 u h
def FX12_undo_146 (u : Mem) : Option (Int32 × Mem) :=
  (if (u 146 4) = 0 then (some (0, u)) else ((some (mupd u 146 4 ((u 146 4) - 1))).bind fun u2 => FX12_undo_146_L21 FU 0 u2))
theorem CX12_undo_146 {G : Gt} (u : Mem) {v : Int32} {u' : Mem} (h : FX12_undo_146 u = some (v, u')) : CT G yX12_undo cX12_undo 2 (some .boolean) 1 [.ref 146] SH RHO u (some (.int v), SH, RHO, u') :=
  ct_of (by decide) rfl (Nat.le_of_ble_eq_true rfl) (Nat.le_refl _) (Nat.le_refl _) (fun X hX hR => by
  unfold FX12_undo_146 at h
  refine w_aload_n 0 0 hX rfl rfl dX12_undo_0 ?_
  refine w_getI (j := 4) 1 hX CI_12 s_146 rfl fl_X12_58 rfl dX12_undo_1 ?_
  refine w_if_ne (tgt := 9) 4 hX dX12_undo_4 (by decide) (fun c1 => ?_) (fun c1 => ?_)
  · have h := ie h c1
    refine w_aload_n 0 9 hX rfl rfl dX12_undo_9 ?_
    refine w_dup 10 hX rfl dX12_undo_10 ?_
    refine w_getI (j := 4) 11 hX CI_12 s_146 rfl fl_X12_58 rfl dX12_undo_11 ?_
    refine w_iconst 1 14 hX ic_1 dX12_undo_14 ?_
    refine w_isub 15 hX dX12_undo_15 ?_
    obtain ⟨u2, gu2, h⟩ := o_bind h
    refine w_putI (j := 4) 16 hX CI_12 s_146 rfl fl_X12_58 rfl rfl rfl rfl dX12_undo_16 ?_
    rw [Option.some.inj gu2]
    refine w_iconst 0 19 hX ic_0 dX12_undo_19 ?_
    refine w_istore_n (lv' := [(1, .int 0), (0, .ref 146)]) 20 hX rfl dX12_undo_20 (by decide) rfl ?_
    exact w_sub [1, 0] rfl (lX12_undo_146_21 hX hR FU 0 u2 h)
  · have h := it h c1
    refine w_iconst 0 7 hX ic_0 dX12_undo_7 ?_
    exact w_zret 8 hX hR (by decide) dX12_undo_8 (by cases h; rfl))
def FX4_become_8_122 (u : Mem) : Option Mem :=
  (some (cpM u 123 9 400)).bind fun u1 => (some (cpM u1 124 10 16)).bind fun u2 => (some (cpM u2 125 11 16)).bind fun u3 => (some (cpM u3 126 12 16)).bind fun u4 => (some (cpM u4 127 13 16)).bind fun u5 => (some (mupd u5 8 6 (u5 122 6))).bind fun u6 => (some (mupd u6 8 7 (u6 122 7))).bind fun u7 => some u7
theorem CX4_become_8_122 {G : Gt} (u : Mem) {u' : Mem} (h : FX4_become_8_122 u = some u') : CT G yX4_become cX4_become 2 none 3 [.ref 8, .ref 122] SH RHO u (none, SH, RHO, u') :=
  ct_of (by decide) rfl (Nat.le_of_ble_eq_true rfl) (Nat.le_refl _) (Nat.le_refl _) (fun X hX hR => by
  unfold FX4_become_8_122 at h
  refine w_aload_n 1 0 hX rfl rfl dX4_become_0 ?_
  refine w_getR 1 hX CI_4 s_122 rfl r_122_0 fl_X4_9 rfl dX4_become_1 ?_
  refine w_aload_n 0 4 hX rfl rfl dX4_become_4 ?_
  refine w_getR 5 hX CI_4 s_8 rfl r_8_0 fl_X4_9 rfl dX4_become_5 ?_
  obtain ⟨u1, gu1, h⟩ := o_bind h
  refine w_invSNv (av := [.ref 123, .ref 9]) (st := []) 8 hX ms_yX11_copy mi_yX11_copy ml_X4_30 (C_copy s_123 s_9 (by decide) (by decide) (by decide) gu1) rfl (by decide) (Nat.le_of_ble_eq_true rfl) (Nat.le_refl _) (Nat.le_refl _) dX4_become_8 ?_
  refine w_aload_n 1 11 hX rfl rfl dX4_become_11 ?_
  refine w_getR 12 hX CI_4 s_122 rfl r_122_1 fl_X4_15 rfl dX4_become_12 ?_
  refine w_aload_n 0 15 hX rfl rfl dX4_become_15 ?_
  refine w_getR 16 hX CI_4 s_8 rfl r_8_1 fl_X4_15 rfl dX4_become_16 ?_
  obtain ⟨u2, gu2, h⟩ := o_bind h
  refine w_invSNv (av := [.ref 124, .ref 10]) (st := []) 19 hX ms_yX11_copy mi_yX11_copy ml_X4_30 (C_copy s_124 s_10 (by decide) (by decide) (by decide) gu2) rfl (by decide) (Nat.le_of_ble_eq_true rfl) (Nat.le_refl _) (Nat.le_refl _) dX4_become_19 ?_
  refine w_aload_n 1 22 hX rfl rfl dX4_become_22 ?_
  refine w_getR 23 hX CI_4 s_122 rfl r_122_2 fl_X4_18 rfl dX4_become_23 ?_
  refine w_aload_n 0 26 hX rfl rfl dX4_become_26 ?_
  refine w_getR 27 hX CI_4 s_8 rfl r_8_2 fl_X4_18 rfl dX4_become_27 ?_
  obtain ⟨u3, gu3, h⟩ := o_bind h
  refine w_invSNv (av := [.ref 125, .ref 11]) (st := []) 30 hX ms_yX11_copy mi_yX11_copy ml_X4_30 (C_copy s_125 s_11 (by decide) (by decide) (by decide) gu3) rfl (by decide) (Nat.le_of_ble_eq_true rfl) (Nat.le_refl _) (Nat.le_refl _) dX4_become_30 ?_
  refine w_aload_n 1 33 hX rfl rfl dX4_become_33 ?_
  refine w_getR 34 hX CI_4 s_122 rfl r_122_3 fl_X4_21 rfl dX4_become_34 ?_
  refine w_aload_n 0 37 hX rfl rfl dX4_become_37 ?_
  refine w_getR 38 hX CI_4 s_8 rfl r_8_3 fl_X4_21 rfl dX4_become_38 ?_
  obtain ⟨u4, gu4, h⟩ := o_bind h
  refine w_invSNv (av := [.ref 126, .ref 12]) (st := []) 41 hX ms_yX11_copy mi_yX11_copy ml_X4_30 (C_copy s_126 s_12 (by decide) (by decide) (by decide) gu4) rfl (by decide) (Nat.le_of_ble_eq_true rfl) (Nat.le_refl _) (Nat.le_refl _) dX4_become_41 ?_
  refine w_aload_n 1 44 hX rfl rfl dX4_become_44 ?_
  refine w_getR 45 hX CI_4 s_122 rfl r_122_4 fl_X4_24 rfl dX4_become_45 ?_
  refine w_aload_n 0 48 hX rfl rfl dX4_become_48 ?_
  refine w_getR 49 hX CI_4 s_8 rfl r_8_4 fl_X4_24 rfl dX4_become_49 ?_
  obtain ⟨u5, gu5, h⟩ := o_bind h
  refine w_invSNv (av := [.ref 127, .ref 13]) (st := []) 52 hX ms_yX11_copy mi_yX11_copy ml_X4_30 (C_copy s_127 s_13 (by decide) (by decide) (by decide) gu5) rfl (by decide) (Nat.le_of_ble_eq_true rfl) (Nat.le_refl _) (Nat.le_refl _) dX4_become_52 ?_
  refine w_aload_n 0 55 hX rfl rfl dX4_become_55 ?_
  refine w_aload_n 1 56 hX rfl rfl dX4_become_56 ?_
  refine w_getI (j := 6) 57 hX CI_4 s_122 rfl fl_X4_34 rfl dX4_become_57 ?_
  obtain ⟨u6, gu6, h⟩ := o_bind h
  refine w_putI (j := 6) 60 hX CI_4 s_8 rfl fl_X4_34 rfl rfl rfl rfl dX4_become_60 ?_
  rw [Option.some.inj gu6]
  refine w_aload_n 0 63 hX rfl rfl dX4_become_63 ?_
  refine w_aload_n 1 64 hX rfl rfl dX4_become_64 ?_
  refine w_getI (j := 7) 65 hX CI_4 s_122 rfl fl_X4_38 rfl dX4_become_65 ?_
  obtain ⟨u7, gu7, h⟩ := o_bind h
  refine w_putI (j := 7) 68 hX CI_4 s_8 rfl fl_X4_38 rfl rfl rfl rfl dX4_become_68 ?_
  rw [Option.some.inj gu7]
  exact w_vret 71 hX hR dX4_become_71 (by cases h; rfl))
def FX5_become_15_129 (u : Mem) : Option Mem :=
  (some (cpM u 130 16 16)).bind fun u1 => (some (cpM u1 131 17 16)).bind fun u2 => (some (cpM u2 132 18 16)).bind fun u3 => (some (mupd u3 15 3 (u3 129 3))).bind fun u4 => some u4
theorem CX5_become_15_129 {G : Gt} (u : Mem) {u' : Mem} (h : FX5_become_15_129 u = some u') : CT G yX5_become cX5_become 2 none 3 [.ref 15, .ref 129] SH RHO u (none, SH, RHO, u') :=
  ct_of (by decide) rfl (Nat.le_of_ble_eq_true rfl) (Nat.le_refl _) (Nat.le_refl _) (fun X hX hR => by
  unfold FX5_become_15_129 at h
  refine w_aload_n 1 0 hX rfl rfl dX5_become_0 ?_
  refine w_getR 1 hX CI_5 s_129 rfl r_129_0 fl_X5_9 rfl dX5_become_1 ?_
  refine w_aload_n 0 4 hX rfl rfl dX5_become_4 ?_
  refine w_getR 5 hX CI_5 s_15 rfl r_15_0 fl_X5_9 rfl dX5_become_5 ?_
  obtain ⟨u1, gu1, h⟩ := o_bind h
  refine w_invSNv (av := [.ref 130, .ref 16]) (st := []) 8 hX ms_yX11_copy mi_yX11_copy ml_X5_21 (C_copy s_130 s_16 (by decide) (by decide) (by decide) gu1) rfl (by decide) (Nat.le_of_ble_eq_true rfl) (Nat.le_refl _) (Nat.le_refl _) dX5_become_8 ?_
  refine w_aload_n 1 11 hX rfl rfl dX5_become_11 ?_
  refine w_getR 12 hX CI_5 s_129 rfl r_129_1 fl_X5_15 rfl dX5_become_12 ?_
  refine w_aload_n 0 15 hX rfl rfl dX5_become_15 ?_
  refine w_getR 16 hX CI_5 s_15 rfl r_15_1 fl_X5_15 rfl dX5_become_16 ?_
  obtain ⟨u2, gu2, h⟩ := o_bind h
  refine w_invSNv (av := [.ref 131, .ref 17]) (st := []) 19 hX ms_yX11_copy mi_yX11_copy ml_X5_21 (C_copy s_131 s_17 (by decide) (by decide) (by decide) gu2) rfl (by decide) (Nat.le_of_ble_eq_true rfl) (Nat.le_refl _) (Nat.le_refl _) dX5_become_19 ?_
  refine w_aload_n 1 22 hX rfl rfl dX5_become_22 ?_
  refine w_getR 23 hX CI_5 s_129 rfl r_129_2 fl_X5_18 rfl dX5_become_23 ?_
  refine w_aload_n 0 26 hX rfl rfl dX5_become_26 ?_
  refine w_getR 27 hX CI_5 s_15 rfl r_15_2 fl_X5_18 rfl dX5_become_27 ?_
  obtain ⟨u3, gu3, h⟩ := o_bind h
  refine w_invSNv (av := [.ref 132, .ref 18]) (st := []) 30 hX ms_yX11_copy mi_yX11_copy ml_X5_21 (C_copy s_132 s_18 (by decide) (by decide) (by decide) gu3) rfl (by decide) (Nat.le_of_ble_eq_true rfl) (Nat.le_refl _) (Nat.le_refl _) dX5_become_30 ?_
  refine w_aload_n 0 33 hX rfl rfl dX5_become_33 ?_
  refine w_aload_n 1 34 hX rfl rfl dX5_become_34 ?_
  refine w_getI (j := 3) 35 hX CI_5 s_129 rfl fl_X5_25 rfl dX5_become_35 ?_
  obtain ⟨u4, gu4, h⟩ := o_bind h
  refine w_putI (j := 3) 38 hX CI_5 s_15 rfl fl_X5_25 rfl rfl rfl rfl dX5_become_38 ?_
  rw [Option.some.inj gu4]
  exact w_vret 41 hX hR dX5_become_41 (by cases h; rfl))
def FX8_become_19_133 (u : Mem) : Option Mem :=
  (some (cpM u 134 20 10)).bind fun u1 => (some (cpM u1 135 21 10)).bind fun u2 => (some (cpM u2 136 22 10)).bind fun u3 => (some (mupd u3 19 3 (u3 133 3))).bind fun u4 => some u4
theorem CX8_become_19_133 {G : Gt} (u : Mem) {u' : Mem} (h : FX8_become_19_133 u = some u') : CT G yX8_become cX8_become 2 none 3 [.ref 19, .ref 133] SH RHO u (none, SH, RHO, u') :=
  ct_of (by decide) rfl (Nat.le_of_ble_eq_true rfl) (Nat.le_refl _) (Nat.le_refl _) (fun X hX hR => by
  unfold FX8_become_19_133 at h
  refine w_aload_n 1 0 hX rfl rfl dX8_become_0 ?_
  refine w_getR 1 hX CI_8 s_133 rfl r_133_0 fl_X8_11 rfl dX8_become_1 ?_
  refine w_aload_n 0 4 hX rfl rfl dX8_become_4 ?_
  refine w_getR 5 hX CI_8 s_19 rfl r_19_0 fl_X8_11 rfl dX8_become_5 ?_
  obtain ⟨u1, gu1, h⟩ := o_bind h
  refine w_invSNv (av := [.ref 134, .ref 20]) (st := []) 8 hX ms_yX11_copy mi_yX11_copy ml_X8_21 (C_copy s_134 s_20 (by decide) (by decide) (by decide) gu1) rfl (by decide) (Nat.le_of_ble_eq_true rfl) (Nat.le_refl _) (Nat.le_refl _) dX8_become_8 ?_
  refine w_aload_n 1 11 hX rfl rfl dX8_become_11 ?_
  refine w_getR 12 hX CI_8 s_133 rfl r_133_1 fl_X8_15 rfl dX8_become_12 ?_
  refine w_aload_n 0 15 hX rfl rfl dX8_become_15 ?_
  refine w_getR 16 hX CI_8 s_19 rfl r_19_1 fl_X8_15 rfl dX8_become_16 ?_
  obtain ⟨u2, gu2, h⟩ := o_bind h
  refine w_invSNv (av := [.ref 135, .ref 21]) (st := []) 19 hX ms_yX11_copy mi_yX11_copy ml_X8_21 (C_copy s_135 s_21 (by decide) (by decide) (by decide) gu2) rfl (by decide) (Nat.le_of_ble_eq_true rfl) (Nat.le_refl _) (Nat.le_refl _) dX8_become_19 ?_
  refine w_aload_n 1 22 hX rfl rfl dX8_become_22 ?_
  refine w_getR 23 hX CI_8 s_133 rfl r_133_2 fl_X8_18 rfl dX8_become_23 ?_
  refine w_aload_n 0 26 hX rfl rfl dX8_become_26 ?_
  refine w_getR 27 hX CI_8 s_19 rfl r_19_2 fl_X8_18 rfl dX8_become_27 ?_
  obtain ⟨u3, gu3, h⟩ := o_bind h
  refine w_invSNv (av := [.ref 136, .ref 22]) (st := []) 30 hX ms_yX11_copy mi_yX11_copy ml_X8_21 (C_copy s_136 s_22 (by decide) (by decide) (by decide) gu3) rfl (by decide) (Nat.le_of_ble_eq_true rfl) (Nat.le_refl _) (Nat.le_refl _) dX8_become_30 ?_
  refine w_aload_n 0 33 hX rfl rfl dX8_become_33 ?_
  refine w_aload_n 1 34 hX rfl rfl dX8_become_34 ?_
  refine w_getI (j := 3) 35 hX CI_8 s_133 rfl fl_X8_25 rfl dX8_become_35 ?_
  obtain ⟨u4, gu4, h⟩ := o_bind h
  refine w_putI (j := 3) 38 hX CI_8 s_19 rfl fl_X8_25 rfl rfl rfl rfl dX8_become_38 ?_
  rw [Option.some.inj gu4]
  exact w_vret 41 hX hR dX8_become_41 (by cases h; rfl))
def FX9_become_1_115 (u : Mem) : Option Mem :=
  (some (mupd u 1 0 (u 115 0))).bind fun u1 => (some (cpM u1 116 2 12)).bind fun u2 => (some (cpM u2 117 3 12)).bind fun u3 => (some (cpM u3 118 4 12)).bind fun u4 => (some (cpM u4 119 5 12)).bind fun u5 => (some (cpM u5 120 6 2)).bind fun u6 => (some (cpM u6 121 7 8)).bind fun u7 => (some (mupd u7 1 7 (u7 115 7))).bind fun u8 => (some (mupd u8 1 8 (u8 115 8))).bind fun u9 => (some (mupd u9 1 9 (u9 115 9))).bind fun u10 => (some (mupd u10 1 10 (u10 115 10))).bind fun u11 => (some (mupd u11 1 11 (u11 115 11))).bind fun u12 => (some (mupd u12 1 12 (u12 115 12))).bind fun u13 => (FX4_become_8_122 u13).bind fun u15 => (FX5_become_15_129 u15).bind fun u17 => (FX8_become_19_133 u17).bind fun u19 => some u19
theorem CX9_become_1_115 {G : Gt} (u : Mem) {u' : Mem} (h : FX9_become_1_115 u = some u') : CT G yX9_become cX9_become 2 none 4 [.ref 1, .ref 115] SH RHO u (none, SH, RHO, u') :=
  ct_of (by decide) rfl (Nat.le_of_ble_eq_true rfl) (Nat.le_refl _) (Nat.le_refl _) (fun X hX hR => by
  unfold FX9_become_1_115 at h
  refine w_aload_n 0 0 hX rfl rfl dX9_become_0 ?_
  refine w_aload_n 1 1 hX rfl rfl dX9_become_1 ?_
  refine w_getI (j := 0) 2 hX CI_9 s_115 rfl fl_X9_58 rfl dX9_become_2 ?_
  obtain ⟨u1, gu1, h⟩ := o_bind h
  refine w_putI (j := 0) 5 hX CI_9 s_1 rfl fl_X9_58 rfl rfl rfl rfl dX9_become_5 ?_
  rw [Option.some.inj gu1]
  refine w_aload_n 1 8 hX rfl rfl dX9_become_8 ?_
  refine w_getR 9 hX CI_9 s_115 rfl r_115_1 fl_X9_9 rfl dX9_become_9 ?_
  refine w_aload_n 0 12 hX rfl rfl dX9_become_12 ?_
  refine w_getR 13 hX CI_9 s_1 rfl r_1_1 fl_X9_9 rfl dX9_become_13 ?_
  obtain ⟨u2, gu2, h⟩ := o_bind h
  refine w_invSNv (av := [.ref 116, .ref 2]) (st := []) 16 hX ms_yX11_copy mi_yX11_copy ml_X9_61 (C_copy s_116 s_2 (by decide) (by decide) (by decide) gu2) rfl (by decide) (Nat.le_of_ble_eq_true rfl) (Nat.le_refl _) (Nat.le_refl _) dX9_become_16 ?_
  refine w_aload_n 1 19 hX rfl rfl dX9_become_19 ?_
  refine w_getR 20 hX CI_9 s_115 rfl r_115_2 fl_X9_15 rfl dX9_become_20 ?_
  refine w_aload_n 0 23 hX rfl rfl dX9_become_23 ?_
  refine w_getR 24 hX CI_9 s_1 rfl r_1_2 fl_X9_15 rfl dX9_become_24 ?_
  obtain ⟨u3, gu3, h⟩ := o_bind h
  refine w_invSNv (av := [.ref 117, .ref 3]) (st := []) 27 hX ms_yX11_copy mi_yX11_copy ml_X9_61 (C_copy s_117 s_3 (by decide) (by decide) (by decide) gu3) rfl (by decide) (Nat.le_of_ble_eq_true rfl) (Nat.le_refl _) (Nat.le_refl _) dX9_become_27 ?_
  refine w_aload_n 1 30 hX rfl rfl dX9_become_30 ?_
  refine w_getR 31 hX CI_9 s_115 rfl r_115_3 fl_X9_18 rfl dX9_become_31 ?_
  refine w_aload_n 0 34 hX rfl rfl dX9_become_34 ?_
  refine w_getR 35 hX CI_9 s_1 rfl r_1_3 fl_X9_18 rfl dX9_become_35 ?_
  obtain ⟨u4, gu4, h⟩ := o_bind h
  refine w_invSNv (av := [.ref 118, .ref 4]) (st := []) 38 hX ms_yX11_copy mi_yX11_copy ml_X9_61 (C_copy s_118 s_4 (by decide) (by decide) (by decide) gu4) rfl (by decide) (Nat.le_of_ble_eq_true rfl) (Nat.le_refl _) (Nat.le_refl _) dX9_become_38 ?_
  refine w_aload_n 1 41 hX rfl rfl dX9_become_41 ?_
  refine w_getR 42 hX CI_9 s_115 rfl r_115_4 fl_X9_21 rfl dX9_become_42 ?_
  refine w_aload_n 0 45 hX rfl rfl dX9_become_45 ?_
  refine w_getR 46 hX CI_9 s_1 rfl r_1_4 fl_X9_21 rfl dX9_become_46 ?_
  obtain ⟨u5, gu5, h⟩ := o_bind h
  refine w_invSNv (av := [.ref 119, .ref 5]) (st := []) 49 hX ms_yX11_copy mi_yX11_copy ml_X9_61 (C_copy s_119 s_5 (by decide) (by decide) (by decide) gu5) rfl (by decide) (Nat.le_of_ble_eq_true rfl) (Nat.le_refl _) (Nat.le_refl _) dX9_become_49 ?_
  refine w_aload_n 1 52 hX rfl rfl dX9_become_52 ?_
  refine w_getR 53 hX CI_9 s_115 rfl r_115_5 fl_X9_24 rfl dX9_become_53 ?_
  refine w_aload_n 0 56 hX rfl rfl dX9_become_56 ?_
  refine w_getR 57 hX CI_9 s_1 rfl r_1_5 fl_X9_24 rfl dX9_become_57 ?_
  obtain ⟨u6, gu6, h⟩ := o_bind h
  refine w_invSNv (av := [.ref 120, .ref 6]) (st := []) 60 hX ms_yX11_copy mi_yX11_copy ml_X9_61 (C_copy s_120 s_6 (by decide) (by decide) (by decide) gu6) rfl (by decide) (Nat.le_of_ble_eq_true rfl) (Nat.le_refl _) (Nat.le_refl _) dX9_become_60 ?_
  refine w_aload_n 1 63 hX rfl rfl dX9_become_63 ?_
  refine w_getR 64 hX CI_9 s_115 rfl r_115_6 fl_X9_27 rfl dX9_become_64 ?_
  refine w_aload_n 0 67 hX rfl rfl dX9_become_67 ?_
  refine w_getR 68 hX CI_9 s_1 rfl r_1_6 fl_X9_27 rfl dX9_become_68 ?_
  obtain ⟨u7, gu7, h⟩ := o_bind h
  refine w_invSNv (av := [.ref 121, .ref 7]) (st := []) 71 hX ms_yX11_copy mi_yX11_copy ml_X9_61 (C_copy s_121 s_7 (by decide) (by decide) (by decide) gu7) rfl (by decide) (Nat.le_of_ble_eq_true rfl) (Nat.le_refl _) (Nat.le_refl _) dX9_become_71 ?_
  refine w_aload_n 0 74 hX rfl rfl dX9_become_74 ?_
  refine w_aload_n 1 75 hX rfl rfl dX9_become_75 ?_
  refine w_getI (j := 7) 76 hX CI_9 s_115 rfl fl_X9_30 rfl dX9_become_76 ?_
  obtain ⟨u8, gu8, h⟩ := o_bind h
  refine w_putI (j := 7) 79 hX CI_9 s_1 rfl fl_X9_30 rfl rfl rfl rfl dX9_become_79 ?_
  rw [Option.some.inj gu8]
  refine w_aload_n 0 82 hX rfl rfl dX9_become_82 ?_
  refine w_aload_n 1 83 hX rfl rfl dX9_become_83 ?_
  refine w_getI (j := 8) 84 hX CI_9 s_115 rfl fl_X9_65 rfl dX9_become_84 ?_
  obtain ⟨u9, gu9, h⟩ := o_bind h
  refine w_putI (j := 8) 87 hX CI_9 s_1 rfl fl_X9_65 rfl rfl rfl rfl dX9_become_87 ?_
  rw [Option.some.inj gu9]
  refine w_aload_n 0 90 hX rfl rfl dX9_become_90 ?_
  refine w_aload_n 1 91 hX rfl rfl dX9_become_91 ?_
  refine w_getI (j := 9) 92 hX CI_9 s_115 rfl fl_X9_34 rfl dX9_become_92 ?_
  obtain ⟨u10, gu10, h⟩ := o_bind h
  refine w_putI (j := 9) 95 hX CI_9 s_1 rfl fl_X9_34 rfl rfl rfl rfl dX9_become_95 ?_
  rw [Option.some.inj gu10]
  refine w_aload_n 0 98 hX rfl rfl dX9_become_98 ?_
  refine w_aload_n 1 99 hX rfl rfl dX9_become_99 ?_
  refine w_getI (j := 10) 100 hX CI_9 s_115 rfl fl_X9_68 rfl dX9_become_100 ?_
  obtain ⟨u11, gu11, h⟩ := o_bind h
  refine w_putI (j := 10) 103 hX CI_9 s_1 rfl fl_X9_68 rfl rfl rfl rfl dX9_become_103 ?_
  rw [Option.some.inj gu11]
  refine w_aload_n 0 106 hX rfl rfl dX9_become_106 ?_
  refine w_aload_n 1 107 hX rfl rfl dX9_become_107 ?_
  refine w_getI (j := 11) 108 hX CI_9 s_115 rfl fl_X9_71 rfl dX9_become_108 ?_
  obtain ⟨u12, gu12, h⟩ := o_bind h
  refine w_putI (j := 11) 111 hX CI_9 s_1 rfl fl_X9_71 rfl rfl rfl rfl dX9_become_111 ?_
  rw [Option.some.inj gu12]
  refine w_aload_n 0 114 hX rfl rfl dX9_become_114 ?_
  refine w_aload_n 1 115 hX rfl rfl dX9_become_115 ?_
  refine w_getI (j := 12) 116 hX CI_9 s_115 rfl fl_X9_74 rfl dX9_become_116 ?_
  obtain ⟨u13, gu13, h⟩ := o_bind h
  refine w_putI (j := 12) 119 hX CI_9 s_1 rfl fl_X9_74 rfl rfl rfl rfl dX9_become_119 ?_
  rw [Option.some.inj gu13]
  refine w_aload_n 0 122 hX rfl rfl dX9_become_122 ?_
  refine w_getR 123 hX CI_9 s_1 rfl r_1_13 fl_X9_40 rfl dX9_become_123 ?_
  refine w_aload_n 1 126 hX rfl rfl dX9_become_126 ?_
  refine w_getR 127 hX CI_9 s_115 rfl r_115_13 fl_X9_40 rfl dX9_become_127 ?_
  obtain ⟨u15, gu15, h⟩ := o_bind h
  refine w_invVv (av := [.ref 122]) (st := []) 130 hX CI_4 s_8 rfl mv_yX4_become mi_yX4_become ml_X9_77 (CX4_become_8_122 u13 gu15) rfl (by decide) (Nat.le_of_ble_eq_true rfl) (Nat.le_refl _) (Nat.le_refl _) dX9_become_130 ?_
  refine w_aload_n 0 133 hX rfl rfl dX9_become_133 ?_
  refine w_getR 134 hX CI_9 s_1 rfl r_1_14 fl_X9_47 rfl dX9_become_134 ?_
  refine w_aload_n 1 137 hX rfl rfl dX9_become_137 ?_
  refine w_getR 138 hX CI_9 s_115 rfl r_115_14 fl_X9_47 rfl dX9_become_138 ?_
  obtain ⟨u17, gu17, h⟩ := o_bind h
  refine w_invVv (av := [.ref 129]) (st := []) 141 hX CI_5 s_15 rfl mv_yX5_become mi_yX5_become ml_X9_81 (CX5_become_15_129 u15 gu17) rfl (by decide) (Nat.le_of_ble_eq_true rfl) (Nat.le_refl _) (Nat.le_refl _) dX9_become_141 ?_
  refine w_aload_n 0 144 hX rfl rfl dX9_become_144 ?_
  refine w_getR 145 hX CI_9 s_1 rfl r_1_15 fl_X9_54 rfl dX9_become_145 ?_
  refine w_aload_n 1 148 hX rfl rfl dX9_become_148 ?_
  refine w_getR 149 hX CI_9 s_115 rfl r_115_15 fl_X9_54 rfl dX9_become_149 ?_
  obtain ⟨u19, gu19, h⟩ := o_bind h
  refine w_invVv (av := [.ref 133]) (st := []) 152 hX CI_8 s_19 rfl mv_yX8_become mi_yX8_become ml_X9_84 (CX8_become_19_133 u17 gu19) rfl (by decide) (Nat.le_of_ble_eq_true rfl) (Nat.le_refl _) (Nat.le_refl _) dX9_become_152 ?_
  exact w_vret 155 hX hR dX9_become_155 (by cases h; rfl))
def FX0_become_23_137 (u : Mem) : Option Mem :=
  (some (cpM u 138 24 12)).bind fun u1 => (some (cpM u1 139 25 12)).bind fun u2 => (some (cpM u2 140 26 12)).bind fun u3 => (some (cpM u3 141 27 12)).bind fun u4 => (some (cpM u4 142 28 12)).bind fun u5 => (some (cpM u5 143 29 12)).bind fun u6 => (some (mupd u6 23 6 (u6 137 6))).bind fun u7 => (some (mupd u7 23 7 (u7 137 7))).bind fun u8 => (some (mupd u8 23 8 (u8 137 8))).bind fun u9 => (some (mupd u9 23 9 (u9 137 9))).bind fun u10 => some u10
theorem CX0_become_23_137 {G : Gt} (u : Mem) {u' : Mem} (h : FX0_become_23_137 u = some u') : CT G yX0_become cX0_become 2 none 3 [.ref 23, .ref 137] SH RHO u (none, SH, RHO, u') :=
  ct_of (by decide) rfl (Nat.le_of_ble_eq_true rfl) (Nat.le_refl _) (Nat.le_refl _) (fun X hX hR => by
  unfold FX0_become_23_137 at h
  refine w_aload_n 1 0 hX rfl rfl dX0_become_0 ?_
  refine w_getR 1 hX CI_0 s_137 rfl r_137_0 fl_X0_9 rfl dX0_become_1 ?_
  refine w_aload_n 0 4 hX rfl rfl dX0_become_4 ?_
  refine w_getR 5 hX CI_0 s_23 rfl r_23_0 fl_X0_9 rfl dX0_become_5 ?_
  obtain ⟨u1, gu1, h⟩ := o_bind h
  refine w_invSNv (av := [.ref 138, .ref 24]) (st := []) 8 hX ms_yX11_copy mi_yX11_copy ml_X0_34 (C_copy s_138 s_24 (by decide) (by decide) (by decide) gu1) rfl (by decide) (Nat.le_of_ble_eq_true rfl) (Nat.le_refl _) (Nat.le_refl _) dX0_become_8 ?_
  refine w_aload_n 1 11 hX rfl rfl dX0_become_11 ?_
  refine w_getR 12 hX CI_0 s_137 rfl r_137_1 fl_X0_15 rfl dX0_become_12 ?_
  refine w_aload_n 0 15 hX rfl rfl dX0_become_15 ?_
  refine w_getR 16 hX CI_0 s_23 rfl r_23_1 fl_X0_15 rfl dX0_become_16 ?_
  obtain ⟨u2, gu2, h⟩ := o_bind h
  refine w_invSNv (av := [.ref 139, .ref 25]) (st := []) 19 hX ms_yX11_copy mi_yX11_copy ml_X0_34 (C_copy s_139 s_25 (by decide) (by decide) (by decide) gu2) rfl (by decide) (Nat.le_of_ble_eq_true rfl) (Nat.le_refl _) (Nat.le_refl _) dX0_become_19 ?_
  refine w_aload_n 1 22 hX rfl rfl dX0_become_22 ?_
  refine w_getR 23 hX CI_0 s_137 rfl r_137_2 fl_X0_18 rfl dX0_become_23 ?_
  refine w_aload_n 0 26 hX rfl rfl dX0_become_26 ?_
  refine w_getR 27 hX CI_0 s_23 rfl r_23_2 fl_X0_18 rfl dX0_become_27 ?_
  obtain ⟨u3, gu3, h⟩ := o_bind h
  refine w_invSNv (av := [.ref 140, .ref 26]) (st := []) 30 hX ms_yX11_copy mi_yX11_copy ml_X0_34 (C_copy s_140 s_26 (by decide) (by decide) (by decide) gu3) rfl (by decide) (Nat.le_of_ble_eq_true rfl) (Nat.le_refl _) (Nat.le_refl _) dX0_become_30 ?_
  refine w_aload_n 1 33 hX rfl rfl dX0_become_33 ?_
  refine w_getR 34 hX CI_0 s_137 rfl r_137_3 fl_X0_21 rfl dX0_become_34 ?_
  refine w_aload_n 0 37 hX rfl rfl dX0_become_37 ?_
  refine w_getR 38 hX CI_0 s_23 rfl r_23_3 fl_X0_21 rfl dX0_become_38 ?_
  obtain ⟨u4, gu4, h⟩ := o_bind h
  refine w_invSNv (av := [.ref 141, .ref 27]) (st := []) 41 hX ms_yX11_copy mi_yX11_copy ml_X0_34 (C_copy s_141 s_27 (by decide) (by decide) (by decide) gu4) rfl (by decide) (Nat.le_of_ble_eq_true rfl) (Nat.le_refl _) (Nat.le_refl _) dX0_become_41 ?_
  refine w_aload_n 1 44 hX rfl rfl dX0_become_44 ?_
  refine w_getR 45 hX CI_0 s_137 rfl r_137_4 fl_X0_24 rfl dX0_become_45 ?_
  refine w_aload_n 0 48 hX rfl rfl dX0_become_48 ?_
  refine w_getR 49 hX CI_0 s_23 rfl r_23_4 fl_X0_24 rfl dX0_become_49 ?_
  obtain ⟨u5, gu5, h⟩ := o_bind h
  refine w_invSNv (av := [.ref 142, .ref 28]) (st := []) 52 hX ms_yX11_copy mi_yX11_copy ml_X0_34 (C_copy s_142 s_28 (by decide) (by decide) (by decide) gu5) rfl (by decide) (Nat.le_of_ble_eq_true rfl) (Nat.le_refl _) (Nat.le_refl _) dX0_become_52 ?_
  refine w_aload_n 1 55 hX rfl rfl dX0_become_55 ?_
  refine w_getR 56 hX CI_0 s_137 rfl r_137_5 fl_X0_27 rfl dX0_become_56 ?_
  refine w_aload_n 0 59 hX rfl rfl dX0_become_59 ?_
  refine w_getR 60 hX CI_0 s_23 rfl r_23_5 fl_X0_27 rfl dX0_become_60 ?_
  obtain ⟨u6, gu6, h⟩ := o_bind h
  refine w_invSNv (av := [.ref 143, .ref 29]) (st := []) 63 hX ms_yX11_copy mi_yX11_copy ml_X0_34 (C_copy s_143 s_29 (by decide) (by decide) (by decide) gu6) rfl (by decide) (Nat.le_of_ble_eq_true rfl) (Nat.le_refl _) (Nat.le_refl _) dX0_become_63 ?_
  refine w_aload_n 0 66 hX rfl rfl dX0_become_66 ?_
  refine w_aload_n 1 67 hX rfl rfl dX0_become_67 ?_
  refine w_getI (j := 6) 68 hX CI_0 s_137 rfl fl_X0_30 rfl dX0_become_68 ?_
  obtain ⟨u7, gu7, h⟩ := o_bind h
  refine w_putI (j := 6) 71 hX CI_0 s_23 rfl fl_X0_30 rfl rfl rfl rfl dX0_become_71 ?_
  rw [Option.some.inj gu7]
  refine w_aload_n 0 74 hX rfl rfl dX0_become_74 ?_
  refine w_aload_n 1 75 hX rfl rfl dX0_become_75 ?_
  refine w_getI (j := 7) 76 hX CI_0 s_137 rfl fl_X0_38 rfl dX0_become_76 ?_
  obtain ⟨u8, gu8, h⟩ := o_bind h
  refine w_putI (j := 7) 79 hX CI_0 s_23 rfl fl_X0_38 rfl rfl rfl rfl dX0_become_79 ?_
  rw [Option.some.inj gu8]
  refine w_aload_n 0 82 hX rfl rfl dX0_become_82 ?_
  refine w_aload_n 1 83 hX rfl rfl dX0_become_83 ?_
  refine w_getI (j := 8) 84 hX CI_0 s_137 rfl fl_X0_41 rfl dX0_become_84 ?_
  obtain ⟨u9, gu9, h⟩ := o_bind h
  refine w_putI (j := 8) 87 hX CI_0 s_23 rfl fl_X0_41 rfl rfl rfl rfl dX0_become_87 ?_
  rw [Option.some.inj gu9]
  refine w_aload_n 0 90 hX rfl rfl dX0_become_90 ?_
  refine w_aload_n 1 91 hX rfl rfl dX0_become_91 ?_
  refine w_getI (j := 9) 92 hX CI_0 s_137 rfl fl_X0_44 rfl dX0_become_92 ?_
  obtain ⟨u10, gu10, h⟩ := o_bind h
  refine w_putI (j := 9) 95 hX CI_0 s_23 rfl fl_X0_44 rfl rfl rfl rfl dX0_become_95 ?_
  rw [Option.some.inj gu10]
  exact w_vret 98 hX hR dX0_become_98 (by cases h; rfl))
def FX1_become_30_144 (u : Mem) : Option Mem :=
  (some (cpM u 145 31 600)).bind fun u1 => some u1
theorem CX1_become_30_144 {G : Gt} (u : Mem) {u' : Mem} (h : FX1_become_30_144 u = some u') : CT G yX1_become cX1_become 2 none 3 [.ref 30, .ref 144] SH RHO u (none, SH, RHO, u') :=
  ct_of (by decide) rfl (Nat.le_of_ble_eq_true rfl) (Nat.le_refl _) (Nat.le_refl _) (fun X hX hR => by
  unfold FX1_become_30_144 at h
  refine w_aload_n 1 0 hX rfl rfl dX1_become_0 ?_
  refine w_getR 1 hX CI_1 s_144 rfl r_144_0 fl_X1_11 rfl dX1_become_1 ?_
  refine w_aload_n 0 4 hX rfl rfl dX1_become_4 ?_
  refine w_getR 5 hX CI_1 s_30 rfl r_30_0 fl_X1_11 rfl dX1_become_5 ?_
  obtain ⟨u1, gu1, h⟩ := o_bind h
  refine w_invSNv (av := [.ref 145, .ref 31]) (st := []) 8 hX ms_yX11_copy mi_yX11_copy ml_X1_15 (C_copy s_145 s_31 (by decide) (by decide) (by decide) gu1) rfl (by decide) (Nat.le_of_ble_eq_true rfl) (Nat.le_refl _) (Nat.le_refl _) dX1_become_8 ?_
  exact w_vret 11 hX hR dX1_become_11 (by cases h; rfl))
def FX4_become_122_8 (u : Mem) : Option Mem :=
  (some (cpM u 9 123 400)).bind fun u1 => (some (cpM u1 10 124 16)).bind fun u2 => (some (cpM u2 11 125 16)).bind fun u3 => (some (cpM u3 12 126 16)).bind fun u4 => (some (cpM u4 13 127 16)).bind fun u5 => (some (mupd u5 122 6 (u5 8 6))).bind fun u6 => (some (mupd u6 122 7 (u6 8 7))).bind fun u7 => some u7
theorem CX4_become_122_8 {G : Gt} (u : Mem) {u' : Mem} (h : FX4_become_122_8 u = some u') : CT G yX4_become cX4_become 2 none 3 [.ref 122, .ref 8] SH RHO u (none, SH, RHO, u') :=
  ct_of (by decide) rfl (Nat.le_of_ble_eq_true rfl) (Nat.le_refl _) (Nat.le_refl _) (fun X hX hR => by
  unfold FX4_become_122_8 at h
  refine w_aload_n 1 0 hX rfl rfl dX4_become_0 ?_
  refine w_getR 1 hX CI_4 s_8 rfl r_8_0 fl_X4_9 rfl dX4_become_1 ?_
  refine w_aload_n 0 4 hX rfl rfl dX4_become_4 ?_
  refine w_getR 5 hX CI_4 s_122 rfl r_122_0 fl_X4_9 rfl dX4_become_5 ?_
  obtain ⟨u1, gu1, h⟩ := o_bind h
  refine w_invSNv (av := [.ref 9, .ref 123]) (st := []) 8 hX ms_yX11_copy mi_yX11_copy ml_X4_30 (C_copy s_9 s_123 (by decide) (by decide) (by decide) gu1) rfl (by decide) (Nat.le_of_ble_eq_true rfl) (Nat.le_refl _) (Nat.le_refl _) dX4_become_8 ?_
  refine w_aload_n 1 11 hX rfl rfl dX4_become_11 ?_
  refine w_getR 12 hX CI_4 s_8 rfl r_8_1 fl_X4_15 rfl dX4_become_12 ?_
  refine w_aload_n 0 15 hX rfl rfl dX4_become_15 ?_
  refine w_getR 16 hX CI_4 s_122 rfl r_122_1 fl_X4_15 rfl dX4_become_16 ?_
  obtain ⟨u2, gu2, h⟩ := o_bind h
  refine w_invSNv (av := [.ref 10, .ref 124]) (st := []) 19 hX ms_yX11_copy mi_yX11_copy ml_X4_30 (C_copy s_10 s_124 (by decide) (by decide) (by decide) gu2) rfl (by decide) (Nat.le_of_ble_eq_true rfl) (Nat.le_refl _) (Nat.le_refl _) dX4_become_19 ?_
  refine w_aload_n 1 22 hX rfl rfl dX4_become_22 ?_
  refine w_getR 23 hX CI_4 s_8 rfl r_8_2 fl_X4_18 rfl dX4_become_23 ?_
  refine w_aload_n 0 26 hX rfl rfl dX4_become_26 ?_
  refine w_getR 27 hX CI_4 s_122 rfl r_122_2 fl_X4_18 rfl dX4_become_27 ?_
  obtain ⟨u3, gu3, h⟩ := o_bind h
  refine w_invSNv (av := [.ref 11, .ref 125]) (st := []) 30 hX ms_yX11_copy mi_yX11_copy ml_X4_30 (C_copy s_11 s_125 (by decide) (by decide) (by decide) gu3) rfl (by decide) (Nat.le_of_ble_eq_true rfl) (Nat.le_refl _) (Nat.le_refl _) dX4_become_30 ?_
  refine w_aload_n 1 33 hX rfl rfl dX4_become_33 ?_
  refine w_getR 34 hX CI_4 s_8 rfl r_8_3 fl_X4_21 rfl dX4_become_34 ?_
  refine w_aload_n 0 37 hX rfl rfl dX4_become_37 ?_
  refine w_getR 38 hX CI_4 s_122 rfl r_122_3 fl_X4_21 rfl dX4_become_38 ?_
  obtain ⟨u4, gu4, h⟩ := o_bind h
  refine w_invSNv (av := [.ref 12, .ref 126]) (st := []) 41 hX ms_yX11_copy mi_yX11_copy ml_X4_30 (C_copy s_12 s_126 (by decide) (by decide) (by decide) gu4) rfl (by decide) (Nat.le_of_ble_eq_true rfl) (Nat.le_refl _) (Nat.le_refl _) dX4_become_41 ?_
  refine w_aload_n 1 44 hX rfl rfl dX4_become_44 ?_
  refine w_getR 45 hX CI_4 s_8 rfl r_8_4 fl_X4_24 rfl dX4_become_45 ?_
  refine w_aload_n 0 48 hX rfl rfl dX4_become_48 ?_
  refine w_getR 49 hX CI_4 s_122 rfl r_122_4 fl_X4_24 rfl dX4_become_49 ?_
  obtain ⟨u5, gu5, h⟩ := o_bind h
  refine w_invSNv (av := [.ref 13, .ref 127]) (st := []) 52 hX ms_yX11_copy mi_yX11_copy ml_X4_30 (C_copy s_13 s_127 (by decide) (by decide) (by decide) gu5) rfl (by decide) (Nat.le_of_ble_eq_true rfl) (Nat.le_refl _) (Nat.le_refl _) dX4_become_52 ?_
  refine w_aload_n 0 55 hX rfl rfl dX4_become_55 ?_
  refine w_aload_n 1 56 hX rfl rfl dX4_become_56 ?_
  refine w_getI (j := 6) 57 hX CI_4 s_8 rfl fl_X4_34 rfl dX4_become_57 ?_
  obtain ⟨u6, gu6, h⟩ := o_bind h
  refine w_putI (j := 6) 60 hX CI_4 s_122 rfl fl_X4_34 rfl rfl rfl rfl dX4_become_60 ?_
  rw [Option.some.inj gu6]
  refine w_aload_n 0 63 hX rfl rfl dX4_become_63 ?_
  refine w_aload_n 1 64 hX rfl rfl dX4_become_64 ?_
  refine w_getI (j := 7) 65 hX CI_4 s_8 rfl fl_X4_38 rfl dX4_become_65 ?_
  obtain ⟨u7, gu7, h⟩ := o_bind h
  refine w_putI (j := 7) 68 hX CI_4 s_122 rfl fl_X4_38 rfl rfl rfl rfl dX4_become_68 ?_
  rw [Option.some.inj gu7]
  exact w_vret 71 hX hR dX4_become_71 (by cases h; rfl))
def FX5_become_129_15 (u : Mem) : Option Mem :=
  (some (cpM u 16 130 16)).bind fun u1 => (some (cpM u1 17 131 16)).bind fun u2 => (some (cpM u2 18 132 16)).bind fun u3 => (some (mupd u3 129 3 (u3 15 3))).bind fun u4 => some u4
theorem CX5_become_129_15 {G : Gt} (u : Mem) {u' : Mem} (h : FX5_become_129_15 u = some u') : CT G yX5_become cX5_become 2 none 3 [.ref 129, .ref 15] SH RHO u (none, SH, RHO, u') :=
  ct_of (by decide) rfl (Nat.le_of_ble_eq_true rfl) (Nat.le_refl _) (Nat.le_refl _) (fun X hX hR => by
  unfold FX5_become_129_15 at h
  refine w_aload_n 1 0 hX rfl rfl dX5_become_0 ?_
  refine w_getR 1 hX CI_5 s_15 rfl r_15_0 fl_X5_9 rfl dX5_become_1 ?_
  refine w_aload_n 0 4 hX rfl rfl dX5_become_4 ?_
  refine w_getR 5 hX CI_5 s_129 rfl r_129_0 fl_X5_9 rfl dX5_become_5 ?_
  obtain ⟨u1, gu1, h⟩ := o_bind h
  refine w_invSNv (av := [.ref 16, .ref 130]) (st := []) 8 hX ms_yX11_copy mi_yX11_copy ml_X5_21 (C_copy s_16 s_130 (by decide) (by decide) (by decide) gu1) rfl (by decide) (Nat.le_of_ble_eq_true rfl) (Nat.le_refl _) (Nat.le_refl _) dX5_become_8 ?_
  refine w_aload_n 1 11 hX rfl rfl dX5_become_11 ?_
  refine w_getR 12 hX CI_5 s_15 rfl r_15_1 fl_X5_15 rfl dX5_become_12 ?_
  refine w_aload_n 0 15 hX rfl rfl dX5_become_15 ?_
  refine w_getR 16 hX CI_5 s_129 rfl r_129_1 fl_X5_15 rfl dX5_become_16 ?_
  obtain ⟨u2, gu2, h⟩ := o_bind h
  refine w_invSNv (av := [.ref 17, .ref 131]) (st := []) 19 hX ms_yX11_copy mi_yX11_copy ml_X5_21 (C_copy s_17 s_131 (by decide) (by decide) (by decide) gu2) rfl (by decide) (Nat.le_of_ble_eq_true rfl) (Nat.le_refl _) (Nat.le_refl _) dX5_become_19 ?_
  refine w_aload_n 1 22 hX rfl rfl dX5_become_22 ?_
  refine w_getR 23 hX CI_5 s_15 rfl r_15_2 fl_X5_18 rfl dX5_become_23 ?_
  refine w_aload_n 0 26 hX rfl rfl dX5_become_26 ?_
  refine w_getR 27 hX CI_5 s_129 rfl r_129_2 fl_X5_18 rfl dX5_become_27 ?_
  obtain ⟨u3, gu3, h⟩ := o_bind h
  refine w_invSNv (av := [.ref 18, .ref 132]) (st := []) 30 hX ms_yX11_copy mi_yX11_copy ml_X5_21 (C_copy s_18 s_132 (by decide) (by decide) (by decide) gu3) rfl (by decide) (Nat.le_of_ble_eq_true rfl) (Nat.le_refl _) (Nat.le_refl _) dX5_become_30 ?_
  refine w_aload_n 0 33 hX rfl rfl dX5_become_33 ?_
  refine w_aload_n 1 34 hX rfl rfl dX5_become_34 ?_
  refine w_getI (j := 3) 35 hX CI_5 s_15 rfl fl_X5_25 rfl dX5_become_35 ?_
  obtain ⟨u4, gu4, h⟩ := o_bind h
  refine w_putI (j := 3) 38 hX CI_5 s_129 rfl fl_X5_25 rfl rfl rfl rfl dX5_become_38 ?_
  rw [Option.some.inj gu4]
  exact w_vret 41 hX hR dX5_become_41 (by cases h; rfl))
def FX8_become_133_19 (u : Mem) : Option Mem :=
  (some (cpM u 20 134 10)).bind fun u1 => (some (cpM u1 21 135 10)).bind fun u2 => (some (cpM u2 22 136 10)).bind fun u3 => (some (mupd u3 133 3 (u3 19 3))).bind fun u4 => some u4
theorem CX8_become_133_19 {G : Gt} (u : Mem) {u' : Mem} (h : FX8_become_133_19 u = some u') : CT G yX8_become cX8_become 2 none 3 [.ref 133, .ref 19] SH RHO u (none, SH, RHO, u') :=
  ct_of (by decide) rfl (Nat.le_of_ble_eq_true rfl) (Nat.le_refl _) (Nat.le_refl _) (fun X hX hR => by
  unfold FX8_become_133_19 at h
  refine w_aload_n 1 0 hX rfl rfl dX8_become_0 ?_
  refine w_getR 1 hX CI_8 s_19 rfl r_19_0 fl_X8_11 rfl dX8_become_1 ?_
  refine w_aload_n 0 4 hX rfl rfl dX8_become_4 ?_
  refine w_getR 5 hX CI_8 s_133 rfl r_133_0 fl_X8_11 rfl dX8_become_5 ?_
  obtain ⟨u1, gu1, h⟩ := o_bind h
  refine w_invSNv (av := [.ref 20, .ref 134]) (st := []) 8 hX ms_yX11_copy mi_yX11_copy ml_X8_21 (C_copy s_20 s_134 (by decide) (by decide) (by decide) gu1) rfl (by decide) (Nat.le_of_ble_eq_true rfl) (Nat.le_refl _) (Nat.le_refl _) dX8_become_8 ?_
  refine w_aload_n 1 11 hX rfl rfl dX8_become_11 ?_
  refine w_getR 12 hX CI_8 s_19 rfl r_19_1 fl_X8_15 rfl dX8_become_12 ?_
  refine w_aload_n 0 15 hX rfl rfl dX8_become_15 ?_
  refine w_getR 16 hX CI_8 s_133 rfl r_133_1 fl_X8_15 rfl dX8_become_16 ?_
  obtain ⟨u2, gu2, h⟩ := o_bind h
  refine w_invSNv (av := [.ref 21, .ref 135]) (st := []) 19 hX ms_yX11_copy mi_yX11_copy ml_X8_21 (C_copy s_21 s_135 (by decide) (by decide) (by decide) gu2) rfl (by decide) (Nat.le_of_ble_eq_true rfl) (Nat.le_refl _) (Nat.le_refl _) dX8_become_19 ?_
  refine w_aload_n 1 22 hX rfl rfl dX8_become_22 ?_
  refine w_getR 23 hX CI_8 s_19 rfl r_19_2 fl_X8_18 rfl dX8_become_23 ?_
  refine w_aload_n 0 26 hX rfl rfl dX8_become_26 ?_
  refine w_getR 27 hX CI_8 s_133 rfl r_133_2 fl_X8_18 rfl dX8_become_27 ?_
  obtain ⟨u3, gu3, h⟩ := o_bind h
  refine w_invSNv (av := [.ref 22, .ref 136]) (st := []) 30 hX ms_yX11_copy mi_yX11_copy ml_X8_21 (C_copy s_22 s_136 (by decide) (by decide) (by decide) gu3) rfl (by decide) (Nat.le_of_ble_eq_true rfl) (Nat.le_refl _) (Nat.le_refl _) dX8_become_30 ?_
  refine w_aload_n 0 33 hX rfl rfl dX8_become_33 ?_
  refine w_aload_n 1 34 hX rfl rfl dX8_become_34 ?_
  refine w_getI (j := 3) 35 hX CI_8 s_19 rfl fl_X8_25 rfl dX8_become_35 ?_
  obtain ⟨u4, gu4, h⟩ := o_bind h
  refine w_putI (j := 3) 38 hX CI_8 s_133 rfl fl_X8_25 rfl rfl rfl rfl dX8_become_38 ?_
  rw [Option.some.inj gu4]
  exact w_vret 41 hX hR dX8_become_41 (by cases h; rfl))
def FX9_become_115_1 (u : Mem) : Option Mem :=
  (some (mupd u 115 0 (u 1 0))).bind fun u1 => (some (cpM u1 2 116 12)).bind fun u2 => (some (cpM u2 3 117 12)).bind fun u3 => (some (cpM u3 4 118 12)).bind fun u4 => (some (cpM u4 5 119 12)).bind fun u5 => (some (cpM u5 6 120 2)).bind fun u6 => (some (cpM u6 7 121 8)).bind fun u7 => (some (mupd u7 115 7 (u7 1 7))).bind fun u8 => (some (mupd u8 115 8 (u8 1 8))).bind fun u9 => (some (mupd u9 115 9 (u9 1 9))).bind fun u10 => (some (mupd u10 115 10 (u10 1 10))).bind fun u11 => (some (mupd u11 115 11 (u11 1 11))).bind fun u12 => (some (mupd u12 115 12 (u12 1 12))).bind fun u13 => (FX4_become_122_8 u13).bind fun u15 => (FX5_become_129_15 u15).bind fun u17 => (FX8_become_133_19 u17).bind fun u19 => some u19
theorem CX9_become_115_1 {G : Gt} (u : Mem) {u' : Mem} (h : FX9_become_115_1 u = some u') : CT G yX9_become cX9_become 2 none 4 [.ref 115, .ref 1] SH RHO u (none, SH, RHO, u') :=
  ct_of (by decide) rfl (Nat.le_of_ble_eq_true rfl) (Nat.le_refl _) (Nat.le_refl _) (fun X hX hR => by
  unfold FX9_become_115_1 at h
  refine w_aload_n 0 0 hX rfl rfl dX9_become_0 ?_
  refine w_aload_n 1 1 hX rfl rfl dX9_become_1 ?_
  refine w_getI (j := 0) 2 hX CI_9 s_1 rfl fl_X9_58 rfl dX9_become_2 ?_
  obtain ⟨u1, gu1, h⟩ := o_bind h
  refine w_putI (j := 0) 5 hX CI_9 s_115 rfl fl_X9_58 rfl rfl rfl rfl dX9_become_5 ?_
  rw [Option.some.inj gu1]
  refine w_aload_n 1 8 hX rfl rfl dX9_become_8 ?_
  refine w_getR 9 hX CI_9 s_1 rfl r_1_1 fl_X9_9 rfl dX9_become_9 ?_
  refine w_aload_n 0 12 hX rfl rfl dX9_become_12 ?_
  refine w_getR 13 hX CI_9 s_115 rfl r_115_1 fl_X9_9 rfl dX9_become_13 ?_
  obtain ⟨u2, gu2, h⟩ := o_bind h
  refine w_invSNv (av := [.ref 2, .ref 116]) (st := []) 16 hX ms_yX11_copy mi_yX11_copy ml_X9_61 (C_copy s_2 s_116 (by decide) (by decide) (by decide) gu2) rfl (by decide) (Nat.le_of_ble_eq_true rfl) (Nat.le_refl _) (Nat.le_refl _) dX9_become_16 ?_
  refine w_aload_n 1 19 hX rfl rfl dX9_become_19 ?_
  refine w_getR 20 hX CI_9 s_1 rfl r_1_2 fl_X9_15 rfl dX9_become_20 ?_
  refine w_aload_n 0 23 hX rfl rfl dX9_become_23 ?_
  refine w_getR 24 hX CI_9 s_115 rfl r_115_2 fl_X9_15 rfl dX9_become_24 ?_
  obtain ⟨u3, gu3, h⟩ := o_bind h
  refine w_invSNv (av := [.ref 3, .ref 117]) (st := []) 27 hX ms_yX11_copy mi_yX11_copy ml_X9_61 (C_copy s_3 s_117 (by decide) (by decide) (by decide) gu3) rfl (by decide) (Nat.le_of_ble_eq_true rfl) (Nat.le_refl _) (Nat.le_refl _) dX9_become_27 ?_
  refine w_aload_n 1 30 hX rfl rfl dX9_become_30 ?_
  refine w_getR 31 hX CI_9 s_1 rfl r_1_3 fl_X9_18 rfl dX9_become_31 ?_
  refine w_aload_n 0 34 hX rfl rfl dX9_become_34 ?_
  refine w_getR 35 hX CI_9 s_115 rfl r_115_3 fl_X9_18 rfl dX9_become_35 ?_
  obtain ⟨u4, gu4, h⟩ := o_bind h
  refine w_invSNv (av := [.ref 4, .ref 118]) (st := []) 38 hX ms_yX11_copy mi_yX11_copy ml_X9_61 (C_copy s_4 s_118 (by decide) (by decide) (by decide) gu4) rfl (by decide) (Nat.le_of_ble_eq_true rfl) (Nat.le_refl _) (Nat.le_refl _) dX9_become_38 ?_
  refine w_aload_n 1 41 hX rfl rfl dX9_become_41 ?_
  refine w_getR 42 hX CI_9 s_1 rfl r_1_4 fl_X9_21 rfl dX9_become_42 ?_
  refine w_aload_n 0 45 hX rfl rfl dX9_become_45 ?_
  refine w_getR 46 hX CI_9 s_115 rfl r_115_4 fl_X9_21 rfl dX9_become_46 ?_
  obtain ⟨u5, gu5, h⟩ := o_bind h
  refine w_invSNv (av := [.ref 5, .ref 119]) (st := []) 49 hX ms_yX11_copy mi_yX11_copy ml_X9_61 (C_copy s_5 s_119 (by decide) (by decide) (by decide) gu5) rfl (by decide) (Nat.le_of_ble_eq_true rfl) (Nat.le_refl _) (Nat.le_refl _) dX9_become_49 ?_
  refine w_aload_n 1 52 hX rfl rfl dX9_become_52 ?_
  refine w_getR 53 hX CI_9 s_1 rfl r_1_5 fl_X9_24 rfl dX9_become_53 ?_
  refine w_aload_n 0 56 hX rfl rfl dX9_become_56 ?_
  refine w_getR 57 hX CI_9 s_115 rfl r_115_5 fl_X9_24 rfl dX9_become_57 ?_
  obtain ⟨u6, gu6, h⟩ := o_bind h
  refine w_invSNv (av := [.ref 6, .ref 120]) (st := []) 60 hX ms_yX11_copy mi_yX11_copy ml_X9_61 (C_copy s_6 s_120 (by decide) (by decide) (by decide) gu6) rfl (by decide) (Nat.le_of_ble_eq_true rfl) (Nat.le_refl _) (Nat.le_refl _) dX9_become_60 ?_
  refine w_aload_n 1 63 hX rfl rfl dX9_become_63 ?_
  refine w_getR 64 hX CI_9 s_1 rfl r_1_6 fl_X9_27 rfl dX9_become_64 ?_
  refine w_aload_n 0 67 hX rfl rfl dX9_become_67 ?_
  refine w_getR 68 hX CI_9 s_115 rfl r_115_6 fl_X9_27 rfl dX9_become_68 ?_
  obtain ⟨u7, gu7, h⟩ := o_bind h
  refine w_invSNv (av := [.ref 7, .ref 121]) (st := []) 71 hX ms_yX11_copy mi_yX11_copy ml_X9_61 (C_copy s_7 s_121 (by decide) (by decide) (by decide) gu7) rfl (by decide) (Nat.le_of_ble_eq_true rfl) (Nat.le_refl _) (Nat.le_refl _) dX9_become_71 ?_
  refine w_aload_n 0 74 hX rfl rfl dX9_become_74 ?_
  refine w_aload_n 1 75 hX rfl rfl dX9_become_75 ?_
  refine w_getI (j := 7) 76 hX CI_9 s_1 rfl fl_X9_30 rfl dX9_become_76 ?_
  obtain ⟨u8, gu8, h⟩ := o_bind h
  refine w_putI (j := 7) 79 hX CI_9 s_115 rfl fl_X9_30 rfl rfl rfl rfl dX9_become_79 ?_
  rw [Option.some.inj gu8]
  refine w_aload_n 0 82 hX rfl rfl dX9_become_82 ?_
  refine w_aload_n 1 83 hX rfl rfl dX9_become_83 ?_
  refine w_getI (j := 8) 84 hX CI_9 s_1 rfl fl_X9_65 rfl dX9_become_84 ?_
  obtain ⟨u9, gu9, h⟩ := o_bind h
  refine w_putI (j := 8) 87 hX CI_9 s_115 rfl fl_X9_65 rfl rfl rfl rfl dX9_become_87 ?_
  rw [Option.some.inj gu9]
  refine w_aload_n 0 90 hX rfl rfl dX9_become_90 ?_
  refine w_aload_n 1 91 hX rfl rfl dX9_become_91 ?_
  refine w_getI (j := 9) 92 hX CI_9 s_1 rfl fl_X9_34 rfl dX9_become_92 ?_
  obtain ⟨u10, gu10, h⟩ := o_bind h
  refine w_putI (j := 9) 95 hX CI_9 s_115 rfl fl_X9_34 rfl rfl rfl rfl dX9_become_95 ?_
  rw [Option.some.inj gu10]
  refine w_aload_n 0 98 hX rfl rfl dX9_become_98 ?_
  refine w_aload_n 1 99 hX rfl rfl dX9_become_99 ?_
  refine w_getI (j := 10) 100 hX CI_9 s_1 rfl fl_X9_68 rfl dX9_become_100 ?_
  obtain ⟨u11, gu11, h⟩ := o_bind h
  refine w_putI (j := 10) 103 hX CI_9 s_115 rfl fl_X9_68 rfl rfl rfl rfl dX9_become_103 ?_
  rw [Option.some.inj gu11]
  refine w_aload_n 0 106 hX rfl rfl dX9_become_106 ?_
  refine w_aload_n 1 107 hX rfl rfl dX9_become_107 ?_
  refine w_getI (j := 11) 108 hX CI_9 s_1 rfl fl_X9_71 rfl dX9_become_108 ?_
  obtain ⟨u12, gu12, h⟩ := o_bind h
  refine w_putI (j := 11) 111 hX CI_9 s_115 rfl fl_X9_71 rfl rfl rfl rfl dX9_become_111 ?_
  rw [Option.some.inj gu12]
  refine w_aload_n 0 114 hX rfl rfl dX9_become_114 ?_
  refine w_aload_n 1 115 hX rfl rfl dX9_become_115 ?_
  refine w_getI (j := 12) 116 hX CI_9 s_1 rfl fl_X9_74 rfl dX9_become_116 ?_
  obtain ⟨u13, gu13, h⟩ := o_bind h
  refine w_putI (j := 12) 119 hX CI_9 s_115 rfl fl_X9_74 rfl rfl rfl rfl dX9_become_119 ?_
  rw [Option.some.inj gu13]
  refine w_aload_n 0 122 hX rfl rfl dX9_become_122 ?_
  refine w_getR 123 hX CI_9 s_115 rfl r_115_13 fl_X9_40 rfl dX9_become_123 ?_
  refine w_aload_n 1 126 hX rfl rfl dX9_become_126 ?_
  refine w_getR 127 hX CI_9 s_1 rfl r_1_13 fl_X9_40 rfl dX9_become_127 ?_
  obtain ⟨u15, gu15, h⟩ := o_bind h
  refine w_invVv (av := [.ref 8]) (st := []) 130 hX CI_4 s_122 rfl mv_yX4_become mi_yX4_become ml_X9_77 (CX4_become_122_8 u13 gu15) rfl (by decide) (Nat.le_of_ble_eq_true rfl) (Nat.le_refl _) (Nat.le_refl _) dX9_become_130 ?_
  refine w_aload_n 0 133 hX rfl rfl dX9_become_133 ?_
  refine w_getR 134 hX CI_9 s_115 rfl r_115_14 fl_X9_47 rfl dX9_become_134 ?_
  refine w_aload_n 1 137 hX rfl rfl dX9_become_137 ?_
  refine w_getR 138 hX CI_9 s_1 rfl r_1_14 fl_X9_47 rfl dX9_become_138 ?_
  obtain ⟨u17, gu17, h⟩ := o_bind h
  refine w_invVv (av := [.ref 15]) (st := []) 141 hX CI_5 s_129 rfl mv_yX5_become mi_yX5_become ml_X9_81 (CX5_become_129_15 u15 gu17) rfl (by decide) (Nat.le_of_ble_eq_true rfl) (Nat.le_refl _) (Nat.le_refl _) dX9_become_141 ?_
  refine w_aload_n 0 144 hX rfl rfl dX9_become_144 ?_
  refine w_getR 145 hX CI_9 s_115 rfl r_115_15 fl_X9_54 rfl dX9_become_145 ?_
  refine w_aload_n 1 148 hX rfl rfl dX9_become_148 ?_
  refine w_getR 149 hX CI_9 s_1 rfl r_1_15 fl_X9_54 rfl dX9_become_149 ?_
  obtain ⟨u19, gu19, h⟩ := o_bind h
  refine w_invVv (av := [.ref 19]) (st := []) 152 hX CI_8 s_133 rfl mv_yX8_become mi_yX8_become ml_X9_84 (CX8_become_133_19 u17 gu19) rfl (by decide) (Nat.le_of_ble_eq_true rfl) (Nat.le_refl _) (Nat.le_refl _) dX9_become_152 ?_
  exact w_vret 155 hX hR dX9_become_155 (by cases h; rfl))
def FX0_become_137_23 (u : Mem) : Option Mem :=
  (some (cpM u 24 138 12)).bind fun u1 => (some (cpM u1 25 139 12)).bind fun u2 => (some (cpM u2 26 140 12)).bind fun u3 => (some (cpM u3 27 141 12)).bind fun u4 => (some (cpM u4 28 142 12)).bind fun u5 => (some (cpM u5 29 143 12)).bind fun u6 => (some (mupd u6 137 6 (u6 23 6))).bind fun u7 => (some (mupd u7 137 7 (u7 23 7))).bind fun u8 => (some (mupd u8 137 8 (u8 23 8))).bind fun u9 => (some (mupd u9 137 9 (u9 23 9))).bind fun u10 => some u10
theorem CX0_become_137_23 {G : Gt} (u : Mem) {u' : Mem} (h : FX0_become_137_23 u = some u') : CT G yX0_become cX0_become 2 none 3 [.ref 137, .ref 23] SH RHO u (none, SH, RHO, u') :=
  ct_of (by decide) rfl (Nat.le_of_ble_eq_true rfl) (Nat.le_refl _) (Nat.le_refl _) (fun X hX hR => by
  unfold FX0_become_137_23 at h
  refine w_aload_n 1 0 hX rfl rfl dX0_become_0 ?_
  refine w_getR 1 hX CI_0 s_23 rfl r_23_0 fl_X0_9 rfl dX0_become_1 ?_
  refine w_aload_n 0 4 hX rfl rfl dX0_become_4 ?_
  refine w_getR 5 hX CI_0 s_137 rfl r_137_0 fl_X0_9 rfl dX0_become_5 ?_
  obtain ⟨u1, gu1, h⟩ := o_bind h
  refine w_invSNv (av := [.ref 24, .ref 138]) (st := []) 8 hX ms_yX11_copy mi_yX11_copy ml_X0_34 (C_copy s_24 s_138 (by decide) (by decide) (by decide) gu1) rfl (by decide) (Nat.le_of_ble_eq_true rfl) (Nat.le_refl _) (Nat.le_refl _) dX0_become_8 ?_
  refine w_aload_n 1 11 hX rfl rfl dX0_become_11 ?_
  refine w_getR 12 hX CI_0 s_23 rfl r_23_1 fl_X0_15 rfl dX0_become_12 ?_
  refine w_aload_n 0 15 hX rfl rfl dX0_become_15 ?_
  refine w_getR 16 hX CI_0 s_137 rfl r_137_1 fl_X0_15 rfl dX0_become_16 ?_
  obtain ⟨u2, gu2, h⟩ := o_bind h
  refine w_invSNv (av := [.ref 25, .ref 139]) (st := []) 19 hX ms_yX11_copy mi_yX11_copy ml_X0_34 (C_copy s_25 s_139 (by decide) (by decide) (by decide) gu2) rfl (by decide) (Nat.le_of_ble_eq_true rfl) (Nat.le_refl _) (Nat.le_refl _) dX0_become_19 ?_
  refine w_aload_n 1 22 hX rfl rfl dX0_become_22 ?_
  refine w_getR 23 hX CI_0 s_23 rfl r_23_2 fl_X0_18 rfl dX0_become_23 ?_
  refine w_aload_n 0 26 hX rfl rfl dX0_become_26 ?_
  refine w_getR 27 hX CI_0 s_137 rfl r_137_2 fl_X0_18 rfl dX0_become_27 ?_
  obtain ⟨u3, gu3, h⟩ := o_bind h
  refine w_invSNv (av := [.ref 26, .ref 140]) (st := []) 30 hX ms_yX11_copy mi_yX11_copy ml_X0_34 (C_copy s_26 s_140 (by decide) (by decide) (by decide) gu3) rfl (by decide) (Nat.le_of_ble_eq_true rfl) (Nat.le_refl _) (Nat.le_refl _) dX0_become_30 ?_
  refine w_aload_n 1 33 hX rfl rfl dX0_become_33 ?_
  refine w_getR 34 hX CI_0 s_23 rfl r_23_3 fl_X0_21 rfl dX0_become_34 ?_
  refine w_aload_n 0 37 hX rfl rfl dX0_become_37 ?_
  refine w_getR 38 hX CI_0 s_137 rfl r_137_3 fl_X0_21 rfl dX0_become_38 ?_
  obtain ⟨u4, gu4, h⟩ := o_bind h
  refine w_invSNv (av := [.ref 27, .ref 141]) (st := []) 41 hX ms_yX11_copy mi_yX11_copy ml_X0_34 (C_copy s_27 s_141 (by decide) (by decide) (by decide) gu4) rfl (by decide) (Nat.le_of_ble_eq_true rfl) (Nat.le_refl _) (Nat.le_refl _) dX0_become_41 ?_
  refine w_aload_n 1 44 hX rfl rfl dX0_become_44 ?_
  refine w_getR 45 hX CI_0 s_23 rfl r_23_4 fl_X0_24 rfl dX0_become_45 ?_
  refine w_aload_n 0 48 hX rfl rfl dX0_become_48 ?_
  refine w_getR 49 hX CI_0 s_137 rfl r_137_4 fl_X0_24 rfl dX0_become_49 ?_
  obtain ⟨u5, gu5, h⟩ := o_bind h
  refine w_invSNv (av := [.ref 28, .ref 142]) (st := []) 52 hX ms_yX11_copy mi_yX11_copy ml_X0_34 (C_copy s_28 s_142 (by decide) (by decide) (by decide) gu5) rfl (by decide) (Nat.le_of_ble_eq_true rfl) (Nat.le_refl _) (Nat.le_refl _) dX0_become_52 ?_
  refine w_aload_n 1 55 hX rfl rfl dX0_become_55 ?_
  refine w_getR 56 hX CI_0 s_23 rfl r_23_5 fl_X0_27 rfl dX0_become_56 ?_
  refine w_aload_n 0 59 hX rfl rfl dX0_become_59 ?_
  refine w_getR 60 hX CI_0 s_137 rfl r_137_5 fl_X0_27 rfl dX0_become_60 ?_
  obtain ⟨u6, gu6, h⟩ := o_bind h
  refine w_invSNv (av := [.ref 29, .ref 143]) (st := []) 63 hX ms_yX11_copy mi_yX11_copy ml_X0_34 (C_copy s_29 s_143 (by decide) (by decide) (by decide) gu6) rfl (by decide) (Nat.le_of_ble_eq_true rfl) (Nat.le_refl _) (Nat.le_refl _) dX0_become_63 ?_
  refine w_aload_n 0 66 hX rfl rfl dX0_become_66 ?_
  refine w_aload_n 1 67 hX rfl rfl dX0_become_67 ?_
  refine w_getI (j := 6) 68 hX CI_0 s_23 rfl fl_X0_30 rfl dX0_become_68 ?_
  obtain ⟨u7, gu7, h⟩ := o_bind h
  refine w_putI (j := 6) 71 hX CI_0 s_137 rfl fl_X0_30 rfl rfl rfl rfl dX0_become_71 ?_
  rw [Option.some.inj gu7]
  refine w_aload_n 0 74 hX rfl rfl dX0_become_74 ?_
  refine w_aload_n 1 75 hX rfl rfl dX0_become_75 ?_
  refine w_getI (j := 7) 76 hX CI_0 s_23 rfl fl_X0_38 rfl dX0_become_76 ?_
  obtain ⟨u8, gu8, h⟩ := o_bind h
  refine w_putI (j := 7) 79 hX CI_0 s_137 rfl fl_X0_38 rfl rfl rfl rfl dX0_become_79 ?_
  rw [Option.some.inj gu8]
  refine w_aload_n 0 82 hX rfl rfl dX0_become_82 ?_
  refine w_aload_n 1 83 hX rfl rfl dX0_become_83 ?_
  refine w_getI (j := 8) 84 hX CI_0 s_23 rfl fl_X0_41 rfl dX0_become_84 ?_
  obtain ⟨u9, gu9, h⟩ := o_bind h
  refine w_putI (j := 8) 87 hX CI_0 s_137 rfl fl_X0_41 rfl rfl rfl rfl dX0_become_87 ?_
  rw [Option.some.inj gu9]
  refine w_aload_n 0 90 hX rfl rfl dX0_become_90 ?_
  refine w_aload_n 1 91 hX rfl rfl dX0_become_91 ?_
  refine w_getI (j := 9) 92 hX CI_0 s_23 rfl fl_X0_44 rfl dX0_become_92 ?_
  obtain ⟨u10, gu10, h⟩ := o_bind h
  refine w_putI (j := 9) 95 hX CI_0 s_137 rfl fl_X0_44 rfl rfl rfl rfl dX0_become_95 ?_
  rw [Option.some.inj gu10]
  exact w_vret 98 hX hR dX0_become_98 (by cases h; rfl))
def FX1_become_144_30 (u : Mem) : Option Mem :=
  (some (cpM u 31 145 600)).bind fun u1 => some u1
theorem CX1_become_144_30 {G : Gt} (u : Mem) {u' : Mem} (h : FX1_become_144_30 u = some u') : CT G yX1_become cX1_become 2 none 3 [.ref 144, .ref 30] SH RHO u (none, SH, RHO, u') :=
  ct_of (by decide) rfl (Nat.le_of_ble_eq_true rfl) (Nat.le_refl _) (Nat.le_refl _) (fun X hX hR => by
  unfold FX1_become_144_30 at h
  refine w_aload_n 1 0 hX rfl rfl dX1_become_0 ?_
  refine w_getR 1 hX CI_1 s_30 rfl r_30_0 fl_X1_11 rfl dX1_become_1 ?_
  refine w_aload_n 0 4 hX rfl rfl dX1_become_4 ?_
  refine w_getR 5 hX CI_1 s_144 rfl r_144_0 fl_X1_11 rfl dX1_become_5 ?_
  obtain ⟨u1, gu1, h⟩ := o_bind h
  refine w_invSNv (av := [.ref 31, .ref 145]) (st := []) 8 hX ms_yX11_copy mi_yX11_copy ml_X1_15 (C_copy s_31 s_145 (by decide) (by decide) (by decide) gu1) rfl (by decide) (Nat.le_of_ble_eq_true rfl) (Nat.le_refl _) (Nat.le_refl _) dX1_become_8 ?_
  exact w_vret 11 hX hR dX1_become_11 (by cases h; rfl))
def FX11_image_0_b92 (u : Mem) : Option (Int32 × Mem) :=
  (bchk (u 0 11)).bind fun x1 => some (x1, u)
theorem bX11_image_0_92 {G : Gt} {X : Xt} {v : Int32} {u' : Mem} (hX : CxOk G X cX11_image 2 RX11 (some (.int v), SH, RHO, u') 5) (hR : CxRet G X (some .boolean) (some (.int v), SH, RHO, u')) (u : Mem) (h : FX11_image_0_b92 u = some (v, u')) : WM G X 92 [(0, .ref 0)] [] SH RHO u := by
  unfold FX11_image_0_b92 at h
  refine w_aload_n 0 92 hX rfl rfl dX11_image_92 ?_
  refine w_getI (j := 11) 93 hX CI_11 s_0 rfl fl_X11_80 rfl dX11_image_93 ?_
  obtain ⟨x1, gx1, h⟩ := o_bind h
  obtain ⟨jx1, nx1, mx1⟩ := bchk_ok gx1
  rw [jx1]
  exact w_zret 96 hX hR nx1 dX11_image_96 (by cases h; rfl)
def FX11_image_0 (p1 : Int32) (u : Mem) : Option (Int32 × Mem) :=
  (if p1 = 0 then ((if (u 0 11) = 0 then (FX11_image_0_b92 u) else ((FX9_become_1_115 u).bind fun u4 => (FX0_become_23_137 u4).bind fun u6 => (FX1_become_30_144 u6).bind fun u8 => (FX10_forgetAll_52 u8).bind fun u10 => FX11_image_0_b92 u10))) else ((FX9_become_115_1 u).bind fun u12 => (FX0_become_137_23 u12).bind fun u14 => (FX1_become_144_30 u14).bind fun u16 => (some (mupd u16 0 11 1)).bind fun u17 => FX11_image_0_b92 u17))
theorem CX11_image_0 {G : Gt} (p1 : Int32) (u : Mem) {v : Int32} {u' : Mem} (h : FX11_image_0 p1 u = some (v, u')) : CT G yX11_image cX11_image 2 (some .boolean) 5 [.ref 0, .int p1] SH RHO u (some (.int v), SH, RHO, u') :=
  ct_of (by decide) rfl (Nat.le_of_ble_eq_true rfl) (Nat.le_refl _) (Nat.le_refl _) (fun X hX hR => by
  unfold FX11_image_0 at h
  refine w_iload_n 1 0 hX rfl rfl dX11_image_0 ?_
  refine w_if_eq (tgt := 45) 1 hX dX11_image_1 (by decide) (fun c1 => ?_) (fun c1 => ?_)
  · have h := it h c1
    refine w_aload_n 0 45 hX rfl rfl dX11_image_45 ?_
    refine w_getI (j := 11) 46 hX CI_11 s_0 rfl fl_X11_80 rfl dX11_image_46 ?_
    refine w_if_eq (tgt := 92) 49 hX dX11_image_49 (by decide) (fun c2 => ?_) (fun c2 => ?_)
    · have h := it h c2
      exact w_sub [0] rfl (bX11_image_0_92 hX hR u h)
    · have h := ie h c2
      refine w_aload_n 0 52 hX rfl rfl dX11_image_52 ?_
      refine w_getR 53 hX CI_11 s_0 rfl r_0_0 fl_X11_10 rfl dX11_image_53 ?_
      refine w_aload_n 0 56 hX rfl rfl dX11_image_56 ?_
      refine w_getR 57 hX CI_11 s_0 rfl r_0_8 fl_X11_71 rfl dX11_image_57 ?_
      obtain ⟨u4, gu4, h⟩ := o_bind h
      refine w_invVv (av := [.ref 115]) (st := []) 60 hX CI_9 s_1 rfl mv_yX9_become mi_yX9_become ml_X11_271 (CX9_become_1_115 u gu4) rfl (by decide) (Nat.le_of_ble_eq_true rfl) (Nat.le_refl _) (Nat.le_refl _) dX11_image_60 ?_
      refine w_aload_n 0 63 hX rfl rfl dX11_image_63 ?_
      refine w_getR 64 hX CI_11 s_0 rfl r_0_1 fl_X11_19 rfl dX11_image_64 ?_
      refine w_aload_n 0 67 hX rfl rfl dX11_image_67 ?_
      refine w_getR 68 hX CI_11 s_0 rfl r_0_9 fl_X11_74 rfl dX11_image_68 ?_
      obtain ⟨u6, gu6, h⟩ := o_bind h
      refine w_invVv (av := [.ref 137]) (st := []) 71 hX CI_0 s_23 rfl mv_yX0_become mi_yX0_become ml_X11_275 (CX0_become_23_137 u4 gu6) rfl (by decide) (Nat.le_of_ble_eq_true rfl) (Nat.le_refl _) (Nat.le_refl _) dX11_image_71 ?_
      refine w_aload_n 0 74 hX rfl rfl dX11_image_74 ?_
      refine w_getR 75 hX CI_11 s_0 rfl r_0_2 fl_X11_26 rfl dX11_image_75 ?_
      refine w_aload_n 0 78 hX rfl rfl dX11_image_78 ?_
      refine w_getR 79 hX CI_11 s_0 rfl r_0_10 fl_X11_77 rfl dX11_image_79 ?_
      obtain ⟨u8, gu8, h⟩ := o_bind h
      refine w_invVv (av := [.ref 144]) (st := []) 82 hX CI_1 s_30 rfl mv_yX1_become mi_yX1_become ml_X11_277 (CX1_become_30_144 u6 gu8) rfl (by decide) (Nat.le_of_ble_eq_true rfl) (Nat.le_refl _) (Nat.le_refl _) dX11_image_82 ?_
      refine w_aload_n 0 85 hX rfl rfl dX11_image_85 ?_
      refine w_getR 86 hX CI_11 s_0 rfl r_0_5 fl_X11_49 rfl dX11_image_86 ?_
      obtain ⟨u10, gu10, h⟩ := o_bind h
      refine w_invVv (av := []) (st := []) 89 hX CI_10 s_52 rfl mv_yX10_forgetAll mi_yX10_forgetAll ml_X11_88 (CX10_forgetAll_52 u8 gu10) rfl (by decide) (Nat.le_of_ble_eq_true rfl) (Nat.le_refl _) (Nat.le_refl _) dX11_image_89 ?_
      exact w_sub [0] rfl (bX11_image_0_92 hX hR u10 h)
  · have h := ie h c1
    refine w_aload_n 0 4 hX rfl rfl dX11_image_4 ?_
    refine w_getR 5 hX CI_11 s_0 rfl r_0_8 fl_X11_71 rfl dX11_image_5 ?_
    refine w_aload_n 0 8 hX rfl rfl dX11_image_8 ?_
    refine w_getR 9 hX CI_11 s_0 rfl r_0_0 fl_X11_10 rfl dX11_image_9 ?_
    obtain ⟨u12, gu12, h⟩ := o_bind h
    refine w_invVv (av := [.ref 1]) (st := []) 12 hX CI_9 s_115 rfl mv_yX9_become mi_yX9_become ml_X11_271 (CX9_become_115_1 u gu12) rfl (by decide) (Nat.le_of_ble_eq_true rfl) (Nat.le_refl _) (Nat.le_refl _) dX11_image_12 ?_
    refine w_aload_n 0 15 hX rfl rfl dX11_image_15 ?_
    refine w_getR 16 hX CI_11 s_0 rfl r_0_9 fl_X11_74 rfl dX11_image_16 ?_
    refine w_aload_n 0 19 hX rfl rfl dX11_image_19 ?_
    refine w_getR 20 hX CI_11 s_0 rfl r_0_1 fl_X11_19 rfl dX11_image_20 ?_
    obtain ⟨u14, gu14, h⟩ := o_bind h
    refine w_invVv (av := [.ref 23]) (st := []) 23 hX CI_0 s_137 rfl mv_yX0_become mi_yX0_become ml_X11_275 (CX0_become_137_23 u12 gu14) rfl (by decide) (Nat.le_of_ble_eq_true rfl) (Nat.le_refl _) (Nat.le_refl _) dX11_image_23 ?_
    refine w_aload_n 0 26 hX rfl rfl dX11_image_26 ?_
    refine w_getR 27 hX CI_11 s_0 rfl r_0_10 fl_X11_77 rfl dX11_image_27 ?_
    refine w_aload_n 0 30 hX rfl rfl dX11_image_30 ?_
    refine w_getR 31 hX CI_11 s_0 rfl r_0_2 fl_X11_26 rfl dX11_image_31 ?_
    obtain ⟨u16, gu16, h⟩ := o_bind h
    refine w_invVv (av := [.ref 30]) (st := []) 34 hX CI_1 s_144 rfl mv_yX1_become mi_yX1_become ml_X11_277 (CX1_become_144_30 u14 gu16) rfl (by decide) (Nat.le_of_ble_eq_true rfl) (Nat.le_refl _) (Nat.le_refl _) dX11_image_34 ?_
    refine w_aload_n 0 37 hX rfl rfl dX11_image_37 ?_
    refine w_iconst 1 38 hX ic_1 dX11_image_38 ?_
    obtain ⟨u17, gu17, h⟩ := o_bind h
    refine w_putI (j := 11) 39 hX CI_11 s_0 rfl fl_X11_80 rfl rfl (by decide) (by decide) dX11_image_39 ?_
    rw [Option.some.inj gu17]
    refine w_goto (tgt := 92) 42 hX (by decide) dX11_image_42 ?_
    exact w_sub [0] rfl (bX11_image_0_92 hX hR u17 h))
def FX12_image_146_b67 (u : Mem) : Option (Int32 × Mem) :=
  (some (mupd u 146 5 1)).bind fun u1 => some (1, u1)
theorem bX12_image_146_67 {G : Gt} {X : Xt} {v : Int32} {u' : Mem} (hX : CxOk G X cX12_image 3 RX12 (some (.int v), SH, RHO, u') 2) (hR : CxRet G X (some .boolean) (some (.int v), SH, RHO, u')) (u : Mem) (h : FX12_image_146_b67 u = some (v, u')) : WM G X 67 [(0, .ref 146)] [] SH RHO u := by
  unfold FX12_image_146_b67 at h
  refine w_aload_n 0 67 hX rfl rfl dX12_image_67 ?_
  refine w_iconst 1 68 hX ic_1 dX12_image_68 ?_
  obtain ⟨u1, gu1, h⟩ := o_bind h
  refine w_putI (j := 5) 69 hX CI_12 s_146 rfl fl_X12_460 rfl rfl (by decide) (by decide) dX12_image_69 ?_
  rw [Option.some.inj gu1]
  refine w_iconst 1 72 hX ic_1 dX12_image_72 ?_
  exact w_zret 73 hX hR (by decide) dX12_image_73 (by cases h; rfl)
def FX12_image_146_b53 (k15 : Int32 → Int32 → Mem → Option (Int32 × Mem)) (l1 l2 : Int32) (u : Mem) : Option (Int32 × Mem) :=
  k15 l1 (l2 + 1) u
theorem bX12_image_146_53 {G : Gt} {X : Xt} {v : Int32} {u' : Mem} (hX : CxOk G X cX12_image 3 RX12 (some (.int v), SH, RHO, u') 2) (hR : CxRet G X (some .boolean) (some (.int v), SH, RHO, u')) {k15 : Int32 → Int32 → Mem → Option (Int32 × Mem)} (hk15 : ∀ (l1 l2 : Int32) (u : Mem), k15 l1 l2 u = some (v, u') → WM G X 15 [(0, .ref 146), (1, .int l1), (2, .int l2)] [] SH RHO u) (l1 l2 : Int32) (u : Mem) (h : FX12_image_146_b53 k15 l1 l2 u = some (v, u')) : WM G X 53 [(0, .ref 146), (1, .int l1), (2, .int l2)] [] SH RHO u := by
  unfold FX12_image_146_b53 at h
  refine w_iinc (lv' := [(2, .int (l2 + 1)), (0, .ref 146), (1, .int l1)]) 53 2 hX dX12_image_53 rfl (inc_1 _) (by decide) rfl ?_
  refine w_goto (tgt := 15) 56 hX (by decide) dX12_image_56 ?_
  exact w_sub [1, 2, 0] rfl (hk15 l1 (l2 + 1) u h)
def FX12_image_146_b15 (k15 : Int32 → Int32 → Mem → Option (Int32 × Mem)) (l1 l2 : Int32) (u : Mem) : Option (Int32 × Mem) :=
  (if 1786 ≤ l2 then ((if l1 = 0 then ((FX12_forgetsActs_146 u).bind fun u4 => FX12_image_146_b67 u4) else (FX12_image_146_b67 u))) else ((if l1 = 0 then ((rdA u 148 1786 l2).bind fun x6 => (wrA u 147 1786 l2 x6).bind fun u7 => FX12_image_146_b53 k15 l1 l2 u7) else ((rdA u 147 1786 l2).bind fun x8 => (wrA u 148 1786 l2 x8).bind fun u9 => FX12_image_146_b53 k15 l1 l2 u9))))
theorem bX12_image_146_15 {G : Gt} {X : Xt} {v : Int32} {u' : Mem} (hX : CxOk G X cX12_image 3 RX12 (some (.int v), SH, RHO, u') 2) (hR : CxRet G X (some .boolean) (some (.int v), SH, RHO, u')) {k15 : Int32 → Int32 → Mem → Option (Int32 × Mem)} (hk15 : ∀ (l1 l2 : Int32) (u : Mem), k15 l1 l2 u = some (v, u') → WM G X 15 [(0, .ref 146), (1, .int l1), (2, .int l2)] [] SH RHO u) (l1 l2 : Int32) (u : Mem) (h : FX12_image_146_b15 k15 l1 l2 u = some (v, u')) : WM G X 15 [(0, .ref 146), (1, .int l1), (2, .int l2)] [] SH RHO u := by
  unfold FX12_image_146_b15 at h
  refine w_iload_n 2 15 hX rfl rfl dX12_image_15 ?_
  refine w_sipush 1786 16 hX isp_1786 dX12_image_16 ?_
  refine w_icmp_ge (tgt := 59) 19 hX dX12_image_19 (by decide) (fun c1 => ?_) (fun c1 => ?_)
  · have h := it h c1
    refine w_iload_n 1 59 hX rfl rfl dX12_image_59 ?_
    refine w_if_ne (tgt := 67) 60 hX dX12_image_60 (by decide) (fun c2 => ?_) (fun c2 => ?_)
    · have h := ie h c2
      exact w_sub [0] rfl (bX12_image_146_67 hX hR u h)
    · have h := it h c2
      refine w_aload_n 0 63 hX rfl rfl dX12_image_63 ?_
      obtain ⟨u4, gu4, h⟩ := o_bind h
      refine w_invVv (av := []) (st := []) 64 hX CI_12 s_146 rfl mv_yX12_forgetsActs mi_yX12_forgetsActs ml_X12_61 (CX12_forgetsActs_146 u gu4) rfl (by decide) (Nat.le_of_ble_eq_true rfl) (Nat.le_refl _) (Nat.le_refl _) dX12_image_64 ?_
      exact w_sub [0] rfl (bX12_image_146_67 hX hR u4 h)
  · have h := ie h c1
    refine w_iload_n 1 22 hX rfl rfl dX12_image_22 ?_
    refine w_if_eq (tgt := 41) 23 hX dX12_image_23 (by decide) (fun c5 => ?_) (fun c5 => ?_)
    · have h := it h c5
      refine w_aload_n 0 41 hX rfl rfl dX12_image_41 ?_
      refine w_getR 42 hX CI_12 s_146 rfl r_146_0 fl_X12_7 rfl dX12_image_42 ?_
      refine w_iload_n 2 45 hX rfl rfl dX12_image_45 ?_
      refine w_aload_n 0 46 hX rfl rfl dX12_image_46 ?_
      refine w_getR 47 hX CI_12 s_146 rfl r_146_1 fl_X12_13 rfl dX12_image_47 ?_
      refine w_iload_n 2 50 hX rfl rfl dX12_image_50 ?_
      obtain ⟨x6, gx6, h⟩ := o_bind h
      refine w_iald 51 hX s_148 gx6 dX12_image_51 ?_
      obtain ⟨u7, gu7, h⟩ := o_bind h
      refine w_iast 52 hX s_147 gu7 dX12_image_52 ?_
      exact bX12_image_146_53 hX hR hk15 l1 l2 u7 h
    · have h := ie h c5
      refine w_aload_n 0 26 hX rfl rfl dX12_image_26 ?_
      refine w_getR 27 hX CI_12 s_146 rfl r_146_1 fl_X12_13 rfl dX12_image_27 ?_
      refine w_iload_n 2 30 hX rfl rfl dX12_image_30 ?_
      refine w_aload_n 0 31 hX rfl rfl dX12_image_31 ?_
      refine w_getR 32 hX CI_12 s_146 rfl r_146_0 fl_X12_7 rfl dX12_image_32 ?_
      refine w_iload_n 2 35 hX rfl rfl dX12_image_35 ?_
      obtain ⟨x8, gx8, h⟩ := o_bind h
      refine w_iald 36 hX s_147 gx8 dX12_image_36 ?_
      obtain ⟨u9, gu9, h⟩ := o_bind h
      refine w_iast 37 hX s_148 gu9 dX12_image_37 ?_
      refine w_goto (tgt := 53) 38 hX (by decide) dX12_image_38 ?_
      exact bX12_image_146_53 hX hR hk15 l1 l2 u9 h
def FX12_image_146_L15 : Nat → Int32 → Int32 → Mem → Option (Int32 × Mem)
  | 0, _, _, _ => none
  | n + 1, l1, l2, u => FX12_image_146_b15 (FX12_image_146_L15 n) l1 l2 u
theorem lX12_image_146_15 {G : Gt} {X : Xt} {v : Int32} {u' : Mem} (hX : CxOk G X cX12_image 3 RX12 (some (.int v), SH, RHO, u') 2) (hR : CxRet G X (some .boolean) (some (.int v), SH, RHO, u')) : ∀ (n : Nat) (l1 l2 : Int32) (u : Mem), FX12_image_146_L15 n l1 l2 u = some (v, u') → WM G X 15 [(0, .ref 146), (1, .int l1), (2, .int l2)] [] SH RHO u := by
  intro n
  induction n with
  | zero =>
    intro l1 l2 u h
    exact nn_ h
  | succ n ih =>
    intro l1 l2 u h
    exact bX12_image_146_15 hX hR ih l1 l2 u h
def FX12_image_146_b13 (l1 : Int32) (u : Mem) : Option (Int32 × Mem) :=
  FX12_image_146_L15 FU l1 0 u
theorem bX12_image_146_13 {G : Gt} {X : Xt} {v : Int32} {u' : Mem} (hX : CxOk G X cX12_image 3 RX12 (some (.int v), SH, RHO, u') 2) (hR : CxRet G X (some .boolean) (some (.int v), SH, RHO, u')) (l1 : Int32) (u : Mem) (h : FX12_image_146_b13 l1 u = some (v, u')) : WM G X 13 [(0, .ref 146), (1, .int l1)] [] SH RHO u := by
  unfold FX12_image_146_b13 at h
  refine w_iconst 0 13 hX ic_0 dX12_image_13 ?_
  refine w_istore_n (lv' := [(2, .int 0), (0, .ref 146), (1, .int l1)]) 14 hX rfl dX12_image_14 (by decide) rfl ?_
  exact w_sub [1, 2, 0] rfl (lX12_image_146_15 hX hR FU l1 0 u h)
def FX12_image_146 (p1 : Int32) (u : Mem) : Option (Int32 × Mem) :=
  (if p1 = 0 then ((if (u 146 5) = 0 then (some (0, u)) else (FX12_image_146_b13 p1 u))) else (FX12_image_146_b13 p1 u))
theorem CX12_image_146 {G : Gt} (p1 : Int32) (u : Mem) {v : Int32} {u' : Mem} (h : FX12_image_146 p1 u = some (v, u')) : CT G yX12_image cX12_image 3 (some .boolean) 2 [.ref 146, .int p1] SH RHO u (some (.int v), SH, RHO, u') :=
  ct_of (by decide) rfl (Nat.le_of_ble_eq_true rfl) (Nat.le_refl _) (Nat.le_refl _) (fun X hX hR => by
  unfold FX12_image_146 at h
  refine w_iload_n 1 0 hX rfl rfl dX12_image_0 ?_
  refine w_if_ne (tgt := 13) 1 hX dX12_image_1 (by decide) (fun c1 => ?_) (fun c1 => ?_)
  · have h := ie h c1
    exact bX12_image_146_13 hX hR p1 u h
  · have h := it h c1
    refine w_aload_n 0 4 hX rfl rfl dX12_image_4 ?_
    refine w_getI (j := 5) 5 hX CI_12 s_146 rfl fl_X12_460 rfl dX12_image_5 ?_
    refine w_if_ne (tgt := 13) 8 hX dX12_image_8 (by decide) (fun c2 => ?_) (fun c2 => ?_)
    · have h := ie h c2
      exact bX12_image_146_13 hX hR p1 u h
    · have h := it h c2
      refine w_iconst 0 11 hX ic_0 dX12_image_11 ?_
      exact w_zret 12 hX hR (by decide) dX12_image_12 (by cases h; rfl))
def FX11_look_0 (p1 : Int32) (u : Mem) : Option Int32 :=
  (if p1 = 0 then (some (u 1 0)) else ((if p1 = 1 then (some (u 23 7)) else ((if p1 = 2 then (some (u 23 6)) else ((if p1 = 3 then (some (u 1 7)) else ((if p1 = 4 then (some (u 1 8)) else ((if p1 = 5 then (some (u 1 9)) else ((if p1 = 6 then (some (u 1 10)) else ((if p1 = 7 then (some (u 23 9)) else ((if p1 = 8 then (some (u 23 8)) else ((if p1 = 9 then (some (u 8 7)) else ((if p1 = 10 then (some (u 1 11)) else ((if p1 = 11 then (some (u 1 12)) else ((if p1 = 12 then (some (u 15 3)) else ((if p1 = 13 then (some (u 19 3)) else ((if p1 = 14 then (some (u 52 2)) else (some (-1)))))))))))))))))))))))))))))))
theorem CX11_look_0 {G : Gt} (p1 : Int32) (u : Mem) {v : Int32} (h : FX11_look_0 p1 u = some v) : CT G yX11_look cX11_look 2 (some .int) 1 [.ref 0, .int p1] SH RHO u (some (.int v), SH, RHO, u) :=
  ct_of (by decide) rfl (Nat.le_of_ble_eq_true rfl) (Nat.le_refl _) (Nat.le_refl _) (fun X hX hR => by
  unfold FX11_look_0 at h
  refine w_iload_n 1 0 hX rfl rfl dX11_look_0 ?_
  by_cases c1 : p1 = 0
  · have h := it h c1
    refine w_tabIn (tgt := 76) (off := 75) 1 hX dX11_look_1 (by rw [c1]; decide) (by rw [c1]; decide) (by rw [c1]; decide) (by decide) ?_
    refine w_aload_n 0 76 hX rfl rfl dX11_look_76 ?_
    refine w_getR 77 hX CI_11 s_0 rfl r_0_0 fl_X11_10 rfl dX11_look_77 ?_
    refine w_getI (j := 0) 80 hX CI_9 s_1 rfl fl_X11_95 rfl dX11_look_80 ?_
    exact w_iret 83 hX hR dX11_look_83 (by cases h; rfl)
  · have h := ie h c1
    by_cases c2 : p1 = 1
    · have h := it h c2
      refine w_tabIn (tgt := 84) (off := 83) 1 hX dX11_look_1 (by rw [c2]; decide) (by rw [c2]; decide) (by rw [c2]; decide) (by decide) ?_
      refine w_aload_n 0 84 hX rfl rfl dX11_look_84 ?_
      refine w_getR 85 hX CI_11 s_0 rfl r_0_1 fl_X11_19 rfl dX11_look_85 ?_
      refine w_getI (j := 7) 88 hX CI_0 s_23 rfl fl_X11_153 rfl dX11_look_88 ?_
      exact w_iret 91 hX hR dX11_look_91 (by cases h; rfl)
    · have h := ie h c2
      by_cases c3 : p1 = 2
      · have h := it h c3
        refine w_tabIn (tgt := 92) (off := 91) 1 hX dX11_look_1 (by rw [c3]; decide) (by rw [c3]; decide) (by rw [c3]; decide) (by decide) ?_
        refine w_aload_n 0 92 hX rfl rfl dX11_look_92 ?_
        refine w_getR 93 hX CI_11 s_0 rfl r_0_1 fl_X11_19 rfl dX11_look_93 ?_
        refine w_getI (j := 6) 96 hX CI_0 s_23 rfl fl_X11_156 rfl dX11_look_96 ?_
        exact w_iret 99 hX hR dX11_look_99 (by cases h; rfl)
      · have h := ie h c3
        by_cases c4 : p1 = 3
        · have h := it h c4
          refine w_tabIn (tgt := 100) (off := 99) 1 hX dX11_look_1 (by rw [c4]; decide) (by rw [c4]; decide) (by rw [c4]; decide) (by decide) ?_
          refine w_aload_n 0 100 hX rfl rfl dX11_look_100 ?_
          refine w_getR 101 hX CI_11 s_0 rfl r_0_0 fl_X11_10 rfl dX11_look_101 ?_
          refine w_getI (j := 7) 104 hX CI_9 s_1 rfl fl_X11_280 rfl dX11_look_104 ?_
          exact w_iret 107 hX hR dX11_look_107 (by cases h; rfl)
        · have h := ie h c4
          by_cases c5 : p1 = 4
          · have h := it h c5
            refine w_tabIn (tgt := 108) (off := 107) 1 hX dX11_look_1 (by rw [c5]; decide) (by rw [c5]; decide) (by rw [c5]; decide) (by decide) ?_
            refine w_aload_n 0 108 hX rfl rfl dX11_look_108 ?_
            refine w_getR 109 hX CI_11 s_0 rfl r_0_0 fl_X11_10 rfl dX11_look_109 ?_
            refine w_getI (j := 8) 112 hX CI_9 s_1 rfl fl_X11_283 rfl dX11_look_112 ?_
            exact w_iret 115 hX hR dX11_look_115 (by cases h; rfl)
          · have h := ie h c5
            by_cases c6 : p1 = 5
            · have h := it h c6
              refine w_tabIn (tgt := 116) (off := 115) 1 hX dX11_look_1 (by rw [c6]; decide) (by rw [c6]; decide) (by rw [c6]; decide) (by decide) ?_
              refine w_aload_n 0 116 hX rfl rfl dX11_look_116 ?_
              refine w_getR 117 hX CI_11 s_0 rfl r_0_0 fl_X11_10 rfl dX11_look_117 ?_
              refine w_getI (j := 9) 120 hX CI_9 s_1 rfl fl_X11_286 rfl dX11_look_120 ?_
              exact w_iret 123 hX hR dX11_look_123 (by cases h; rfl)
            · have h := ie h c6
              by_cases c7 : p1 = 6
              · have h := it h c7
                refine w_tabIn (tgt := 124) (off := 123) 1 hX dX11_look_1 (by rw [c7]; decide) (by rw [c7]; decide) (by rw [c7]; decide) (by decide) ?_
                refine w_aload_n 0 124 hX rfl rfl dX11_look_124 ?_
                refine w_getR 125 hX CI_11 s_0 rfl r_0_0 fl_X11_10 rfl dX11_look_125 ?_
                refine w_getI (j := 10) 128 hX CI_9 s_1 rfl fl_X11_289 rfl dX11_look_128 ?_
                exact w_iret 131 hX hR dX11_look_131 (by cases h; rfl)
              · have h := ie h c7
                by_cases c8 : p1 = 7
                · have h := it h c8
                  refine w_tabIn (tgt := 132) (off := 131) 1 hX dX11_look_1 (by rw [c8]; decide) (by rw [c8]; decide) (by rw [c8]; decide) (by decide) ?_
                  refine w_aload_n 0 132 hX rfl rfl dX11_look_132 ?_
                  refine w_getR 133 hX CI_11 s_0 rfl r_0_1 fl_X11_19 rfl dX11_look_133 ?_
                  refine w_getI (j := 9) 136 hX CI_0 s_23 rfl fl_X11_210 rfl dX11_look_136 ?_
                  exact w_iret 139 hX hR dX11_look_139 (by cases h; rfl)
                · have h := ie h c8
                  by_cases c9 : p1 = 8
                  · have h := it h c9
                    refine w_tabIn (tgt := 140) (off := 139) 1 hX dX11_look_1 (by rw [c9]; decide) (by rw [c9]; decide) (by rw [c9]; decide) (by decide) ?_
                    refine w_aload_n 0 140 hX rfl rfl dX11_look_140 ?_
                    refine w_getR 141 hX CI_11 s_0 rfl r_0_1 fl_X11_19 rfl dX11_look_141 ?_
                    refine w_getI (j := 8) 144 hX CI_0 s_23 rfl fl_X11_84 rfl dX11_look_144 ?_
                    exact w_iret 147 hX hR dX11_look_147 (by cases h; rfl)
                  · have h := ie h c9
                    by_cases c10 : p1 = 9
                    · have h := it h c10
                      refine w_tabIn (tgt := 148) (off := 147) 1 hX dX11_look_1 (by rw [c10]; decide) (by rw [c10]; decide) (by rw [c10]; decide) (by decide) ?_
                      refine w_aload_n 0 148 hX rfl rfl dX11_look_148 ?_
                      refine w_getR 149 hX CI_11 s_0 rfl r_0_0 fl_X11_10 rfl dX11_look_149 ?_
                      refine w_getR 152 hX CI_9 s_1 rfl r_1_13 fl_X11_292 rfl dX11_look_152 ?_
                      refine w_getI (j := 7) 155 hX CI_4 s_8 rfl fl_X11_296 rfl dX11_look_155 ?_
                      exact w_iret 158 hX hR dX11_look_158 (by cases h; rfl)
                    · have h := ie h c10
                      by_cases c11 : p1 = 10
                      · have h := it h c11
                        refine w_tabIn (tgt := 159) (off := 158) 1 hX dX11_look_1 (by rw [c11]; decide) (by rw [c11]; decide) (by rw [c11]; decide) (by decide) ?_
                        refine w_aload_n 0 159 hX rfl rfl dX11_look_159 ?_
                        refine w_getR 160 hX CI_11 s_0 rfl r_0_0 fl_X11_10 rfl dX11_look_160 ?_
                        refine w_getI (j := 11) 163 hX CI_9 s_1 rfl fl_X11_299 rfl dX11_look_163 ?_
                        exact w_iret 166 hX hR dX11_look_166 (by cases h; rfl)
                      · have h := ie h c11
                        by_cases c12 : p1 = 11
                        · have h := it h c12
                          refine w_tabIn (tgt := 167) (off := 166) 1 hX dX11_look_1 (by rw [c12]; decide) (by rw [c12]; decide) (by rw [c12]; decide) (by decide) ?_
                          refine w_aload_n 0 167 hX rfl rfl dX11_look_167 ?_
                          refine w_getR 168 hX CI_11 s_0 rfl r_0_0 fl_X11_10 rfl dX11_look_168 ?_
                          refine w_getI (j := 12) 171 hX CI_9 s_1 rfl fl_X11_302 rfl dX11_look_171 ?_
                          exact w_iret 174 hX hR dX11_look_174 (by cases h; rfl)
                        · have h := ie h c12
                          by_cases c13 : p1 = 12
                          · have h := it h c13
                            refine w_tabIn (tgt := 175) (off := 174) 1 hX dX11_look_1 (by rw [c13]; decide) (by rw [c13]; decide) (by rw [c13]; decide) (by decide) ?_
                            refine w_aload_n 0 175 hX rfl rfl dX11_look_175 ?_
                            refine w_getR 176 hX CI_11 s_0 rfl r_0_0 fl_X11_10 rfl dX11_look_176 ?_
                            refine w_getR 179 hX CI_9 s_1 rfl r_1_14 fl_X11_201 rfl dX11_look_179 ?_
                            refine w_getI (j := 3) 182 hX CI_5 s_15 rfl fl_X11_305 rfl dX11_look_182 ?_
                            exact w_iret 185 hX hR dX11_look_185 (by cases h; rfl)
                          · have h := ie h c13
                            by_cases c14 : p1 = 13
                            · have h := it h c14
                              refine w_tabIn (tgt := 186) (off := 185) 1 hX dX11_look_1 (by rw [c14]; decide) (by rw [c14]; decide) (by rw [c14]; decide) (by decide) ?_
                              refine w_aload_n 0 186 hX rfl rfl dX11_look_186 ?_
                              refine w_getR 187 hX CI_11 s_0 rfl r_0_0 fl_X11_10 rfl dX11_look_187 ?_
                              refine w_getR 190 hX CI_9 s_1 rfl r_1_15 fl_X11_241 rfl dX11_look_190 ?_
                              refine w_getI (j := 3) 193 hX CI_8 s_19 rfl fl_X11_306 rfl dX11_look_193 ?_
                              exact w_iret 196 hX hR dX11_look_196 (by cases h; rfl)
                            · have h := ie h c14
                              by_cases c15 : p1 = 14
                              · have h := it h c15
                                refine w_tabIn (tgt := 197) (off := 196) 1 hX dX11_look_1 (by rw [c15]; decide) (by rw [c15]; decide) (by rw [c15]; decide) (by decide) ?_
                                refine w_aload_n 0 197 hX rfl rfl dX11_look_197 ?_
                                refine w_getR 198 hX CI_11 s_0 rfl r_0_5 fl_X11_49 rfl dX11_look_198 ?_
                                refine w_getI (j := 2) 201 hX CI_10 s_52 rfl fl_X11_309 rfl dX11_look_201 ?_
                                exact w_iret 204 hX hR dX11_look_204 (by cases h; rfl)
                              · have h := ie h c15
                                have zc1 := lv_neT c1 (a := 0) (by decide)
                                have zc2 := lv_neT c2 (a := 1) (by decide)
                                have zc3 := lv_neT c3 (a := 2) (by decide)
                                have zc4 := lv_neT c4 (a := 3) (by decide)
                                have zc5 := lv_neT c5 (a := 4) (by decide)
                                have zc6 := lv_neT c6 (a := 5) (by decide)
                                have zc7 := lv_neT c7 (a := 6) (by decide)
                                have zc8 := lv_neT c8 (a := 7) (by decide)
                                have zc9 := lv_neT c9 (a := 8) (by decide)
                                have zc10 := lv_neT c10 (a := 9) (by decide)
                                have zc11 := lv_neT c11 (a := 10) (by decide)
                                have zc12 := lv_neT c12 (a := 11) (by decide)
                                have zc13 := lv_neT c13 (a := 12) (by decide)
                                have zc14 := lv_neT c14 (a := 13) (by decide)
                                have zc15 := lv_neT c15 (a := 14) (by decide)
                                refine w_tabOut (tgt := 205) 1 hX dX11_look_1 (by omega) (by decide) ?_
                                refine w_iconst (-1) 205 hX ic_m1 dX11_look_205 ?_
                                exact w_iret 206 hX hR dX11_look_206 (by cases h; rfl))
def FX12_hills_146_b4 (k4 : Int32 → Int32 → Mem → Option Int32) (l1 l2 : Int32) (u : Mem) : Option Int32 :=
  (if 16 ≤ l2 then (some l1) else ((rdA u 147 1786 (126 + l2)).bind fun x2 => k4 (l1 ||| (x2 <<< (l2 &&& 31))) (l2 + 1) u))
theorem bX12_hills_146_4 {G : Gt} {X : Xt} {v : Int32} {u : Mem} (hX : CxOk G X cX12_hills 3 RX12 (some (.int v), SH, RHO, u) 1) (hR : CxRet G X (some .int) (some (.int v), SH, RHO, u)) {k4 : Int32 → Int32 → Mem → Option Int32} (hk4 : ∀ (l1 l2 : Int32), k4 l1 l2 u = some v → WM G X 4 [(0, .ref 146), (1, .int l1), (2, .int l2)] [] SH RHO u) (l1 l2 : Int32) (h : FX12_hills_146_b4 k4 l1 l2 u = some v) : WM G X 4 [(0, .ref 146), (1, .int l1), (2, .int l2)] [] SH RHO u := by
  unfold FX12_hills_146_b4 at h
  refine w_iload_n 2 4 hX rfl rfl dX12_hills_4 ?_
  refine w_bipush 16 5 hX ib_16 dX12_hills_5 ?_
  refine w_icmp_ge (tgt := 30) 7 hX dX12_hills_7 (by decide) (fun c1 => ?_) (fun c1 => ?_)
  · have h := it h c1
    refine w_iload_n 1 30 hX rfl rfl dX12_hills_30 ?_
    exact w_iret 31 hX hR dX12_hills_31 (by cases h; rfl)
  · have h := ie h c1
    refine w_iload_n 1 10 hX rfl rfl dX12_hills_10 ?_
    refine w_aload_n 0 11 hX rfl rfl dX12_hills_11 ?_
    refine w_getR 12 hX CI_12 s_146 rfl r_146_0 fl_X12_7 rfl dX12_hills_12 ?_
    refine w_bipush 126 15 hX ib_126 dX12_hills_15 ?_
    refine w_iload_n 2 17 hX rfl rfl dX12_hills_17 ?_
    refine w_iadd 18 hX dX12_hills_18 ?_
    obtain ⟨x2, gx2, h⟩ := o_bind h
    refine w_iald 19 hX s_147 gx2 dX12_hills_19 ?_
    refine w_iload_n 2 20 hX rfl rfl dX12_hills_20 ?_
    refine w_ishl 21 hX dX12_hills_21 ?_
    refine w_ior 22 hX dX12_hills_22 ?_
    refine w_istore_n (lv' := [(1, .int (l1 ||| (x2 <<< (l2 &&& 31)))), (0, .ref 146), (2, .int l2)]) 23 hX rfl dX12_hills_23 (by decide) rfl ?_
    refine w_iinc (lv' := [(2, .int (l2 + 1)), (1, .int (l1 ||| (x2 <<< (l2 &&& 31)))), (0, .ref 146)]) 24 2 hX dX12_hills_24 rfl (inc_1 _) (by decide) rfl ?_
    refine w_goto (tgt := 4) 27 hX (by decide) dX12_hills_27 ?_
    exact w_sub [2, 1, 0] rfl (hk4 (l1 ||| (x2 <<< (l2 &&& 31))) (l2 + 1) h)
def FX12_hills_146_L4 : Nat → Int32 → Int32 → Mem → Option Int32
  | 0, _, _, _ => none
  | n + 1, l1, l2, u => FX12_hills_146_b4 (FX12_hills_146_L4 n) l1 l2 u
theorem lX12_hills_146_4 {G : Gt} {X : Xt} {v : Int32} {u : Mem} (hX : CxOk G X cX12_hills 3 RX12 (some (.int v), SH, RHO, u) 1) (hR : CxRet G X (some .int) (some (.int v), SH, RHO, u)) : ∀ (n : Nat) (l1 l2 : Int32), FX12_hills_146_L4 n l1 l2 u = some v → WM G X 4 [(0, .ref 146), (1, .int l1), (2, .int l2)] [] SH RHO u := by
  intro n
  induction n with
  | zero =>
    intro l1 l2 h
    exact nn_ h
  | succ n ih =>
    intro l1 l2 h
    exact bX12_hills_146_4 hX hR ih l1 l2 h
def FX12_hills_146 (u : Mem) : Option Int32 :=
  FX12_hills_146_L4 FU 0 0 u
theorem CX12_hills_146 {G : Gt} (u : Mem) {v : Int32} (h : FX12_hills_146 u = some v) : CT G yX12_hills cX12_hills 3 (some .int) 1 [.ref 146] SH RHO u (some (.int v), SH, RHO, u) :=
  ct_of (by decide) rfl (Nat.le_of_ble_eq_true rfl) (Nat.le_refl _) (Nat.le_refl _) (fun X hX hR => by
  unfold FX12_hills_146 at h
  refine w_iconst 0 0 hX ic_0 dX12_hills_0 ?_
  refine w_istore_n (lv' := [(1, .int 0), (0, .ref 146)]) 1 hX rfl dX12_hills_1 (by decide) rfl ?_
  refine w_iconst 0 2 hX ic_0 dX12_hills_2 ?_
  refine w_istore_n (lv' := [(2, .int 0), (1, .int 0), (0, .ref 146)]) 3 hX rfl dX12_hills_3 (by decide) rfl ?_
  exact w_sub [2, 1, 0] rfl (lX12_hills_146_4 hX hR FU 0 0 h))
def FX12_look_146 (p1 : Int32) (u : Mem) : Option Int32 :=
  (if p1 = 0 then (some (u 147 78)) else ((if p1 = 1 then (some (u 147 0)) else ((if p1 = 2 then (some (u 147 1)) else ((if p1 = 3 then (some (u 147 79)) else ((if p1 = 4 then (some (u 147 80)) else ((if p1 = 5 then (some (u 147 81)) else ((if p1 = 6 then ((FX12_hills_146 u).bind fun x8 => some x8) else ((if p1 = 7 then (some (u 147 3)) else ((if p1 = 8 then (some (u 147 2)) else ((if p1 = 9 then (some (u 147 84)) else ((if p1 = 10 then (some (u 147 85)) else ((if p1 = 11 then (some (u 147 86)) else ((if p1 = 12 then (some (u 147 87)) else ((if p1 = 13 then (some (u 147 88)) else ((if p1 = 14 then (some (u 146 4)) else (some (-1)))))))))))))))))))))))))))))))
theorem CX12_look_146 {G : Gt} (p1 : Int32) (u : Mem) {v : Int32} (h : FX12_look_146 p1 u = some v) : CT G yX12_look cX12_look 2 (some .int) 2 [.ref 146, .int p1] SH RHO u (some (.int v), SH, RHO, u) :=
  ct_of (by decide) rfl (Nat.le_of_ble_eq_true rfl) (Nat.le_refl _) (Nat.le_refl _) (fun X hX hR => by
  unfold FX12_look_146 at h
  refine w_iload_n 1 0 hX rfl rfl dX12_look_0 ?_
  by_cases c1 : p1 = 0
  · have h := it h c1
    refine w_tabIn (tgt := 76) (off := 75) 1 hX dX12_look_1 (by rw [c1]; decide) (by rw [c1]; decide) (by rw [c1]; decide) (by decide) ?_
    refine w_aload_n 0 76 hX rfl rfl dX12_look_76 ?_
    refine w_getR 77 hX CI_12 s_146 rfl r_146_0 fl_X12_7 rfl dX12_look_77 ?_
    refine w_bipush 78 80 hX ib_78 dX12_look_80 ?_
    refine w_iald 82 hX s_147 (rdK 78 78 n_78 (by decide) (by decide)) dX12_look_82 ?_
    exact w_iret 83 hX hR dX12_look_83 (by cases h; rfl)
  · have h := ie h c1
    by_cases c2 : p1 = 1
    · have h := it h c2
      refine w_tabIn (tgt := 84) (off := 83) 1 hX dX12_look_1 (by rw [c2]; decide) (by rw [c2]; decide) (by rw [c2]; decide) (by decide) ?_
      refine w_aload_n 0 84 hX rfl rfl dX12_look_84 ?_
      refine w_getR 85 hX CI_12 s_146 rfl r_146_0 fl_X12_7 rfl dX12_look_85 ?_
      refine w_iconst 0 88 hX ic_0 dX12_look_88 ?_
      refine w_iald 89 hX s_147 (rdK 0 0 n_0 (by decide) (by decide)) dX12_look_89 ?_
      exact w_iret 90 hX hR dX12_look_90 (by cases h; rfl)
    · have h := ie h c2
      by_cases c3 : p1 = 2
      · have h := it h c3
        refine w_tabIn (tgt := 91) (off := 90) 1 hX dX12_look_1 (by rw [c3]; decide) (by rw [c3]; decide) (by rw [c3]; decide) (by decide) ?_
        refine w_aload_n 0 91 hX rfl rfl dX12_look_91 ?_
        refine w_getR 92 hX CI_12 s_146 rfl r_146_0 fl_X12_7 rfl dX12_look_92 ?_
        refine w_iconst 1 95 hX ic_1 dX12_look_95 ?_
        refine w_iald 96 hX s_147 (rdK 1 1 n_1 (by decide) (by decide)) dX12_look_96 ?_
        exact w_iret 97 hX hR dX12_look_97 (by cases h; rfl)
      · have h := ie h c3
        by_cases c4 : p1 = 3
        · have h := it h c4
          refine w_tabIn (tgt := 98) (off := 97) 1 hX dX12_look_1 (by rw [c4]; decide) (by rw [c4]; decide) (by rw [c4]; decide) (by decide) ?_
          refine w_aload_n 0 98 hX rfl rfl dX12_look_98 ?_
          refine w_getR 99 hX CI_12 s_146 rfl r_146_0 fl_X12_7 rfl dX12_look_99 ?_
          refine w_bipush 79 102 hX ib_79 dX12_look_102 ?_
          refine w_iald 104 hX s_147 (rdK 79 79 n_79 (by decide) (by decide)) dX12_look_104 ?_
          exact w_iret 105 hX hR dX12_look_105 (by cases h; rfl)
        · have h := ie h c4
          by_cases c5 : p1 = 4
          · have h := it h c5
            refine w_tabIn (tgt := 106) (off := 105) 1 hX dX12_look_1 (by rw [c5]; decide) (by rw [c5]; decide) (by rw [c5]; decide) (by decide) ?_
            refine w_aload_n 0 106 hX rfl rfl dX12_look_106 ?_
            refine w_getR 107 hX CI_12 s_146 rfl r_146_0 fl_X12_7 rfl dX12_look_107 ?_
            refine w_bipush 80 110 hX ib_80 dX12_look_110 ?_
            refine w_iald 112 hX s_147 (rdK 80 80 n_80 (by decide) (by decide)) dX12_look_112 ?_
            exact w_iret 113 hX hR dX12_look_113 (by cases h; rfl)
          · have h := ie h c5
            by_cases c6 : p1 = 5
            · have h := it h c6
              refine w_tabIn (tgt := 114) (off := 113) 1 hX dX12_look_1 (by rw [c6]; decide) (by rw [c6]; decide) (by rw [c6]; decide) (by decide) ?_
              refine w_aload_n 0 114 hX rfl rfl dX12_look_114 ?_
              refine w_getR 115 hX CI_12 s_146 rfl r_146_0 fl_X12_7 rfl dX12_look_115 ?_
              refine w_bipush 81 118 hX ib_81 dX12_look_118 ?_
              refine w_iald 120 hX s_147 (rdK 81 81 n_81 (by decide) (by decide)) dX12_look_120 ?_
              exact w_iret 121 hX hR dX12_look_121 (by cases h; rfl)
            · have h := ie h c6
              by_cases c7 : p1 = 6
              · have h := it h c7
                refine w_tabIn (tgt := 122) (off := 121) 1 hX dX12_look_1 (by rw [c7]; decide) (by rw [c7]; decide) (by rw [c7]; decide) (by decide) ?_
                refine w_aload_n 0 122 hX rfl rfl dX12_look_122 ?_
                obtain ⟨x8, gx8, h⟩ := o_bind h
                refine w_invVi (av := []) (st := []) 123 hX CI_12 s_146 rfl mv_yX12_hills mi_yX12_hills ml_X12_463 (CX12_hills_146 u gx8) rfl (by decide) (Nat.le_of_ble_eq_true rfl) (Nat.le_refl _) (Nat.le_refl _) dX12_look_123 ?_
                exact w_iret 126 hX hR dX12_look_126 (by cases h; rfl)
              · have h := ie h c7
                by_cases c9 : p1 = 7
                · have h := it h c9
                  refine w_tabIn (tgt := 127) (off := 126) 1 hX dX12_look_1 (by rw [c9]; decide) (by rw [c9]; decide) (by rw [c9]; decide) (by decide) ?_
                  refine w_aload_n 0 127 hX rfl rfl dX12_look_127 ?_
                  refine w_getR 128 hX CI_12 s_146 rfl r_146_0 fl_X12_7 rfl dX12_look_128 ?_
                  refine w_iconst 3 131 hX ic_3 dX12_look_131 ?_
                  refine w_iald 132 hX s_147 (rdK 3 3 n_3 (by decide) (by decide)) dX12_look_132 ?_
                  exact w_iret 133 hX hR dX12_look_133 (by cases h; rfl)
                · have h := ie h c9
                  by_cases c10 : p1 = 8
                  · have h := it h c10
                    refine w_tabIn (tgt := 134) (off := 133) 1 hX dX12_look_1 (by rw [c10]; decide) (by rw [c10]; decide) (by rw [c10]; decide) (by decide) ?_
                    refine w_aload_n 0 134 hX rfl rfl dX12_look_134 ?_
                    refine w_getR 135 hX CI_12 s_146 rfl r_146_0 fl_X12_7 rfl dX12_look_135 ?_
                    refine w_iconst 2 138 hX ic_2 dX12_look_138 ?_
                    refine w_iald 139 hX s_147 (rdK 2 2 n_2 (by decide) (by decide)) dX12_look_139 ?_
                    exact w_iret 140 hX hR dX12_look_140 (by cases h; rfl)
                  · have h := ie h c10
                    by_cases c11 : p1 = 9
                    · have h := it h c11
                      refine w_tabIn (tgt := 141) (off := 140) 1 hX dX12_look_1 (by rw [c11]; decide) (by rw [c11]; decide) (by rw [c11]; decide) (by decide) ?_
                      refine w_aload_n 0 141 hX rfl rfl dX12_look_141 ?_
                      refine w_getR 142 hX CI_12 s_146 rfl r_146_0 fl_X12_7 rfl dX12_look_142 ?_
                      refine w_bipush 84 145 hX ib_84 dX12_look_145 ?_
                      refine w_iald 147 hX s_147 (rdK 84 84 n_84 (by decide) (by decide)) dX12_look_147 ?_
                      exact w_iret 148 hX hR dX12_look_148 (by cases h; rfl)
                    · have h := ie h c11
                      by_cases c12 : p1 = 10
                      · have h := it h c12
                        refine w_tabIn (tgt := 149) (off := 148) 1 hX dX12_look_1 (by rw [c12]; decide) (by rw [c12]; decide) (by rw [c12]; decide) (by decide) ?_
                        refine w_aload_n 0 149 hX rfl rfl dX12_look_149 ?_
                        refine w_getR 150 hX CI_12 s_146 rfl r_146_0 fl_X12_7 rfl dX12_look_150 ?_
                        refine w_bipush 85 153 hX ib_85 dX12_look_153 ?_
                        refine w_iald 155 hX s_147 (rdK 85 85 n_85 (by decide) (by decide)) dX12_look_155 ?_
                        exact w_iret 156 hX hR dX12_look_156 (by cases h; rfl)
                      · have h := ie h c12
                        by_cases c13 : p1 = 11
                        · have h := it h c13
                          refine w_tabIn (tgt := 157) (off := 156) 1 hX dX12_look_1 (by rw [c13]; decide) (by rw [c13]; decide) (by rw [c13]; decide) (by decide) ?_
                          refine w_aload_n 0 157 hX rfl rfl dX12_look_157 ?_
                          refine w_getR 158 hX CI_12 s_146 rfl r_146_0 fl_X12_7 rfl dX12_look_158 ?_
                          refine w_bipush 86 161 hX ib_86 dX12_look_161 ?_
                          refine w_iald 163 hX s_147 (rdK 86 86 n_86 (by decide) (by decide)) dX12_look_163 ?_
                          exact w_iret 164 hX hR dX12_look_164 (by cases h; rfl)
                        · have h := ie h c13
                          by_cases c14 : p1 = 12
                          · have h := it h c14
                            refine w_tabIn (tgt := 165) (off := 164) 1 hX dX12_look_1 (by rw [c14]; decide) (by rw [c14]; decide) (by rw [c14]; decide) (by decide) ?_
                            refine w_aload_n 0 165 hX rfl rfl dX12_look_165 ?_
                            refine w_getR 166 hX CI_12 s_146 rfl r_146_0 fl_X12_7 rfl dX12_look_166 ?_
                            refine w_bipush 87 169 hX ib_87 dX12_look_169 ?_
                            refine w_iald 171 hX s_147 (rdK 87 87 n_87 (by decide) (by decide)) dX12_look_171 ?_
                            exact w_iret 172 hX hR dX12_look_172 (by cases h; rfl)
                          · have h := ie h c14
                            by_cases c15 : p1 = 13
                            · have h := it h c15
                              refine w_tabIn (tgt := 173) (off := 172) 1 hX dX12_look_1 (by rw [c15]; decide) (by rw [c15]; decide) (by rw [c15]; decide) (by decide) ?_
                              refine w_aload_n 0 173 hX rfl rfl dX12_look_173 ?_
                              refine w_getR 174 hX CI_12 s_146 rfl r_146_0 fl_X12_7 rfl dX12_look_174 ?_
                              refine w_bipush 88 177 hX ib_88 dX12_look_177 ?_
                              refine w_iald 179 hX s_147 (rdK 88 88 n_88 (by decide) (by decide)) dX12_look_179 ?_
                              exact w_iret 180 hX hR dX12_look_180 (by cases h; rfl)
                            · have h := ie h c15
                              by_cases c16 : p1 = 14
                              · have h := it h c16
                                refine w_tabIn (tgt := 181) (off := 180) 1 hX dX12_look_1 (by rw [c16]; decide) (by rw [c16]; decide) (by rw [c16]; decide) (by decide) ?_
                                refine w_aload_n 0 181 hX rfl rfl dX12_look_181 ?_
                                refine w_getI (j := 4) 182 hX CI_12 s_146 rfl fl_X12_58 rfl dX12_look_182 ?_
                                exact w_iret 185 hX hR dX12_look_185 (by cases h; rfl)
                              · have h := ie h c16
                                have zc1 := lv_neT c1 (a := 0) (by decide)
                                have zc2 := lv_neT c2 (a := 1) (by decide)
                                have zc3 := lv_neT c3 (a := 2) (by decide)
                                have zc4 := lv_neT c4 (a := 3) (by decide)
                                have zc5 := lv_neT c5 (a := 4) (by decide)
                                have zc6 := lv_neT c6 (a := 5) (by decide)
                                have zc7 := lv_neT c7 (a := 6) (by decide)
                                have zc9 := lv_neT c9 (a := 7) (by decide)
                                have zc10 := lv_neT c10 (a := 8) (by decide)
                                have zc11 := lv_neT c11 (a := 9) (by decide)
                                have zc12 := lv_neT c12 (a := 10) (by decide)
                                have zc13 := lv_neT c13 (a := 11) (by decide)
                                have zc14 := lv_neT c14 (a := 12) (by decide)
                                have zc15 := lv_neT c15 (a := 13) (by decide)
                                have zc16 := lv_neT c16 (a := 14) (by decide)
                                refine w_tabOut (tgt := 186) 1 hX dX12_look_1 (by omega) (by decide) ?_
                                refine w_iconst (-1) 186 hX ic_m1 dX12_look_186 ?_
                                exact w_iret 187 hX hR dX12_look_187 (by cases h; rfl))
