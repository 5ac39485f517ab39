noncomputable def DX12_passes_b1172 (l0 : Nat) : Dm Unit :=
  dbind (dread (gfI l0 12 1)) fun x1 => dbind (dput (pfI l0 12 1 (x1 + 1))) fun _ => dret ()
theorem bDX12_passes_1172 {G : Gt} {X : Xt} {w' : Wd} {v : Unit} (hX : CxOk G X cX12_passes 9 RX12 (none, w'.1, w'.2.1, w'.2.2) 5) (hR : CxRet G X none (none, w'.1, w'.2.1, w'.2.2)) (l0 : Nat) (w : Wd) (h : (DX12_passes_b1172 l0).1 w = some (v, w')) : WM G X 1172 [(0, .ref l0)] [] w.1 w.2.1 w.2.2 := by
  unfold DX12_passes_b1172 at h
  refine w_aload_n 0 1172 hX rfl rfl dX12_passes_1172 ?_
  refine w_dup 1173 hX rfl dX12_passes_1173 ?_
  obtain ⟨x1, gx1, h⟩ := d_rd h
  refine x_getI 1174 hX CI_12 gx1 rfl fl_X12_44 rfl dX12_passes_1174 ?_
  refine w_iconst 1 1177 hX ic_1 dX12_passes_1177 ?_
  refine w_iadd 1178 hX dX12_passes_1178 ?_
  obtain ⟨x2, wx2, gx2, h⟩ := d_bind h
  refine x_putI 1179 hX CI_12 gx2 rfl fl_X12_44 rfl rfl rfl rfl dX12_passes_1179 ?_
  obtain ⟨rfl, rfl⟩ := d_ret h
  exact w_vret 1182 hX hR dX12_passes_1182 rfl
noncomputable def DX12_passes_b1140 (k1140 : Nat → Int32 → Int32 → Dm Unit) (l0 : Nat) (l1 : Int32) (l3 : Int32) : Dm Unit :=
  dbind (dread (gfI l0 12 6)) fun x1 => (if x1 ≤ l3 then (dbind (dread (isC l0 12)) fun x3 => dbind (DX12_notes l0 4 (-1) 0 l1) fun _ => DX12_passes_b1172 l0) else (dbind (dread (gfR l0 12 16)) fun x5 => dbind (dread (aald x5 l3)) fun x6 => dbind (dput (iast x6 6 0)) fun _ => k1140 l0 l1 (l3 + 1)))
theorem bDX12_passes_1140 {G : Gt} {X : Xt} {w' : Wd} {v : Unit} (hX : CxOk G X cX12_passes 9 RX12 (none, w'.1, w'.2.1, w'.2.2) 5) (hR : CxRet G X none (none, w'.1, w'.2.1, w'.2.2)) {k1140 : Nat → Int32 → Int32 → Dm Unit} (hk1140 : ∀ (l0 : Nat) (l1 : Int32) (l3 : Int32) (w : Wd), (k1140 l0 l1 l3).1 w = some (v, w') → WM G X 1140 [(0, .ref l0), (1, .int l1), (3, .int l3)] [] w.1 w.2.1 w.2.2) (l0 : Nat) (l1 : Int32) (l3 : Int32) (w : Wd) (h : (DX12_passes_b1140 k1140 l0 l1 l3).1 w = some (v, w')) : WM G X 1140 [(0, .ref l0), (1, .int l1), (3, .int l3)] [] w.1 w.2.1 w.2.2 := by
  unfold DX12_passes_b1140 at h
  refine w_iload_n 2 1140 hX rfl rfl dX12_passes_1140 ?_
  refine w_aload_n 0 1141 hX rfl rfl dX12_passes_1141 ?_
  obtain ⟨x1, gx1, h⟩ := d_rd h
  refine x_getI 1142 hX CI_12 gx1 rfl fl_X12_50 rfl dX12_passes_1142 ?_
  refine w_icmp_ge (tgt := 1164) 1145 hX dX12_passes_1145 (by decide) (fun c2 => ?_) (fun c2 => ?_)
  · have h := dit h c2
    refine w_aload_n 0 1164 hX rfl rfl dX12_passes_1164 ?_
    refine w_iconst 4 1165 hX ic_4 dX12_passes_1165 ?_
    refine w_iconst (-1) 1166 hX ic_m1 dX12_passes_1166 ?_
    refine w_iconst 0 1167 hX ic_0 dX12_passes_1167 ?_
    refine w_iload_n 1 1168 hX rfl rfl dX12_passes_1168 ?_
    obtain ⟨x3, gx3, h⟩ := d_rd h
    obtain ⟨x4, wx4, gx4, h⟩ := d_bind h
    refine w_invVv (av := [.int 4, .int (-1), .int 0, .int l1]) (st := []) 1169 hX CI_12 (isC_ok gx3) rfl mv_yX12_notes mi_yX12_notes ml_X12_103 (CDX12_notes l0 4 (-1) 0 l1 gx4) rfl (by decide) (Nat.le_of_ble_eq_true rfl) (d_le h).1 (d_le h).2 dX12_passes_1169 ?_
    exact w_sub [0] rfl (bDX12_passes_1172 hX hR l0 _ h)
  · have h := die h c2
    refine w_aload_n 0 1148 hX rfl rfl dX12_passes_1148 ?_
    obtain ⟨x5, gx5, h⟩ := d_rd h
    refine x_getR 1149 hX CI_12 gx5 rfl fl_X12_30 rfl dX12_passes_1149 ?_
    refine w_iload_n 2 1152 hX rfl rfl dX12_passes_1152 ?_
    obtain ⟨x6, gx6, h⟩ := d_rd h
    refine x_aald 1153 hX gx6 dX12_passes_1153 ?_
    refine w_bipush 6 1154 hX ib_6 dX12_passes_1154 ?_
    refine w_iconst 0 1156 hX ic_0 dX12_passes_1156 ?_
    obtain ⟨x7, wx7, gx7, h⟩ := d_bind h
    refine x_iast 1157 hX gx7 dX12_passes_1157 ?_
    refine w_iinc (lv' := [(3, .int (l3 + 1)), (0, .ref l0), (1, .int l1)]) 1158 2 hX dX12_passes_1158 rfl (inc_1 _) (by decide) rfl ?_
    refine w_goto (tgt := 1140) 1161 hX (by decide) dX12_passes_1161 ?_
    exact w_sub [1, 2, 0] rfl (hk1140 l0 l1 (l3 + 1) _ h)
noncomputable def DX12_passes_L1140 : Nat → Nat → Int32 → Int32 → Dm Unit
  | 0, _, _, _ => dno
  | n + 1, l0, l1, l3 => DX12_passes_b1140 (DX12_passes_L1140 n) l0 l1 l3
theorem lDX12_passes_1140 {G : Gt} {X : Xt} {w' : Wd} {v : Unit} (hX : CxOk G X cX12_passes 9 RX12 (none, w'.1, w'.2.1, w'.2.2) 5) (hR : CxRet G X none (none, w'.1, w'.2.1, w'.2.2)) : ∀ (n : Nat) (l0 : Nat) (l1 : Int32) (l3 : Int32) (w : Wd), (DX12_passes_L1140 n l0 l1 l3).1 w = some (v, w') → WM G X 1140 [(0, .ref l0), (1, .int l1), (3, .int l3)] [] w.1 w.2.1 w.2.2 := by
  intro n
  induction n with
  | zero =>
    intro l0 l1 l3 w h
    exact dn_ h
  | succ n ih =>
    intro l0 l1 l3 w h
    exact bDX12_passes_1140 hX hR ih l0 l1 l3 w h
noncomputable def DX12_passes_b1125 (k1065 : Nat → Int32 → Int32 → Dm Unit) (l0 : Nat) (l1 : Int32) (l3 : Int32) : Dm Unit :=
  k1065 l0 l1 (l3 + 1)
theorem bDX12_passes_1125 {G : Gt} {X : Xt} {w' : Wd} {v : Unit} (hX : CxOk G X cX12_passes 9 RX12 (none, w'.1, w'.2.1, w'.2.2) 5) (hR : CxRet G X none (none, w'.1, w'.2.1, w'.2.2)) {k1065 : Nat → Int32 → Int32 → Dm Unit} (hk1065 : ∀ (l0 : Nat) (l1 : Int32) (l3 : Int32) (w : Wd), (k1065 l0 l1 l3).1 w = some (v, w') → WM G X 1065 [(0, .ref l0), (1, .int l1), (3, .int l3)] [] w.1 w.2.1 w.2.2) (l0 : Nat) (l1 : Int32) (l3 : Int32) (w : Wd) (h : (DX12_passes_b1125 k1065 l0 l1 l3).1 w = some (v, w')) : WM G X 1125 [(0, .ref l0), (1, .int l1), (3, .int l3)] [] w.1 w.2.1 w.2.2 := by
  unfold DX12_passes_b1125 at h
  refine w_iinc (lv' := [(3, .int (l3 + 1)), (0, .ref l0), (1, .int l1)]) 1125 2 hX dX12_passes_1125 rfl (inc_1 _) (by decide) rfl ?_
  refine w_goto (tgt := 1065) 1128 hX (by decide) dX12_passes_1128 ?_
  exact w_sub [1, 2, 0] rfl (hk1065 l0 l1 (l3 + 1) _ h)
noncomputable def DX12_passes_b1065 (k1065 : Nat → Int32 → Int32 → Dm Unit) (l0 : Nat) (l1 : Int32) (l3 : Int32) : Dm Unit :=
  dbind (dread (gfI l0 12 6)) fun x1 => (if x1 ≤ l3 then (dbind (dread (gfI l0 12 2)) fun x3 => (if x3 = 0 then (DX12_passes_L1140 FU l0 l1 0) else (DX12_passes_b1172 l0))) else (dbind (dread (gfR l0 12 16)) fun x5 => dbind (dread (aald x5 l3)) fun x6 => dbind (dread (iald x6 6)) fun x7 => (if x7 = 2 then (dbind (dread (gfI l0 12 1)) fun x9 => dbind (dread (gfR l0 12 16)) fun x10 => dbind (dread (aald x10 l3)) fun x11 => dbind (dread (iald x11 8)) fun x12 => dbind (dread (gfI l0 12 5)) fun x13 => (if (x9 - x12) < x13 then (DX12_passes_b1125 k1065 l0 l1 l3) else (dbind (dread (gfR l0 12 16)) fun x15 => dbind (dread (aald x15 l3)) fun x16 => dbind (dput (iast x16 6 0)) fun _ => dbind (dread (isC l0 12)) fun x18 => dbind (DX12_notes l0 5 l3 0 l1) fun _ => DX12_passes_b1125 k1065 l0 l1 l3))) else (DX12_passes_b1125 k1065 l0 l1 l3))))
theorem bDX12_passes_1065 {G : Gt} {X : Xt} {w' : Wd} {v : Unit} (hX : CxOk G X cX12_passes 9 RX12 (none, w'.1, w'.2.1, w'.2.2) 5) (hR : CxRet G X none (none, w'.1, w'.2.1, w'.2.2)) {k1065 : Nat → Int32 → Int32 → Dm Unit} (hk1065 : ∀ (l0 : Nat) (l1 : Int32) (l3 : Int32) (w : Wd), (k1065 l0 l1 l3).1 w = some (v, w') → WM G X 1065 [(0, .ref l0), (1, .int l1), (3, .int l3)] [] w.1 w.2.1 w.2.2) (l0 : Nat) (l1 : Int32) (l3 : Int32) (w : Wd) (h : (DX12_passes_b1065 k1065 l0 l1 l3).1 w = some (v, w')) : WM G X 1065 [(0, .ref l0), (1, .int l1), (3, .int l3)] [] w.1 w.2.1 w.2.2 := by
  unfold DX12_passes_b1065 at h
  refine w_iload_n 2 1065 hX rfl rfl dX12_passes_1065 ?_
  refine w_aload_n 0 1066 hX rfl rfl dX12_passes_1066 ?_
  obtain ⟨x1, gx1, h⟩ := d_rd h
  refine x_getI 1067 hX CI_12 gx1 rfl fl_X12_50 rfl dX12_passes_1067 ?_
  refine w_icmp_ge (tgt := 1131) 1070 hX dX12_passes_1070 (by decide) (fun c2 => ?_) (fun c2 => ?_)
  · have h := dit h c2
    refine w_aload_n 0 1131 hX rfl rfl dX12_passes_1131 ?_
    obtain ⟨x3, gx3, h⟩ := d_rd h
    refine x_getI 1132 hX CI_12 gx3 rfl fl_X12_7 rfl dX12_passes_1132 ?_
    refine w_if_ne (tgt := 1172) 1135 hX dX12_passes_1135 (by decide) (fun c4 => ?_) (fun c4 => ?_)
    · have h := die h c4
      exact w_sub [0] rfl (bDX12_passes_1172 hX hR l0 _ h)
    · have h := dit h c4
      refine w_iconst 0 1138 hX ic_0 dX12_passes_1138 ?_
      refine w_istore_n (lv' := [(3, .int 0), (0, .ref l0), (1, .int l1)]) 1139 hX rfl dX12_passes_1139 (by decide) rfl ?_
      exact w_sub [1, 2, 0] rfl (lDX12_passes_1140 hX hR FU l0 l1 0 _ h)
  · have h := die h c2
    refine w_aload_n 0 1073 hX rfl rfl dX12_passes_1073 ?_
    obtain ⟨x5, gx5, h⟩ := d_rd h
    refine x_getR 1074 hX CI_12 gx5 rfl fl_X12_30 rfl dX12_passes_1074 ?_
    refine w_iload_n 2 1077 hX rfl rfl dX12_passes_1077 ?_
    obtain ⟨x6, gx6, h⟩ := d_rd h
    refine x_aald 1078 hX gx6 dX12_passes_1078 ?_
    refine w_bipush 6 1079 hX ib_6 dX12_passes_1079 ?_
    obtain ⟨x7, gx7, h⟩ := d_rd h
    refine x_iald 1081 hX gx7 dX12_passes_1081 ?_
    refine w_iconst 2 1082 hX ic_2 dX12_passes_1082 ?_
    refine w_icmp_ne (tgt := 1125) 1083 hX dX12_passes_1083 (by decide) (fun c8 => ?_) (fun c8 => ?_)
    · have h := die h c8
      exact bDX12_passes_1125 hX hR hk1065 l0 l1 l3 _ h
    · have h := dit h c8
      refine w_aload_n 0 1086 hX rfl rfl dX12_passes_1086 ?_
      obtain ⟨x9, gx9, h⟩ := d_rd h
      refine x_getI 1087 hX CI_12 gx9 rfl fl_X12_44 rfl dX12_passes_1087 ?_
      refine w_aload_n 0 1090 hX rfl rfl dX12_passes_1090 ?_
      obtain ⟨x10, gx10, h⟩ := d_rd h
      refine x_getR 1091 hX CI_12 gx10 rfl fl_X12_30 rfl dX12_passes_1091 ?_
      refine w_iload_n 2 1094 hX rfl rfl dX12_passes_1094 ?_
      obtain ⟨x11, gx11, h⟩ := d_rd h
      refine x_aald 1095 hX gx11 dX12_passes_1095 ?_
      refine w_bipush 8 1096 hX ib_8 dX12_passes_1096 ?_
      obtain ⟨x12, gx12, h⟩ := d_rd h
      refine x_iald 1098 hX gx12 dX12_passes_1098 ?_
      refine w_isub 1099 hX dX12_passes_1099 ?_
      refine w_aload_n 0 1100 hX rfl rfl dX12_passes_1100 ?_
      obtain ⟨x13, gx13, h⟩ := d_rd h
      refine x_getI 1101 hX CI_12 gx13 rfl fl_X12_16 rfl dX12_passes_1101 ?_
      refine w_icmp_lt (tgt := 1125) 1104 hX dX12_passes_1104 (by decide) (fun c14 => ?_) (fun c14 => ?_)
      · have h := dit h c14
        exact bDX12_passes_1125 hX hR hk1065 l0 l1 l3 _ h
      · have h := die h c14
        refine w_aload_n 0 1107 hX rfl rfl dX12_passes_1107 ?_
        obtain ⟨x15, gx15, h⟩ := d_rd h
        refine x_getR 1108 hX CI_12 gx15 rfl fl_X12_30 rfl dX12_passes_1108 ?_
        refine w_iload_n 2 1111 hX rfl rfl dX12_passes_1111 ?_
        obtain ⟨x16, gx16, h⟩ := d_rd h
        refine x_aald 1112 hX gx16 dX12_passes_1112 ?_
        refine w_bipush 6 1113 hX ib_6 dX12_passes_1113 ?_
        refine w_iconst 0 1115 hX ic_0 dX12_passes_1115 ?_
        obtain ⟨x17, wx17, gx17, h⟩ := d_bind h
        refine x_iast 1116 hX gx17 dX12_passes_1116 ?_
        refine w_aload_n 0 1117 hX rfl rfl dX12_passes_1117 ?_
        refine w_iconst 5 1118 hX ic_5 dX12_passes_1118 ?_
        refine w_iload_n 2 1119 hX rfl rfl dX12_passes_1119 ?_
        refine w_iconst 0 1120 hX ic_0 dX12_passes_1120 ?_
        refine w_iload_n 1 1121 hX rfl rfl dX12_passes_1121 ?_
        obtain ⟨x18, gx18, h⟩ := d_rd h
        obtain ⟨x19, wx19, gx19, h⟩ := d_bind h
        refine w_invVv (av := [.int 5, .int l3, .int 0, .int l1]) (st := []) 1122 hX CI_12 (isC_ok gx18) rfl mv_yX12_notes mi_yX12_notes ml_X12_103 (CDX12_notes l0 5 l3 0 l1 gx19) rfl (by decide) (Nat.le_of_ble_eq_true rfl) (d_le h).1 (d_le h).2 dX12_passes_1122 ?_
        exact bDX12_passes_1125 hX hR hk1065 l0 l1 l3 _ h
noncomputable def DX12_passes_L1065 : Nat → Nat → Int32 → Int32 → Dm Unit
  | 0, _, _, _ => dno
  | n + 1, l0, l1, l3 => DX12_passes_b1065 (DX12_passes_L1065 n) l0 l1 l3
theorem lDX12_passes_1065 {G : Gt} {X : Xt} {w' : Wd} {v : Unit} (hX : CxOk G X cX12_passes 9 RX12 (none, w'.1, w'.2.1, w'.2.2) 5) (hR : CxRet G X none (none, w'.1, w'.2.1, w'.2.2)) : ∀ (n : Nat) (l0 : Nat) (l1 : Int32) (l3 : Int32) (w : Wd), (DX12_passes_L1065 n l0 l1 l3).1 w = some (v, w') → WM G X 1065 [(0, .ref l0), (1, .int l1), (3, .int l3)] [] w.1 w.2.1 w.2.2 := by
  intro n
  induction n with
  | zero =>
    intro l0 l1 l3 w h
    exact dn_ h
  | succ n ih =>
    intro l0 l1 l3 w h
    exact bDX12_passes_1065 hX hR ih l0 l1 l3 w h
noncomputable def DX12_passes_b1063 (l0 : Nat) (l1 : Int32) : Dm Unit :=
  DX12_passes_L1065 FU l0 l1 0
theorem bDX12_passes_1063 {G : Gt} {X : Xt} {w' : Wd} {v : Unit} (hX : CxOk G X cX12_passes 9 RX12 (none, w'.1, w'.2.1, w'.2.2) 5) (hR : CxRet G X none (none, w'.1, w'.2.1, w'.2.2)) (l0 : Nat) (l1 : Int32) (w : Wd) (h : (DX12_passes_b1063 l0 l1).1 w = some (v, w')) : WM G X 1063 [(0, .ref l0), (1, .int l1)] [] w.1 w.2.1 w.2.2 := by
  unfold DX12_passes_b1063 at h
  refine w_iconst 0 1063 hX ic_0 dX12_passes_1063 ?_
  refine w_istore_n (lv' := [(3, .int 0), (0, .ref l0), (1, .int l1)]) 1064 hX rfl dX12_passes_1064 (by decide) rfl ?_
  exact w_sub [1, 2, 0] rfl (lDX12_passes_1065 hX hR FU l0 l1 0 _ h)
noncomputable def DX12_passes_b1058 (l0 : Nat) (l1 : Int32) : Dm Unit :=
  dbind (dput (pfI l0 12 2 0)) fun _ => DX12_passes_b1063 l0 l1
theorem bDX12_passes_1058 {G : Gt} {X : Xt} {w' : Wd} {v : Unit} (hX : CxOk G X cX12_passes 9 RX12 (none, w'.1, w'.2.1, w'.2.2) 5) (hR : CxRet G X none (none, w'.1, w'.2.1, w'.2.2)) (l0 : Nat) (l1 : Int32) (w : Wd) (h : (DX12_passes_b1058 l0 l1).1 w = some (v, w')) : WM G X 1058 [(0, .ref l0), (1, .int l1)] [] w.1 w.2.1 w.2.2 := by
  unfold DX12_passes_b1058 at h
  refine w_aload_n 0 1058 hX rfl rfl dX12_passes_1058 ?_
  refine w_iconst 0 1059 hX ic_0 dX12_passes_1059 ?_
  obtain ⟨x1, wx1, gx1, h⟩ := d_bind h
  refine x_putI 1060 hX CI_12 gx1 rfl fl_X12_7 rfl rfl rfl rfl dX12_passes_1060 ?_
  exact bDX12_passes_1063 hX hR l0 l1 _ h
noncomputable def DX12_passes_b1022 (l0 : Nat) (l1 : Int32) (l2 : Int32) : Dm Unit :=
  (if l2 = 0 then (DX12_passes_b1172 l0) else (dbind (dread (isC l0 12)) fun x2 => dbind (DX12_knows l0 0) fun x3 => dbind (dread (isC l0 12)) fun x4 => dbind (DX12_weighs l0 x3) fun x5 => dbind (dread (gfI l0 12 3)) fun x6 => (if x5 < x6 then (DX12_passes_b1058 l0 l1) else (dbind (dread (isC l0 12)) fun x8 => dbind (DX12_knows l0 1) fun x9 => dbind (dread (isC l0 12)) fun x10 => dbind (DX12_weighs l0 x9) fun x11 => dbind (dread (gfI l0 12 3)) fun x12 => (if x12 ≤ x11 then (DX12_passes_b1063 l0 l1) else (DX12_passes_b1058 l0 l1))))))
theorem bDX12_passes_1022 {G : Gt} {X : Xt} {w' : Wd} {v : Unit} (hX : CxOk G X cX12_passes 9 RX12 (none, w'.1, w'.2.1, w'.2.2) 5) (hR : CxRet G X none (none, w'.1, w'.2.1, w'.2.2)) (l0 : Nat) (l1 : Int32) (l2 : Int32) (w : Wd) (h : (DX12_passes_b1022 l0 l1 l2).1 w = some (v, w')) : WM G X 1022 [(0, .ref l0), (1, .int l1), (2, .int l2)] [] w.1 w.2.1 w.2.2 := by
  unfold DX12_passes_b1022 at h
  refine w_iload_n 2 1022 hX rfl rfl dX12_passes_1022 ?_
  refine w_if_eq (tgt := 1172) 1023 hX dX12_passes_1023 (by decide) (fun c1 => ?_) (fun c1 => ?_)
  · have h := dit h c1
    exact w_sub [0] rfl (bDX12_passes_1172 hX hR l0 _ h)
  · have h := die h c1
    refine w_aload_n 0 1026 hX rfl rfl dX12_passes_1026 ?_
    refine w_aload_n 0 1027 hX rfl rfl dX12_passes_1027 ?_
    refine w_iconst 0 1028 hX ic_0 dX12_passes_1028 ?_
    obtain ⟨x2, gx2, h⟩ := d_rd h
    obtain ⟨x3, wx3, gx3, h⟩ := d_bind h
    refine w_invVi (av := [.int 0]) (st := [.ref l0]) 1029 hX CI_12 (isC_ok gx2) rfl mv_yX12_knows mi_yX12_knows ml_X12_132 (CDX12_knows l0 0 gx3) rfl (by decide) (Nat.le_of_ble_eq_true rfl) (d_le h).1 (d_le h).2 dX12_passes_1029 ?_
    obtain ⟨x4, gx4, h⟩ := d_rd h
    obtain ⟨x5, wx5, gx5, h⟩ := d_bind h
    refine w_invVi (av := [.int x3]) (st := []) 1032 hX CI_12 (isC_ok gx4) rfl mv_yX12_weighs mi_yX12_weighs ml_X12_135 (CDX12_weighs l0 x3 gx5) rfl (by decide) (Nat.le_of_ble_eq_true rfl) (d_le h).1 (d_le h).2 dX12_passes_1032 ?_
    refine w_aload_n 0 1035 hX rfl rfl dX12_passes_1035 ?_
    obtain ⟨x6, gx6, h⟩ := d_rd h
    refine x_getI 1036 hX CI_12 gx6 rfl fl_X12_13 rfl dX12_passes_1036 ?_
    refine w_icmp_lt (tgt := 1058) 1039 hX dX12_passes_1039 (by decide) (fun c7 => ?_) (fun c7 => ?_)
    · have h := dit h c7
      exact w_sub [0, 1] rfl (bDX12_passes_1058 hX hR l0 l1 _ h)
    · have h := die h c7
      refine w_aload_n 0 1042 hX rfl rfl dX12_passes_1042 ?_
      refine w_aload_n 0 1043 hX rfl rfl dX12_passes_1043 ?_
      refine w_iconst 1 1044 hX ic_1 dX12_passes_1044 ?_
      obtain ⟨x8, gx8, h⟩ := d_rd h
      obtain ⟨x9, wx9, gx9, h⟩ := d_bind h
      refine w_invVi (av := [.int 1]) (st := [.ref l0]) 1045 hX CI_12 (isC_ok gx8) rfl mv_yX12_knows mi_yX12_knows ml_X12_132 (CDX12_knows l0 1 gx9) rfl (by decide) (Nat.le_of_ble_eq_true rfl) (d_le h).1 (d_le h).2 dX12_passes_1045 ?_
      obtain ⟨x10, gx10, h⟩ := d_rd h
      obtain ⟨x11, wx11, gx11, h⟩ := d_bind h
      refine w_invVi (av := [.int x9]) (st := []) 1048 hX CI_12 (isC_ok gx10) rfl mv_yX12_weighs mi_yX12_weighs ml_X12_135 (CDX12_weighs l0 x9 gx11) rfl (by decide) (Nat.le_of_ble_eq_true rfl) (d_le h).1 (d_le h).2 dX12_passes_1048 ?_
      refine w_aload_n 0 1051 hX rfl rfl dX12_passes_1051 ?_
      obtain ⟨x12, gx12, h⟩ := d_rd h
      refine x_getI 1052 hX CI_12 gx12 rfl fl_X12_13 rfl dX12_passes_1052 ?_
      refine w_icmp_ge (tgt := 1063) 1055 hX dX12_passes_1055 (by decide) (fun c13 => ?_) (fun c13 => ?_)
      · have h := dit h c13
        exact w_sub [0, 1] rfl (bDX12_passes_1063 hX hR l0 l1 _ h)
      · have h := die h c13
        exact w_sub [0, 1] rfl (bDX12_passes_1058 hX hR l0 l1 _ h)
noncomputable def DX12_passes_b1016 (k937 : Nat → Int32 → Int32 → Int32 → Dm Unit) (l0 : Nat) (l1 : Int32) (l2 : Int32) (l3 : Int32) : Dm Unit :=
  k937 l0 l1 l2 (l3 + 1)
theorem bDX12_passes_1016 {G : Gt} {X : Xt} {w' : Wd} {v : Unit} (hX : CxOk G X cX12_passes 9 RX12 (none, w'.1, w'.2.1, w'.2.2) 5) (hR : CxRet G X none (none, w'.1, w'.2.1, w'.2.2)) {k937 : Nat → Int32 → Int32 → Int32 → Dm Unit} (hk937 : ∀ (l0 : Nat) (l1 : Int32) (l2 : Int32) (l3 : Int32) (w : Wd), (k937 l0 l1 l2 l3).1 w = some (v, w') → WM G X 937 [(0, .ref l0), (1, .int l1), (2, .int l2), (3, .int l3)] [] w.1 w.2.1 w.2.2) (l0 : Nat) (l1 : Int32) (l2 : Int32) (l3 : Int32) (w : Wd) (h : (DX12_passes_b1016 k937 l0 l1 l2 l3).1 w = some (v, w')) : WM G X 1016 [(0, .ref l0), (1, .int l1), (2, .int l2), (3, .int l3)] [] w.1 w.2.1 w.2.2 := by
  unfold DX12_passes_b1016 at h
  refine w_iinc (lv' := [(3, .int (l3 + 1)), (0, .ref l0), (1, .int l1), (2, .int l2)]) 1016 3 hX dX12_passes_1016 rfl (inc_1 _) (by decide) rfl ?_
  refine w_goto (tgt := 937) 1019 hX (by decide) dX12_passes_1019 ?_
  exact w_sub [1, 2, 3, 0] rfl (hk937 l0 l1 l2 (l3 + 1) _ h)
noncomputable def DX12_passes_b937 (k937 : Nat → Int32 → Int32 → Int32 → Dm Unit) (l0 : Nat) (l1 : Int32) (l2 : Int32) (l3 : Int32) : Dm Unit :=
  dbind (dread (gfI l0 12 6)) fun x1 => (if x1 ≤ l3 then (DX12_passes_b1022 l0 l1 l2) else ((if l1 = 0 then (DX12_passes_b1022 l0 l1 l2) else (dbind (dread (gfR l0 12 16)) fun x4 => dbind (dread (aald x4 l3)) fun x5 => dbind (dread (iald x5 4)) fun x6 => (if x6 = 0 then (DX12_passes_b1016 k937 l0 l1 l2 l3) else (dbind (dread (isC l0 12)) fun x8 => dbind (DX12_draw l0 1000) fun x9 => dbind (dread (isC l0 12)) fun x10 => dbind (DX12_says l0 3 l3) fun x11 => (if x9 < x11 then (dbind (dread (gfR l0 12 16)) fun x13 => dbind (dread (aald x13 l3)) fun x14 => dbind (dread (iald x14 4)) fun x15 => dbind (dclR (fun _ => FJ6_numberOfTrailingZeros_0f7a4 x15)) fun x16 => dbind (dread (gfR l0 12 16)) fun x17 => dbind (dread (aald x17 l3)) fun x18 => dbind (dread (iald x18 4)) fun x19 => dbind (dput (iast x18 4 (x19 ^^^ ((1 : Int32) <<< (x16 &&& 31))))) fun _ => dbind (dread (isC l0 12)) fun x21 => dbind (DX12_notes l0 3 l3 x16 1) fun _ => DX12_passes_b1016 k937 l0 l1 l2 l3) else (DX12_passes_b1016 k937 l0 l1 l2 l3))))))))
theorem bDX12_passes_937 {G : Gt} {X : Xt} {w' : Wd} {v : Unit} (hX : CxOk G X cX12_passes 9 RX12 (none, w'.1, w'.2.1, w'.2.2) 5) (hR : CxRet G X none (none, w'.1, w'.2.1, w'.2.2)) {k937 : Nat → Int32 → Int32 → Int32 → Dm Unit} (hk937 : ∀ (l0 : Nat) (l1 : Int32) (l2 : Int32) (l3 : Int32) (w : Wd), (k937 l0 l1 l2 l3).1 w = some (v, w') → WM G X 937 [(0, .ref l0), (1, .int l1), (2, .int l2), (3, .int l3)] [] w.1 w.2.1 w.2.2) (l0 : Nat) (l1 : Int32) (l2 : Int32) (l3 : Int32) (w : Wd) (h : (DX12_passes_b937 k937 l0 l1 l2 l3).1 w = some (v, w')) : WM G X 937 [(0, .ref l0), (1, .int l1), (2, .int l2), (3, .int l3)] [] w.1 w.2.1 w.2.2 := by
  unfold DX12_passes_b937 at h
  refine w_iload_n 3 937 hX rfl rfl dX12_passes_937 ?_
  refine w_aload_n 0 938 hX rfl rfl dX12_passes_938 ?_
  obtain ⟨x1, gx1, h⟩ := d_rd h
  refine x_getI 939 hX CI_12 gx1 rfl fl_X12_50 rfl dX12_passes_939 ?_
  refine w_icmp_ge (tgt := 1022) 942 hX dX12_passes_942 (by decide) (fun c2 => ?_) (fun c2 => ?_)
  · have h := dit h c2
    exact w_sub [0, 1, 2] rfl (bDX12_passes_1022 hX hR l0 l1 l2 _ h)
  · have h := die h c2
    refine w_iload_n 1 945 hX rfl rfl dX12_passes_945 ?_
    refine w_if_eq (tgt := 1022) 946 hX dX12_passes_946 (by decide) (fun c3 => ?_) (fun c3 => ?_)
    · have h := dit h c3
      exact w_sub [0, 1, 2] rfl (bDX12_passes_1022 hX hR l0 l1 l2 _ h)
    · have h := die h c3
      refine w_aload_n 0 949 hX rfl rfl dX12_passes_949 ?_
      obtain ⟨x4, gx4, h⟩ := d_rd h
      refine x_getR 950 hX CI_12 gx4 rfl fl_X12_30 rfl dX12_passes_950 ?_
      refine w_iload_n 3 953 hX rfl rfl dX12_passes_953 ?_
      obtain ⟨x5, gx5, h⟩ := d_rd h
      refine x_aald 954 hX gx5 dX12_passes_954 ?_
      refine w_iconst 4 955 hX ic_4 dX12_passes_955 ?_
      obtain ⟨x6, gx6, h⟩ := d_rd h
      refine x_iald 956 hX gx6 dX12_passes_956 ?_
      refine w_if_eq (tgt := 1016) 957 hX dX12_passes_957 (by decide) (fun c7 => ?_) (fun c7 => ?_)
      · have h := dit h c7
        exact bDX12_passes_1016 hX hR hk937 l0 l1 l2 l3 _ h
      · have h := die h c7
        refine w_aload_n 0 960 hX rfl rfl dX12_passes_960 ?_
        refine w_sipush 1000 961 hX isp_1000 dX12_passes_961 ?_
        obtain ⟨x8, gx8, h⟩ := d_rd h
        obtain ⟨x9, wx9, gx9, h⟩ := d_bind h
        refine w_invVi (av := [.int 1000]) (st := []) 964 hX CI_12 (isC_ok gx8) rfl mv_yX12_draw mi_yX12_draw ml_X12_126 (CDX12_draw l0 1000 gx9) rfl (by decide) (Nat.le_of_ble_eq_true rfl) (d_le h).1 (d_le h).2 dX12_passes_964 ?_
        refine w_aload_n 0 967 hX rfl rfl dX12_passes_967 ?_
        refine w_iconst 3 968 hX ic_3 dX12_passes_968 ?_
        refine w_iload_n 3 969 hX rfl rfl dX12_passes_969 ?_
        obtain ⟨x10, gx10, h⟩ := d_rd h
        obtain ⟨x11, wx11, gx11, h⟩ := d_bind h
        refine w_invVi (av := [.int 3, .int l3]) (st := [.int x9]) 970 hX CI_12 (isC_ok gx10) rfl mv_yX12_says mi_yX12_says ml_X12_89 (CDX12_says l0 3 l3 gx11) rfl (by decide) (Nat.le_of_ble_eq_true rfl) (d_le h).1 (d_le h).2 dX12_passes_970 ?_
        refine w_icmp_lt (tgt := 979) 973 hX dX12_passes_973 (by decide) (fun c12 => ?_) (fun c12 => ?_)
        · have h := dit h c12
          refine w_aload_n 0 979 hX rfl rfl dX12_passes_979 ?_
          obtain ⟨x13, gx13, h⟩ := d_rd h
          refine x_getR 980 hX CI_12 gx13 rfl fl_X12_30 rfl dX12_passes_980 ?_
          refine w_iload_n 3 983 hX rfl rfl dX12_passes_983 ?_
          obtain ⟨x14, gx14, h⟩ := d_rd h
          refine x_aald 984 hX gx14 dX12_passes_984 ?_
          refine w_iconst 4 985 hX ic_4 dX12_passes_985 ?_
          obtain ⟨x15, gx15, h⟩ := d_rd h
          refine x_iald 986 hX gx15 dX12_passes_986 ?_
          obtain ⟨x16, wx16, gx16, h⟩ := d_bind h
          refine w_invSi (av := [.int x15]) (st := []) 987 hX ms_yJ6_numberOfTrailingZeros_0f7a4 mi_yJ6_numberOfTrailingZeros_0f7a4 ml_X12_129 (cs_R (fun G g => CJ6_numberOfTrailingZeros_0f7a4 (G := G) x15 _ g) gx16) rfl (by decide) (Nat.le_of_ble_eq_true rfl) (d_le h).1 (d_le h).2 dX12_passes_987 ?_
          refine w_istore (lv' := [(4, .int x16), (0, .ref l0), (1, .int l1), (2, .int l2), (3, .int l3)]) 990 hX dX12_passes_990 (by decide) rfl ?_
          refine w_aload_n 1 992 hX rfl rfl dX12_passes_992 ?_
          obtain ⟨x17, gx17, h⟩ := d_rd h
          refine x_getR 993 hX CI_12 gx17 rfl fl_X12_30 rfl dX12_passes_993 ?_
          refine w_iload_n 4 996 hX rfl rfl dX12_passes_996 ?_
          obtain ⟨x18, gx18, h⟩ := d_rd h
          refine x_aald 997 hX gx18 dX12_passes_997 ?_
          refine w_iconst 4 998 hX ic_4 dX12_passes_998 ?_
          refine w_dup2 999 hX rfl rfl dX12_passes_999 ?_
          obtain ⟨x19, gx19, h⟩ := d_rd h
          refine x_iald 1000 hX gx19 dX12_passes_1000 ?_
          refine w_iconst 1 1001 hX ic_1 dX12_passes_1001 ?_
          refine w_iload 0 1002 hX rfl dX12_passes_1002 ?_
          refine w_ishl 1004 hX dX12_passes_1004 ?_
          refine w_ixor 1005 hX dX12_passes_1005 ?_
          obtain ⟨x20, wx20, gx20, h⟩ := d_bind h
          refine x_iast 1006 hX gx20 dX12_passes_1006 ?_
          refine w_aload_n 1 1007 hX rfl rfl dX12_passes_1007 ?_
          refine w_iconst 3 1008 hX ic_3 dX12_passes_1008 ?_
          refine w_iload_n 4 1009 hX rfl rfl dX12_passes_1009 ?_
          refine w_iload 0 1010 hX rfl dX12_passes_1010 ?_
          refine w_iconst 1 1012 hX ic_1 dX12_passes_1012 ?_
          obtain ⟨x21, gx21, h⟩ := d_rd h
          obtain ⟨x22, wx22, gx22, h⟩ := d_bind h
          refine w_invVv (av := [.int 3, .int l3, .int x16, .int 1]) (st := []) 1013 hX CI_12 (isC_ok gx21) rfl mv_yX12_notes mi_yX12_notes ml_X12_103 (CDX12_notes l0 3 l3 x16 1 gx22) rfl (by decide) (Nat.le_of_ble_eq_true rfl) (d_le h).1 (d_le h).2 dX12_passes_1013 ?_
          exact w_sub [1, 2, 3, 4] rfl (bDX12_passes_1016 hX hR hk937 l0 l1 l2 l3 _ h)
        · have h := die h c12
          refine w_goto (tgt := 1016) 976 hX (by decide) dX12_passes_976 ?_
          exact bDX12_passes_1016 hX hR hk937 l0 l1 l2 l3 _ h
noncomputable def DX12_passes_L937 : Nat → Nat → Int32 → Int32 → Int32 → Dm Unit
  | 0, _, _, _, _ => dno
  | n + 1, l0, l1, l2, l3 => DX12_passes_b937 (DX12_passes_L937 n) l0 l1 l2 l3
theorem lDX12_passes_937 {G : Gt} {X : Xt} {w' : Wd} {v : Unit} (hX : CxOk G X cX12_passes 9 RX12 (none, w'.1, w'.2.1, w'.2.2) 5) (hR : CxRet G X none (none, w'.1, w'.2.1, w'.2.2)) : ∀ (n : Nat) (l0 : Nat) (l1 : Int32) (l2 : Int32) (l3 : Int32) (w : Wd), (DX12_passes_L937 n l0 l1 l2 l3).1 w = some (v, w') → WM G X 937 [(0, .ref l0), (1, .int l1), (2, .int l2), (3, .int l3)] [] w.1 w.2.1 w.2.2 := by
  intro n
  induction n with
  | zero =>
    intro l0 l1 l2 l3 w h
    exact dn_ h
  | succ n ih =>
    intro l0 l1 l2 l3 w h
    exact bDX12_passes_937 hX hR ih l0 l1 l2 l3 w h
noncomputable def DX12_passes_b935 (l0 : Nat) (l1 : Int32) (l2 : Int32) : Dm Unit :=
  DX12_passes_L937 FU l0 l1 l2 0
theorem bDX12_passes_935 {G : Gt} {X : Xt} {w' : Wd} {v : Unit} (hX : CxOk G X cX12_passes 9 RX12 (none, w'.1, w'.2.1, w'.2.2) 5) (hR : CxRet G X none (none, w'.1, w'.2.1, w'.2.2)) (l0 : Nat) (l1 : Int32) (l2 : Int32) (w : Wd) (h : (DX12_passes_b935 l0 l1 l2).1 w = some (v, w')) : WM G X 935 [(0, .ref l0), (1, .int l1), (2, .int l2)] [] w.1 w.2.1 w.2.2 := by
  unfold DX12_passes_b935 at h
  refine w_iconst 0 935 hX ic_0 dX12_passes_935 ?_
  refine w_istore_n (lv' := [(3, .int 0), (0, .ref l0), (1, .int l1), (2, .int l2)]) 936 hX rfl dX12_passes_936 (by decide) rfl ?_
  exact w_sub [1, 2, 3, 0] rfl (lDX12_passes_937 hX hR FU l0 l1 l2 0 _ h)
noncomputable def DX12_passes_b929 (k833 : Nat → Int32 → Int32 → Int32 → Dm Unit) (l0 : Nat) (l1 : Int32) (l2 : Int32) (l3 : Int32) : Dm Unit :=
  k833 l0 l1 l2 (l3 + 1)
theorem bDX12_passes_929 {G : Gt} {X : Xt} {w' : Wd} {v : Unit} (hX : CxOk G X cX12_passes 9 RX12 (none, w'.1, w'.2.1, w'.2.2) 5) (hR : CxRet G X none (none, w'.1, w'.2.1, w'.2.2)) {k833 : Nat → Int32 → Int32 → Int32 → Dm Unit} (hk833 : ∀ (l0 : Nat) (l1 : Int32) (l2 : Int32) (l3 : Int32) (w : Wd), (k833 l0 l1 l2 l3).1 w = some (v, w') → WM G X 833 [(0, .ref l0), (1, .int l1), (2, .int l2), (3, .int l3)] [] w.1 w.2.1 w.2.2) (l0 : Nat) (l1 : Int32) (l2 : Int32) (l3 : Int32) (w : Wd) (h : (DX12_passes_b929 k833 l0 l1 l2 l3).1 w = some (v, w')) : WM G X 929 [(0, .ref l0), (1, .int l1), (2, .int l2), (3, .int l3)] [] w.1 w.2.1 w.2.2 := by
  unfold DX12_passes_b929 at h
  refine w_iinc (lv' := [(3, .int (l3 + 1)), (0, .ref l0), (1, .int l1), (2, .int l2)]) 929 3 hX dX12_passes_929 rfl (inc_1 _) (by decide) rfl ?_
  refine w_goto (tgt := 833) 932 hX (by decide) dX12_passes_932 ?_
  exact w_sub [1, 2, 3, 0] rfl (hk833 l0 l1 l2 (l3 + 1) _ h)
noncomputable def DX12_passes_b923 (k866 : Nat → Int32 → Int32 → Int32 → Int32 → Dm Unit) (l0 : Nat) (l1 : Int32) (l2 : Int32) (l3 : Int32) (l4 : Int32) : Dm Unit :=
  k866 l0 l1 l2 l3 (l4 + 1)
theorem bDX12_passes_923 {G : Gt} {X : Xt} {w' : Wd} {v : Unit} (hX : CxOk G X cX12_passes 9 RX12 (none, w'.1, w'.2.1, w'.2.2) 5) (hR : CxRet G X none (none, w'.1, w'.2.1, w'.2.2)) {k866 : Nat → Int32 → Int32 → Int32 → Int32 → Dm Unit} (hk866 : ∀ (l0 : Nat) (l1 : Int32) (l2 : Int32) (l3 : Int32) (l4 : Int32) (w : Wd), (k866 l0 l1 l2 l3 l4).1 w = some (v, w') → WM G X 866 [(0, .ref l0), (1, .int l1), (2, .int l2), (3, .int l3), (4, .int l4)] [] w.1 w.2.1 w.2.2) (l0 : Nat) (l1 : Int32) (l2 : Int32) (l3 : Int32) (l4 : Int32) (w : Wd) (h : (DX12_passes_b923 k866 l0 l1 l2 l3 l4).1 w = some (v, w')) : WM G X 923 [(0, .ref l0), (1, .int l1), (2, .int l2), (3, .int l3), (4, .int l4)] [] w.1 w.2.1 w.2.2 := by
  unfold DX12_passes_b923 at h
  refine w_iinc (lv' := [(4, .int (l4 + 1)), (0, .ref l0), (1, .int l1), (2, .int l2), (3, .int l3)]) 923 4 hX dX12_passes_923 rfl (inc_1 _) (by decide) rfl ?_
  refine w_goto (tgt := 866) 926 hX (by decide) dX12_passes_926 ?_
  exact w_sub [1, 2, 3, 4, 0] rfl (hk866 l0 l1 l2 l3 (l4 + 1) _ h)
noncomputable def DX12_passes_b866 (k833 : Nat → Int32 → Int32 → Int32 → Dm Unit) (k866 : Nat → Int32 → Int32 → Int32 → Int32 → Dm Unit) (l0 : Nat) (l1 : Int32) (l2 : Int32) (l3 : Int32) (l4 : Int32) : Dm Unit :=
  dbind (dread (gfI l0 12 6)) fun x1 => (if x1 ≤ l4 then (DX12_passes_b929 k833 l0 l1 l2 l3) else (dbind (dread (gfR l0 12 14)) fun x3 => dbind (dread (iald x3 l3)) fun x4 => (if ((x4 >>> (l4 &&& 31)) &&& 1) = 1 then (dbind (dread (gfR l0 12 16)) fun x6 => dbind (dread (aald x6 l4)) fun x7 => dbind (dread (iald x7 6)) fun x8 => (if x8 = 0 then (dbind (dread (gfR l0 12 16)) fun x10 => dbind (dread (aald x10 l4)) fun x11 => dbind (dread (iald x11 4)) fun x12 => dbind (dread (gfR l0 12 16)) fun x13 => dbind (dread (aald x13 l3)) fun x14 => dbind (dread (iald x14 4)) fun x15 => dbind (dput (iast x11 4 (x12 ||| x15))) fun _ => DX12_passes_b923 k866 l0 l1 l2 l3 l4) else (DX12_passes_b923 k866 l0 l1 l2 l3 l4))) else (DX12_passes_b923 k866 l0 l1 l2 l3 l4))))
theorem bDX12_passes_866 {G : Gt} {X : Xt} {w' : Wd} {v : Unit} (hX : CxOk G X cX12_passes 9 RX12 (none, w'.1, w'.2.1, w'.2.2) 5) (hR : CxRet G X none (none, w'.1, w'.2.1, w'.2.2)) {k833 : Nat → Int32 → Int32 → Int32 → Dm Unit} (hk833 : ∀ (l0 : Nat) (l1 : Int32) (l2 : Int32) (l3 : Int32) (w : Wd), (k833 l0 l1 l2 l3).1 w = some (v, w') → WM G X 833 [(0, .ref l0), (1, .int l1), (2, .int l2), (3, .int l3)] [] w.1 w.2.1 w.2.2) {k866 : Nat → Int32 → Int32 → Int32 → Int32 → Dm Unit} (hk866 : ∀ (l0 : Nat) (l1 : Int32) (l2 : Int32) (l3 : Int32) (l4 : Int32) (w : Wd), (k866 l0 l1 l2 l3 l4).1 w = some (v, w') → WM G X 866 [(0, .ref l0), (1, .int l1), (2, .int l2), (3, .int l3), (4, .int l4)] [] w.1 w.2.1 w.2.2) (l0 : Nat) (l1 : Int32) (l2 : Int32) (l3 : Int32) (l4 : Int32) (w : Wd) (h : (DX12_passes_b866 k833 k866 l0 l1 l2 l3 l4).1 w = some (v, w')) : WM G X 866 [(0, .ref l0), (1, .int l1), (2, .int l2), (3, .int l3), (4, .int l4)] [] w.1 w.2.1 w.2.2 := by
  unfold DX12_passes_b866 at h
  refine w_iload 4 866 hX rfl dX12_passes_866 ?_
  refine w_aload_n 0 868 hX rfl rfl dX12_passes_868 ?_
  obtain ⟨x1, gx1, h⟩ := d_rd h
  refine x_getI 869 hX CI_12 gx1 rfl fl_X12_50 rfl dX12_passes_869 ?_
  refine w_icmp_ge (tgt := 929) 872 hX dX12_passes_872 (by decide) (fun c2 => ?_) (fun c2 => ?_)
  · have h := dit h c2
    exact w_sub [0, 1, 2, 3] rfl (bDX12_passes_929 hX hR hk833 l0 l1 l2 l3 _ h)
  · have h := die h c2
    refine w_aload_n 0 875 hX rfl rfl dX12_passes_875 ?_
    obtain ⟨x3, gx3, h⟩ := d_rd h
    refine x_getR 876 hX CI_12 gx3 rfl fl_X12_23 rfl dX12_passes_876 ?_
    refine w_iload_n 3 879 hX rfl rfl dX12_passes_879 ?_
    obtain ⟨x4, gx4, h⟩ := d_rd h
    refine x_iald 880 hX gx4 dX12_passes_880 ?_
    refine w_iload 4 881 hX rfl dX12_passes_881 ?_
    refine w_ishr 883 hX dX12_passes_883 ?_
    refine w_iconst 1 884 hX ic_1 dX12_passes_884 ?_
    refine w_iand 885 hX dX12_passes_885 ?_
    refine w_iconst 1 886 hX ic_1 dX12_passes_886 ?_
    refine w_icmp_ne (tgt := 923) 887 hX dX12_passes_887 (by decide) (fun c5 => ?_) (fun c5 => ?_)
    · have h := die h c5
      exact bDX12_passes_923 hX hR hk866 l0 l1 l2 l3 l4 _ h
    · have h := dit h c5
      refine w_aload_n 0 890 hX rfl rfl dX12_passes_890 ?_
      obtain ⟨x6, gx6, h⟩ := d_rd h
      refine x_getR 891 hX CI_12 gx6 rfl fl_X12_30 rfl dX12_passes_891 ?_
      refine w_iload 4 894 hX rfl dX12_passes_894 ?_
      obtain ⟨x7, gx7, h⟩ := d_rd h
      refine x_aald 896 hX gx7 dX12_passes_896 ?_
      refine w_bipush 6 897 hX ib_6 dX12_passes_897 ?_
      obtain ⟨x8, gx8, h⟩ := d_rd h
      refine x_iald 899 hX gx8 dX12_passes_899 ?_
      refine w_if_ne (tgt := 923) 900 hX dX12_passes_900 (by decide) (fun c9 => ?_) (fun c9 => ?_)
      · have h := die h c9
        exact bDX12_passes_923 hX hR hk866 l0 l1 l2 l3 l4 _ h
      · have h := dit h c9
        refine w_aload_n 0 903 hX rfl rfl dX12_passes_903 ?_
        obtain ⟨x10, gx10, h⟩ := d_rd h
        refine x_getR 904 hX CI_12 gx10 rfl fl_X12_30 rfl dX12_passes_904 ?_
        refine w_iload 4 907 hX rfl dX12_passes_907 ?_
        obtain ⟨x11, gx11, h⟩ := d_rd h
        refine x_aald 909 hX gx11 dX12_passes_909 ?_
        refine w_iconst 4 910 hX ic_4 dX12_passes_910 ?_
        refine w_dup2 911 hX rfl rfl dX12_passes_911 ?_
        obtain ⟨x12, gx12, h⟩ := d_rd h
        refine x_iald 912 hX gx12 dX12_passes_912 ?_
        refine w_aload_n 0 913 hX rfl rfl dX12_passes_913 ?_
        obtain ⟨x13, gx13, h⟩ := d_rd h
        refine x_getR 914 hX CI_12 gx13 rfl fl_X12_30 rfl dX12_passes_914 ?_
        refine w_iload_n 3 917 hX rfl rfl dX12_passes_917 ?_
        obtain ⟨x14, gx14, h⟩ := d_rd h
        refine x_aald 918 hX gx14 dX12_passes_918 ?_
        refine w_iconst 4 919 hX ic_4 dX12_passes_919 ?_
        obtain ⟨x15, gx15, h⟩ := d_rd h
        refine x_iald 920 hX gx15 dX12_passes_920 ?_
        refine w_ior 921 hX dX12_passes_921 ?_
        obtain ⟨x16, wx16, gx16, h⟩ := d_bind h
        refine x_iast 922 hX gx16 dX12_passes_922 ?_
        exact bDX12_passes_923 hX hR hk866 l0 l1 l2 l3 l4 _ h
noncomputable def DX12_passes_L866 (k833 : Nat → Int32 → Int32 → Int32 → Dm Unit) : Nat → Nat → Int32 → Int32 → Int32 → Int32 → Dm Unit
  | 0, _, _, _, _, _ => dno
  | n + 1, l0, l1, l2, l3, l4 => DX12_passes_b866 k833 (DX12_passes_L866 k833 n) l0 l1 l2 l3 l4
theorem lDX12_passes_866 {G : Gt} {X : Xt} {w' : Wd} {v : Unit} (hX : CxOk G X cX12_passes 9 RX12 (none, w'.1, w'.2.1, w'.2.2) 5) (hR : CxRet G X none (none, w'.1, w'.2.1, w'.2.2)) {k833 : Nat → Int32 → Int32 → Int32 → Dm Unit} (hk833 : ∀ (l0 : Nat) (l1 : Int32) (l2 : Int32) (l3 : Int32) (w : Wd), (k833 l0 l1 l2 l3).1 w = some (v, w') → WM G X 833 [(0, .ref l0), (1, .int l1), (2, .int l2), (3, .int l3)] [] w.1 w.2.1 w.2.2) : ∀ (n : Nat) (l0 : Nat) (l1 : Int32) (l2 : Int32) (l3 : Int32) (l4 : Int32) (w : Wd), (DX12_passes_L866 k833 n l0 l1 l2 l3 l4).1 w = some (v, w') → WM G X 866 [(0, .ref l0), (1, .int l1), (2, .int l2), (3, .int l3), (4, .int l4)] [] w.1 w.2.1 w.2.2 := by
  intro n
  induction n with
  | zero =>
    intro l0 l1 l2 l3 l4 w h
    exact dn_ h
  | succ n ih =>
    intro l0 l1 l2 l3 l4 w h
    exact bDX12_passes_866 hX hR hk833 ih l0 l1 l2 l3 l4 w h
noncomputable def DX12_passes_b833 (k833 : Nat → Int32 → Int32 → Int32 → Dm Unit) (l0 : Nat) (l1 : Int32) (l2 : Int32) (l3 : Int32) : Dm Unit :=
  dbind (dread (gfI l0 12 6)) fun x1 => (if x1 ≤ l3 then (DX12_passes_b935 l0 l1 l2) else (dbind (dread (gfI l0 12 1)) fun x3 => dbind (dlift (rmI x3 7)) fun x4 => (if x4 = 0 then (dbind (dread (gfR l0 12 16)) fun x6 => dbind (dread (aald x6 l3)) fun x7 => dbind (dread (iald x7 6)) fun x8 => (if x8 = 0 then (DX12_passes_L866 k833 FU l0 l1 l2 l3 0) else (DX12_passes_b929 k833 l0 l1 l2 l3))) else (DX12_passes_b935 l0 l1 l2))))
theorem bDX12_passes_833 {G : Gt} {X : Xt} {w' : Wd} {v : Unit} (hX : CxOk G X cX12_passes 9 RX12 (none, w'.1, w'.2.1, w'.2.2) 5) (hR : CxRet G X none (none, w'.1, w'.2.1, w'.2.2)) {k833 : Nat → Int32 → Int32 → Int32 → Dm Unit} (hk833 : ∀ (l0 : Nat) (l1 : Int32) (l2 : Int32) (l3 : Int32) (w : Wd), (k833 l0 l1 l2 l3).1 w = some (v, w') → WM G X 833 [(0, .ref l0), (1, .int l1), (2, .int l2), (3, .int l3)] [] w.1 w.2.1 w.2.2) (l0 : Nat) (l1 : Int32) (l2 : Int32) (l3 : Int32) (w : Wd) (h : (DX12_passes_b833 k833 l0 l1 l2 l3).1 w = some (v, w')) : WM G X 833 [(0, .ref l0), (1, .int l1), (2, .int l2), (3, .int l3)] [] w.1 w.2.1 w.2.2 := by
  unfold DX12_passes_b833 at h
  refine w_iload_n 3 833 hX rfl rfl dX12_passes_833 ?_
  refine w_aload_n 0 834 hX rfl rfl dX12_passes_834 ?_
  obtain ⟨x1, gx1, h⟩ := d_rd h
  refine x_getI 835 hX CI_12 gx1 rfl fl_X12_50 rfl dX12_passes_835 ?_
  refine w_icmp_ge (tgt := 935) 838 hX dX12_passes_838 (by decide) (fun c2 => ?_) (fun c2 => ?_)
  · have h := dit h c2
    exact w_sub [0, 1, 2] rfl (bDX12_passes_935 hX hR l0 l1 l2 _ h)
  · have h := die h c2
    refine w_aload_n 0 841 hX rfl rfl dX12_passes_841 ?_
    obtain ⟨x3, gx3, h⟩ := d_rd h
    refine x_getI 842 hX CI_12 gx3 rfl fl_X12_44 rfl dX12_passes_842 ?_
    refine w_bipush 7 845 hX ib_7 dX12_passes_845 ?_
    obtain ⟨x4, gx4, h⟩ := d_lf h
    obtain ⟨qx4, jx4⟩ := rmI_ok gx4
    refine w_irem 847 hX qx4 dX12_passes_847 ?_
    rw [jx4]
    refine w_if_ne (tgt := 935) 848 hX dX12_passes_848 (by decide) (fun c5 => ?_) (fun c5 => ?_)
    · have h := die h c5
      exact w_sub [0, 1, 2] rfl (bDX12_passes_935 hX hR l0 l1 l2 _ h)
    · have h := dit h c5
      refine w_aload_n 0 851 hX rfl rfl dX12_passes_851 ?_
      obtain ⟨x6, gx6, h⟩ := d_rd h
      refine x_getR 852 hX CI_12 gx6 rfl fl_X12_30 rfl dX12_passes_852 ?_
      refine w_iload_n 3 855 hX rfl rfl dX12_passes_855 ?_
      obtain ⟨x7, gx7, h⟩ := d_rd h
      refine x_aald 856 hX gx7 dX12_passes_856 ?_
      refine w_bipush 6 857 hX ib_6 dX12_passes_857 ?_
      obtain ⟨x8, gx8, h⟩ := d_rd h
      refine x_iald 859 hX gx8 dX12_passes_859 ?_
      refine w_if_ne (tgt := 929) 860 hX dX12_passes_860 (by decide) (fun c9 => ?_) (fun c9 => ?_)
      · have h := die h c9
        exact bDX12_passes_929 hX hR hk833 l0 l1 l2 l3 _ h
      · have h := dit h c9
        refine w_iconst 0 863 hX ic_0 dX12_passes_863 ?_
        refine w_istore (lv' := [(4, .int 0), (0, .ref l0), (1, .int l1), (2, .int l2), (3, .int l3)]) 864 hX dX12_passes_864 (by decide) rfl ?_
        exact w_sub [1, 2, 3, 4, 0] rfl (lDX12_passes_866 hX hR hk833 FU l0 l1 l2 l3 0 _ h)
noncomputable def DX12_passes_L833 : Nat → Nat → Int32 → Int32 → Int32 → Dm Unit
  | 0, _, _, _, _ => dno
  | n + 1, l0, l1, l2, l3 => DX12_passes_b833 (DX12_passes_L833 n) l0 l1 l2 l3
theorem lDX12_passes_833 {G : Gt} {X : Xt} {w' : Wd} {v : Unit} (hX : CxOk G X cX12_passes 9 RX12 (none, w'.1, w'.2.1, w'.2.2) 5) (hR : CxRet G X none (none, w'.1, w'.2.1, w'.2.2)) : ∀ (n : Nat) (l0 : Nat) (l1 : Int32) (l2 : Int32) (l3 : Int32) (w : Wd), (DX12_passes_L833 n l0 l1 l2 l3).1 w = some (v, w') → WM G X 833 [(0, .ref l0), (1, .int l1), (2, .int l2), (3, .int l3)] [] w.1 w.2.1 w.2.2 := by
  intro n
  induction n with
  | zero =>
    intro l0 l1 l2 l3 w h
    exact dn_ h
  | succ n ih =>
    intro l0 l1 l2 l3 w h
    exact bDX12_passes_833 hX hR ih l0 l1 l2 l3 w h
noncomputable def DX12_passes_b831 (l0 : Nat) (l1 : Int32) (l2 : Int32) : Dm Unit :=
  DX12_passes_L833 FU l0 l1 l2 0
theorem bDX12_passes_831 {G : Gt} {X : Xt} {w' : Wd} {v : Unit} (hX : CxOk G X cX12_passes 9 RX12 (none, w'.1, w'.2.1, w'.2.2) 5) (hR : CxRet G X none (none, w'.1, w'.2.1, w'.2.2)) (l0 : Nat) (l1 : Int32) (l2 : Int32) (w : Wd) (h : (DX12_passes_b831 l0 l1 l2).1 w = some (v, w')) : WM G X 831 [(0, .ref l0), (1, .int l1), (2, .int l2)] [] w.1 w.2.1 w.2.2 := by
  unfold DX12_passes_b831 at h
  refine w_iconst 0 831 hX ic_0 dX12_passes_831 ?_
  refine w_istore_n (lv' := [(3, .int 0), (0, .ref l0), (1, .int l1), (2, .int l2)]) 832 hX rfl dX12_passes_832 (by decide) rfl ?_
  exact w_sub [1, 2, 3, 0] rfl (lDX12_passes_833 hX hR FU l0 l1 l2 0 _ h)
noncomputable def DX12_passes_b826 (l0 : Nat) (l1 : Int32) (l2 : Int32) : Dm Unit :=
  dbind (dput (pfI l0 12 2 0)) fun _ => DX12_passes_b831 l0 l1 l2
theorem bDX12_passes_826 {G : Gt} {X : Xt} {w' : Wd} {v : Unit} (hX : CxOk G X cX12_passes 9 RX12 (none, w'.1, w'.2.1, w'.2.2) 5) (hR : CxRet G X none (none, w'.1, w'.2.1, w'.2.2)) (l0 : Nat) (l1 : Int32) (l2 : Int32) (w : Wd) (h : (DX12_passes_b826 l0 l1 l2).1 w = some (v, w')) : WM G X 826 [(0, .ref l0), (1, .int l1), (2, .int l2)] [] w.1 w.2.1 w.2.2 := by
  unfold DX12_passes_b826 at h
  refine w_aload_n 0 826 hX rfl rfl dX12_passes_826 ?_
  refine w_iconst 0 827 hX ic_0 dX12_passes_827 ?_
  obtain ⟨x1, wx1, gx1, h⟩ := d_bind h
  refine x_putI 828 hX CI_12 gx1 rfl fl_X12_7 rfl rfl rfl rfl dX12_passes_828 ?_
  exact bDX12_passes_831 hX hR l0 l1 l2 _ h
noncomputable def DX12_passes_b808 (l0 : Nat) (l1 : Int32) (l2 : Int32) : Dm Unit :=
  dbind (dread (isC l0 12)) fun x1 => dbind (DX12_stands l0 1 0) fun x2 => (if x2 = 0 then (DX12_passes_b831 l0 l1 l2) else (dbind (dread (isC l0 12)) fun x4 => dbind (DX12_stands l0 0 0) fun x5 => (if x5 = 0 then (DX12_passes_b826 l0 l1 l2) else (DX12_passes_b831 l0 l1 l2))))
theorem bDX12_passes_808 {G : Gt} {X : Xt} {w' : Wd} {v : Unit} (hX : CxOk G X cX12_passes 9 RX12 (none, w'.1, w'.2.1, w'.2.2) 5) (hR : CxRet G X none (none, w'.1, w'.2.1, w'.2.2)) (l0 : Nat) (l1 : Int32) (l2 : Int32) (w : Wd) (h : (DX12_passes_b808 l0 l1 l2).1 w = some (v, w')) : WM G X 808 [(0, .ref l0), (1, .int l1), (2, .int l2)] [] w.1 w.2.1 w.2.2 := by
  unfold DX12_passes_b808 at h
  refine w_aload_n 0 808 hX rfl rfl dX12_passes_808 ?_
  refine w_iconst 1 809 hX ic_1 dX12_passes_809 ?_
  refine w_iconst 0 810 hX ic_0 dX12_passes_810 ?_
  obtain ⟨x1, gx1, h⟩ := d_rd h
  obtain ⟨x2, wx2, gx2, h⟩ := d_bind h
  refine w_invVi (av := [.int 1, .int 0]) (st := []) 811 hX CI_12 (isC_ok gx1) rfl mv_yX12_stands mi_yX12_stands ml_X12_116 (CDX12_stands l0 1 0 gx2) rfl (by decide) (Nat.le_of_ble_eq_true rfl) (d_le h).1 (d_le h).2 dX12_passes_811 ?_
  refine w_if_eq (tgt := 831) 814 hX dX12_passes_814 (by decide) (fun c3 => ?_) (fun c3 => ?_)
  · have h := dit h c3
    exact bDX12_passes_831 hX hR l0 l1 l2 _ h
  · have h := die h c3
    refine w_aload_n 0 817 hX rfl rfl dX12_passes_817 ?_
    refine w_iconst 0 818 hX ic_0 dX12_passes_818 ?_
    refine w_iconst 0 819 hX ic_0 dX12_passes_819 ?_
    obtain ⟨x4, gx4, h⟩ := d_rd h
    obtain ⟨x5, wx5, gx5, h⟩ := d_bind h
    refine w_invVi (av := [.int 0, .int 0]) (st := []) 820 hX CI_12 (isC_ok gx4) rfl mv_yX12_stands mi_yX12_stands ml_X12_116 (CDX12_stands l0 0 0 gx5) rfl (by decide) (Nat.le_of_ble_eq_true rfl) (d_le h).1 (d_le h).2 dX12_passes_820 ?_
    refine w_if_ne (tgt := 831) 823 hX dX12_passes_823 (by decide) (fun c6 => ?_) (fun c6 => ?_)
    · have h := die h c6
      exact bDX12_passes_831 hX hR l0 l1 l2 _ h
    · have h := dit h c6
      exact bDX12_passes_826 hX hR l0 l1 l2 _ h
noncomputable def DX12_passes_b784 (l0 : Nat) (l1 : Int32) (l2 : Int32) : Dm Unit :=
  (if l2 = 0 then (DX12_passes_b831 l0 l1 l2) else (dbind (dread (isC l0 12)) fun x2 => dbind (DX12_stands l0 0 15) fun x3 => (if x3 = 0 then (DX12_passes_b808 l0 l1 l2) else (dbind (dread (isC l0 12)) fun x5 => dbind (DX12_stands l0 1 15) fun x6 => (if x6 = 0 then (DX12_passes_b826 l0 l1 l2) else (DX12_passes_b808 l0 l1 l2))))))
theorem bDX12_passes_784 {G : Gt} {X : Xt} {w' : Wd} {v : Unit} (hX : CxOk G X cX12_passes 9 RX12 (none, w'.1, w'.2.1, w'.2.2) 5) (hR : CxRet G X none (none, w'.1, w'.2.1, w'.2.2)) (l0 : Nat) (l1 : Int32) (l2 : Int32) (w : Wd) (h : (DX12_passes_b784 l0 l1 l2).1 w = some (v, w')) : WM G X 784 [(0, .ref l0), (1, .int l1), (2, .int l2)] [] w.1 w.2.1 w.2.2 := by
  unfold DX12_passes_b784 at h
  refine w_iload_n 2 784 hX rfl rfl dX12_passes_784 ?_
  refine w_if_eq (tgt := 831) 785 hX dX12_passes_785 (by decide) (fun c1 => ?_) (fun c1 => ?_)
  · have h := dit h c1
    exact bDX12_passes_831 hX hR l0 l1 l2 _ h
  · have h := die h c1
    refine w_aload_n 0 788 hX rfl rfl dX12_passes_788 ?_
    refine w_iconst 0 789 hX ic_0 dX12_passes_789 ?_
    refine w_bipush 15 790 hX ib_15 dX12_passes_790 ?_
    obtain ⟨x2, gx2, h⟩ := d_rd h
    obtain ⟨x3, wx3, gx3, h⟩ := d_bind h
    refine w_invVi (av := [.int 0, .int 15]) (st := []) 792 hX CI_12 (isC_ok gx2) rfl mv_yX12_stands mi_yX12_stands ml_X12_116 (CDX12_stands l0 0 15 gx3) rfl (by decide) (Nat.le_of_ble_eq_true rfl) (d_le h).1 (d_le h).2 dX12_passes_792 ?_
    refine w_if_eq (tgt := 808) 795 hX dX12_passes_795 (by decide) (fun c4 => ?_) (fun c4 => ?_)
    · have h := dit h c4
      exact bDX12_passes_808 hX hR l0 l1 l2 _ h
    · have h := die h c4
      refine w_aload_n 0 798 hX rfl rfl dX12_passes_798 ?_
      refine w_iconst 1 799 hX ic_1 dX12_passes_799 ?_
      refine w_bipush 15 800 hX ib_15 dX12_passes_800 ?_
      obtain ⟨x5, gx5, h⟩ := d_rd h
      obtain ⟨x6, wx6, gx6, h⟩ := d_bind h
      refine w_invVi (av := [.int 1, .int 15]) (st := []) 802 hX CI_12 (isC_ok gx5) rfl mv_yX12_stands mi_yX12_stands ml_X12_116 (CDX12_stands l0 1 15 gx6) rfl (by decide) (Nat.le_of_ble_eq_true rfl) (d_le h).1 (d_le h).2 dX12_passes_802 ?_
      refine w_if_eq (tgt := 826) 805 hX dX12_passes_805 (by decide) (fun c7 => ?_) (fun c7 => ?_)
      · have h := dit h c7
        exact bDX12_passes_826 hX hR l0 l1 l2 _ h
      · have h := die h c7
        exact bDX12_passes_808 hX hR l0 l1 l2 _ h
noncomputable def DX12_passes_b778 (k393 : Nat → Int32 → Int32 → Int32 → Dm Unit) (l0 : Nat) (l1 : Int32) (l2 : Int32) (l3 : Int32) : Dm Unit :=
  k393 l0 l1 l2 (l3 + 1)
theorem bDX12_passes_778 {G : Gt} {X : Xt} {w' : Wd} {v : Unit} (hX : CxOk G X cX12_passes 9 RX12 (none, w'.1, w'.2.1, w'.2.2) 5) (hR : CxRet G X none (none, w'.1, w'.2.1, w'.2.2)) {k393 : Nat → Int32 → Int32 → Int32 → Dm Unit} (hk393 : ∀ (l0 : Nat) (l1 : Int32) (l2 : Int32) (l3 : Int32) (w : Wd), (k393 l0 l1 l2 l3).1 w = some (v, w') → WM G X 393 [(0, .ref l0), (1, .int l1), (2, .int l2), (3, .int l3)] [] w.1 w.2.1 w.2.2) (l0 : Nat) (l1 : Int32) (l2 : Int32) (l3 : Int32) (w : Wd) (h : (DX12_passes_b778 k393 l0 l1 l2 l3).1 w = some (v, w')) : WM G X 778 [(0, .ref l0), (1, .int l1), (2, .int l2), (3, .int l3)] [] w.1 w.2.1 w.2.2 := by
  unfold DX12_passes_b778 at h
  refine w_iinc (lv' := [(3, .int (l3 + 1)), (0, .ref l0), (1, .int l1), (2, .int l2)]) 778 3 hX dX12_passes_778 rfl (inc_1 _) (by decide) rfl ?_
  refine w_goto (tgt := 393) 781 hX (by decide) dX12_passes_781 ?_
  exact w_sub [1, 2, 3, 0] rfl (hk393 l0 l1 l2 (l3 + 1) _ h)
noncomputable def DX12_passes_b772 (k642 : Nat → Int32 → Int32 → Int32 → Int32 → Int32 → Int32 → Dm Unit) (l0 : Nat) (l1 : Int32) (l2 : Int32) (l3 : Int32) (l5 : Int32) (l6 : Int32) (l7 : Int32) : Dm Unit :=
  k642 l0 l1 l2 l3 l5 l6 (l7 + 1)
theorem bDX12_passes_772 {G : Gt} {X : Xt} {w' : Wd} {v : Unit} (hX : CxOk G X cX12_passes 9 RX12 (none, w'.1, w'.2.1, w'.2.2) 5) (hR : CxRet G X none (none, w'.1, w'.2.1, w'.2.2)) {k642 : Nat → Int32 → Int32 → Int32 → Int32 → Int32 → Int32 → Dm Unit} (hk642 : ∀ (l0 : Nat) (l1 : Int32) (l2 : Int32) (l3 : Int32) (l5 : Int32) (l6 : Int32) (l7 : Int32) (w : Wd), (k642 l0 l1 l2 l3 l5 l6 l7).1 w = some (v, w') → WM G X 642 [(0, .ref l0), (1, .int l1), (2, .int l2), (3, .int l3), (5, .int l5), (6, .int l6), (7, .int l7)] [] w.1 w.2.1 w.2.2) (l0 : Nat) (l1 : Int32) (l2 : Int32) (l3 : Int32) (l5 : Int32) (l6 : Int32) (l7 : Int32) (w : Wd) (h : (DX12_passes_b772 k642 l0 l1 l2 l3 l5 l6 l7).1 w = some (v, w')) : WM G X 772 [(0, .ref l0), (1, .int l1), (2, .int l2), (3, .int l3), (5, .int l5), (6, .int l6), (7, .int l7)] [] w.1 w.2.1 w.2.2 := by
  unfold DX12_passes_b772 at h
  refine w_iinc (lv' := [(7, .int (l7 + 1)), (0, .ref l0), (1, .int l1), (2, .int l2), (3, .int l3), (5, .int l5), (6, .int l6)]) 772 6 hX dX12_passes_772 rfl (inc_1 _) (by decide) rfl ?_
  refine w_goto (tgt := 642) 775 hX (by decide) dX12_passes_775 ?_
  exact w_sub [1, 2, 3, 4, 5, 6, 0] rfl (hk642 l0 l1 l2 l3 l5 l6 (l7 + 1) _ h)
noncomputable def DX12_passes_b642 (k393 : Nat → Int32 → Int32 → Int32 → Dm Unit) (k642 : Nat → Int32 → Int32 → Int32 → Int32 → Int32 → Int32 → Dm Unit) (l0 : Nat) (l1 : Int32) (l2 : Int32) (l3 : Int32) (l5 : Int32) (l6 : Int32) (l7 : Int32) : Dm Unit :=
  dbind (dread (gfI l0 12 6)) fun x1 => (if x1 ≤ l7 then (DX12_passes_b778 k393 l0 l1 l2 l3) else (dbind (dread (gfR l0 12 16)) fun x3 => dbind (dread (aald x3 l7)) fun x4 => dbind (dread (iald x4 6)) fun x5 => (if x5 = 1 then (dbind (dread (iald x4 7)) fun x7 => (if x7 = l3 then ((if 0 ≤ l5 then (dbind (dread (iald x4 0)) fun x10 => (if x10 = l5 then ((if l7 = l6 then (dbind (dput (iast x4 6 2)) fun _ => dbind (dread (gfI l0 12 1)) fun x20 => dbind (dput (iast x4 8 x20)) fun _ => DX12_passes_b772 k642 l0 l1 l2 l3 l5 l6 l7) else (dbind (dput (iast x4 6 0)) fun _ => dbind (dread (iald x4 3)) fun x14 => dbind (dlift (dvI x14 2)) fun x15 => dbind (dput (iast x4 3 x15)) fun _ => dbind (dread (isC l0 12)) fun x17 => dbind (DX12_notes l0 2 l7 l3 l1) fun _ => DX12_passes_b772 k642 l0 l1 l2 l3 l5 l6 l7))) else (dbind (dread (iald x4 3)) fun x22 => dbind (dput (iast x4 3 (if 0 < (x22 - 10) then (x22 - 10) else 0))) fun _ => DX12_passes_b772 k642 l0 l1 l2 l3 l5 l6 l7))) else (dbind (dread (iald x4 3)) fun x24 => dbind (dlift (dvI x24 2)) fun x25 => dbind (dput (iast x4 3 x25)) fun _ => DX12_passes_b772 k642 l0 l1 l2 l3 l5 l6 l7))) else (DX12_passes_b772 k642 l0 l1 l2 l3 l5 l6 l7))) else (DX12_passes_b772 k642 l0 l1 l2 l3 l5 l6 l7))))
theorem bDX12_passes_642 {G : Gt} {X : Xt} {w' : Wd} {v : Unit} (hX : CxOk G X cX12_passes 9 RX12 (none, w'.1, w'.2.1, w'.2.2) 5) (hR : CxRet G X none (none, w'.1, w'.2.1, w'.2.2)) {k393 : Nat → Int32 → Int32 → Int32 → Dm Unit} (hk393 : ∀ (l0 : Nat) (l1 : Int32) (l2 : Int32) (l3 : Int32) (w : Wd), (k393 l0 l1 l2 l3).1 w = some (v, w') → WM G X 393 [(0, .ref l0), (1, .int l1), (2, .int l2), (3, .int l3)] [] w.1 w.2.1 w.2.2) {k642 : Nat → Int32 → Int32 → Int32 → Int32 → Int32 → Int32 → Dm Unit} (hk642 : ∀ (l0 : Nat) (l1 : Int32) (l2 : Int32) (l3 : Int32) (l5 : Int32) (l6 : Int32) (l7 : Int32) (w : Wd), (k642 l0 l1 l2 l3 l5 l6 l7).1 w = some (v, w') → WM G X 642 [(0, .ref l0), (1, .int l1), (2, .int l2), (3, .int l3), (5, .int l5), (6, .int l6), (7, .int l7)] [] w.1 w.2.1 w.2.2) (l0 : Nat) (l1 : Int32) (l2 : Int32) (l3 : Int32) (l5 : Int32) (l6 : Int32) (l7 : Int32) (w : Wd) (h : (DX12_passes_b642 k393 k642 l0 l1 l2 l3 l5 l6 l7).1 w = some (v, w')) : WM G X 642 [(0, .ref l0), (1, .int l1), (2, .int l2), (3, .int l3), (5, .int l5), (6, .int l6), (7, .int l7)] [] w.1 w.2.1 w.2.2 := by
  unfold DX12_passes_b642 at h
  refine w_iload 6 642 hX rfl dX12_passes_642 ?_
  refine w_aload_n 0 644 hX rfl rfl dX12_passes_644 ?_
  obtain ⟨x1, gx1, h⟩ := d_rd h
  refine x_getI 645 hX CI_12 gx1 rfl fl_X12_50 rfl dX12_passes_645 ?_
  refine w_icmp_ge (tgt := 778) 648 hX dX12_passes_648 (by decide) (fun c2 => ?_) (fun c2 => ?_)
  · have h := dit h c2
    exact w_sub [0, 1, 2, 3] rfl (bDX12_passes_778 hX hR hk393 l0 l1 l2 l3 _ h)
  · have h := die h c2
    refine w_aload_n 0 651 hX rfl rfl dX12_passes_651 ?_
    obtain ⟨x3, gx3, h⟩ := d_rd h
    refine x_getR 652 hX CI_12 gx3 rfl fl_X12_30 rfl dX12_passes_652 ?_
    refine w_iload 6 655 hX rfl dX12_passes_655 ?_
    obtain ⟨x4, gx4, h⟩ := d_rd h
    refine x_aald 657 hX gx4 dX12_passes_657 ?_
    refine w_astore (lv' := [(8, .ref x4), (0, .ref l0), (1, .int l1), (2, .int l2), (3, .int l3), (5, .int l5), (6, .int l6), (7, .int l7)]) 658 hX dX12_passes_658 (by decide) rfl ?_
    refine w_aload 0 660 hX rfl dX12_passes_660 ?_
    refine w_bipush 6 662 hX ib_6 dX12_passes_662 ?_
    obtain ⟨x5, gx5, h⟩ := d_rd h
    refine x_iald 664 hX gx5 dX12_passes_664 ?_
    refine w_iconst 1 665 hX ic_1 dX12_passes_665 ?_
    refine w_icmp_ne (tgt := 772) 666 hX dX12_passes_666 (by decide) (fun c6 => ?_) (fun c6 => ?_)
    · have h := die h c6
      exact w_sub [1, 2, 3, 4, 5, 6, 7] rfl (bDX12_passes_772 hX hR hk642 l0 l1 l2 l3 l5 l6 l7 _ h)
    · have h := dit h c6
      refine w_aload 0 669 hX rfl dX12_passes_669 ?_
      refine w_bipush 7 671 hX ib_7 dX12_passes_671 ?_
      obtain ⟨x7, gx7, h⟩ := d_rd h
      refine x_iald 673 hX gx7 dX12_passes_673 ?_
      refine w_iload_n 4 674 hX rfl rfl dX12_passes_674 ?_
      refine w_icmp_eq (tgt := 681) 675 hX dX12_passes_675 (by decide) (fun c8 => ?_) (fun c8 => ?_)
      · have h := dit h c8
        refine w_iload 5 681 hX rfl dX12_passes_681 ?_
        refine w_if_ge (tgt := 697) 683 hX dX12_passes_683 (by decide) (fun c9 => ?_) (fun c9 => ?_)
        · have h := dit h c9
          refine w_aload 0 697 hX rfl dX12_passes_697 ?_
          refine w_iconst 0 699 hX ic_0 dX12_passes_699 ?_
          obtain ⟨x10, gx10, h⟩ := d_rd h
          refine x_iald 700 hX gx10 dX12_passes_700 ?_
          refine w_iload 5 701 hX rfl dX12_passes_701 ?_
          refine w_icmp_eq (tgt := 724) 703 hX dX12_passes_703 (by decide) (fun c11 => ?_) (fun c11 => ?_)
          · have h := dit h c11
            refine w_iload 7 724 hX rfl dX12_passes_724 ?_
            refine w_iload 6 726 hX rfl dX12_passes_726 ?_
            refine w_icmp_ne (tgt := 749) 728 hX dX12_passes_728 (by decide) (fun c12 => ?_) (fun c12 => ?_)
            · have h := die h c12
              refine w_aload 0 749 hX rfl dX12_passes_749 ?_
              refine w_bipush 6 751 hX ib_6 dX12_passes_751 ?_
              refine w_iconst 0 753 hX ic_0 dX12_passes_753 ?_
              obtain ⟨x13, wx13, gx13, h⟩ := d_bind h
              refine x_iast 754 hX gx13 dX12_passes_754 ?_
              refine w_aload 0 755 hX rfl dX12_passes_755 ?_
              refine w_iconst 3 757 hX ic_3 dX12_passes_757 ?_
              refine w_dup2 758 hX rfl rfl dX12_passes_758 ?_
              obtain ⟨x14, gx14, h⟩ := d_rd h
              refine x_iald 759 hX gx14 dX12_passes_759 ?_
              refine w_iconst 2 760 hX ic_2 dX12_passes_760 ?_
              obtain ⟨x15, gx15, h⟩ := d_lf h
              obtain ⟨qx15, jx15⟩ := dvI_ok gx15
              refine w_idiv 761 hX qx15 dX12_passes_761 ?_
              rw [jx15]
              obtain ⟨x16, wx16, gx16, h⟩ := d_bind h
              refine x_iast 762 hX gx16 dX12_passes_762 ?_
              refine w_aload_n 1 763 hX rfl rfl dX12_passes_763 ?_
              refine w_iconst 2 764 hX ic_2 dX12_passes_764 ?_
              refine w_iload 7 765 hX rfl dX12_passes_765 ?_
              refine w_iload_n 4 767 hX rfl rfl dX12_passes_767 ?_
              refine w_iload_n 2 768 hX rfl rfl dX12_passes_768 ?_
              obtain ⟨x17, gx17, h⟩ := d_rd h
              obtain ⟨x18, wx18, gx18, h⟩ := d_bind h
              refine w_invVv (av := [.int 2, .int l7, .int l3, .int l1]) (st := []) 769 hX CI_12 (isC_ok gx17) rfl mv_yX12_notes mi_yX12_notes ml_X12_103 (CDX12_notes l0 2 l7 l3 l1 gx18) rfl (by decide) (Nat.le_of_ble_eq_true rfl) (d_le h).1 (d_le h).2 dX12_passes_769 ?_
              exact w_sub [1, 2, 3, 4, 5, 6, 7] rfl (bDX12_passes_772 hX hR hk642 l0 l1 l2 l3 l5 l6 l7 _ h)
            · have h := dit h c12
              refine w_aload 0 731 hX rfl dX12_passes_731 ?_
              refine w_bipush 6 733 hX ib_6 dX12_passes_733 ?_
              refine w_iconst 2 735 hX ic_2 dX12_passes_735 ?_
              obtain ⟨x19, wx19, gx19, h⟩ := d_bind h
              refine x_iast 736 hX gx19 dX12_passes_736 ?_
              refine w_aload 0 737 hX rfl dX12_passes_737 ?_
              refine w_bipush 8 739 hX ib_8 dX12_passes_739 ?_
              refine w_aload_n 1 741 hX rfl rfl dX12_passes_741 ?_
              obtain ⟨x20, gx20, h⟩ := d_rd h
              refine x_getI 742 hX CI_12 gx20 rfl fl_X12_44 rfl dX12_passes_742 ?_
              obtain ⟨x21, wx21, gx21, h⟩ := d_bind h
              refine x_iast 745 hX gx21 dX12_passes_745 ?_
              refine w_goto (tgt := 772) 746 hX (by decide) dX12_passes_746 ?_
              exact w_sub [1, 2, 3, 4, 5, 6, 7] rfl (bDX12_passes_772 hX hR hk642 l0 l1 l2 l3 l5 l6 l7 _ h)
          · have h := die h c11
            refine w_aload 0 706 hX rfl dX12_passes_706 ?_
            refine w_iconst 3 708 hX ic_3 dX12_passes_708 ?_
            refine w_iconst 0 709 hX ic_0 dX12_passes_709 ?_
            refine w_aload 0 710 hX rfl dX12_passes_710 ?_
            refine w_iconst 3 712 hX ic_3 dX12_passes_712 ?_
            obtain ⟨x22, gx22, h⟩ := d_rd h
            refine x_iald 713 hX gx22 dX12_passes_713 ?_
            refine w_bipush 10 714 hX ib_10 dX12_passes_714 ?_
            refine w_isub 716 hX dX12_passes_716 ?_
            refine w_max 717 hX ml_X12_123 jm_max_s jm_i jm_max_c (by decide) (Nat.le_of_ble_eq_true rfl) (d_le h).1 (d_le h).2 dX12_passes_717 ?_
            obtain ⟨x23, wx23, gx23, h⟩ := d_bind h
            refine x_iast 720 hX gx23 dX12_passes_720 ?_
            refine w_goto (tgt := 772) 721 hX (by decide) dX12_passes_721 ?_
            exact w_sub [1, 2, 3, 4, 5, 6, 7] rfl (bDX12_passes_772 hX hR hk642 l0 l1 l2 l3 l5 l6 l7 _ h)
        · have h := die h c9
          refine w_aload 0 686 hX rfl dX12_passes_686 ?_
          refine w_iconst 3 688 hX ic_3 dX12_passes_688 ?_
          refine w_dup2 689 hX rfl rfl dX12_passes_689 ?_
          obtain ⟨x24, gx24, h⟩ := d_rd h
          refine x_iald 690 hX gx24 dX12_passes_690 ?_
          refine w_iconst 2 691 hX ic_2 dX12_passes_691 ?_
          obtain ⟨x25, gx25, h⟩ := d_lf h
          obtain ⟨qx25, jx25⟩ := dvI_ok gx25
          refine w_idiv 692 hX qx25 dX12_passes_692 ?_
          rw [jx25]
          obtain ⟨x26, wx26, gx26, h⟩ := d_bind h
          refine x_iast 693 hX gx26 dX12_passes_693 ?_
          refine w_goto (tgt := 772) 694 hX (by decide) dX12_passes_694 ?_
          exact w_sub [1, 2, 3, 4, 5, 6, 7] rfl (bDX12_passes_772 hX hR hk642 l0 l1 l2 l3 l5 l6 l7 _ h)
      · have h := die h c8
        refine w_goto (tgt := 772) 678 hX (by decide) dX12_passes_678 ?_
        exact w_sub [1, 2, 3, 4, 5, 6, 7] rfl (bDX12_passes_772 hX hR hk642 l0 l1 l2 l3 l5 l6 l7 _ h)
noncomputable def DX12_passes_L642 (k393 : Nat → Int32 → Int32 → Int32 → Dm Unit) : Nat → Nat → Int32 → Int32 → Int32 → Int32 → Int32 → Int32 → Dm Unit
  | 0, _, _, _, _, _, _, _ => dno
  | n + 1, l0, l1, l2, l3, l5, l6, l7 => DX12_passes_b642 k393 (DX12_passes_L642 k393 n) l0 l1 l2 l3 l5 l6 l7
theorem lDX12_passes_642 {G : Gt} {X : Xt} {w' : Wd} {v : Unit} (hX : CxOk G X cX12_passes 9 RX12 (none, w'.1, w'.2.1, w'.2.2) 5) (hR : CxRet G X none (none, w'.1, w'.2.1, w'.2.2)) {k393 : Nat → Int32 → Int32 → Int32 → Dm Unit} (hk393 : ∀ (l0 : Nat) (l1 : Int32) (l2 : Int32) (l3 : Int32) (w : Wd), (k393 l0 l1 l2 l3).1 w = some (v, w') → WM G X 393 [(0, .ref l0), (1, .int l1), (2, .int l2), (3, .int l3)] [] w.1 w.2.1 w.2.2) : ∀ (n : Nat) (l0 : Nat) (l1 : Int32) (l2 : Int32) (l3 : Int32) (l5 : Int32) (l6 : Int32) (l7 : Int32) (w : Wd), (DX12_passes_L642 k393 n l0 l1 l2 l3 l5 l6 l7).1 w = some (v, w') → WM G X 642 [(0, .ref l0), (1, .int l1), (2, .int l2), (3, .int l3), (5, .int l5), (6, .int l6), (7, .int l7)] [] w.1 w.2.1 w.2.2 := by
  intro n
  induction n with
  | zero =>
    intro l0 l1 l2 l3 l5 l6 l7 w h
    exact dn_ h
  | succ n ih =>
    intro l0 l1 l2 l3 l5 l6 l7 w h
    exact bDX12_passes_642 hX hR hk393 ih l0 l1 l2 l3 l5 l6 l7 w h
noncomputable def DX12_passes_b639 (k393 : Nat → Int32 → Int32 → Int32 → Dm Unit) (l0 : Nat) (l1 : Int32) (l2 : Int32) (l3 : Int32) (l5 : Int32) (l6 : Int32) : Dm Unit :=
  DX12_passes_L642 k393 FU l0 l1 l2 l3 l5 l6 0
theorem bDX12_passes_639 {G : Gt} {X : Xt} {w' : Wd} {v : Unit} (hX : CxOk G X cX12_passes 9 RX12 (none, w'.1, w'.2.1, w'.2.2) 5) (hR : CxRet G X none (none, w'.1, w'.2.1, w'.2.2)) {k393 : Nat → Int32 → Int32 → Int32 → Dm Unit} (hk393 : ∀ (l0 : Nat) (l1 : Int32) (l2 : Int32) (l3 : Int32) (w : Wd), (k393 l0 l1 l2 l3).1 w = some (v, w') → WM G X 393 [(0, .ref l0), (1, .int l1), (2, .int l2), (3, .int l3)] [] w.1 w.2.1 w.2.2) (l0 : Nat) (l1 : Int32) (l2 : Int32) (l3 : Int32) (l5 : Int32) (l6 : Int32) (w : Wd) (h : (DX12_passes_b639 k393 l0 l1 l2 l3 l5 l6).1 w = some (v, w')) : WM G X 639 [(0, .ref l0), (1, .int l1), (2, .int l2), (3, .int l3), (5, .int l5), (6, .int l6)] [] w.1 w.2.1 w.2.2 := by
  unfold DX12_passes_b639 at h
  refine w_iconst 0 639 hX ic_0 dX12_passes_639 ?_
  refine w_istore (lv' := [(7, .int 0), (0, .ref l0), (1, .int l1), (2, .int l2), (3, .int l3), (5, .int l5), (6, .int l6)]) 640 hX dX12_passes_640 (by decide) rfl ?_
  exact w_sub [1, 2, 3, 4, 5, 6, 0] rfl (lDX12_passes_642 hX hR hk393 FU l0 l1 l2 l3 l5 l6 0 _ h)
noncomputable def DX12_passes_b615 (k393 : Nat → Int32 → Int32 → Int32 → Dm Unit) (l0 : Nat) (l1 : Int32) (l2 : Int32) (l3 : Int32) (l5 : Int32) (l6 : Int32) : Dm Unit :=
  (if l6 < 0 then (DX12_passes_b639 k393 l0 l1 l2 l3 l5 l6) else (dbind (dread (isC l0 12)) fun x2 => dbind (DX12_notes l0 1 l6 l3 l1) fun _ => dbind (dread (gfI l0 12 12)) fun x4 => dbind (dput (pfI l0 12 12 (x4 + 1))) fun _ => DX12_passes_b639 k393 l0 l1 l2 l3 l5 l6))
theorem bDX12_passes_615 {G : Gt} {X : Xt} {w' : Wd} {v : Unit} (hX : CxOk G X cX12_passes 9 RX12 (none, w'.1, w'.2.1, w'.2.2) 5) (hR : CxRet G X none (none, w'.1, w'.2.1, w'.2.2)) {k393 : Nat → Int32 → Int32 → Int32 → Dm Unit} (hk393 : ∀ (l0 : Nat) (l1 : Int32) (l2 : Int32) (l3 : Int32) (w : Wd), (k393 l0 l1 l2 l3).1 w = some (v, w') → WM G X 393 [(0, .ref l0), (1, .int l1), (2, .int l2), (3, .int l3)] [] w.1 w.2.1 w.2.2) (l0 : Nat) (l1 : Int32) (l2 : Int32) (l3 : Int32) (l5 : Int32) (l6 : Int32) (w : Wd) (h : (DX12_passes_b615 k393 l0 l1 l2 l3 l5 l6).1 w = some (v, w')) : WM G X 615 [(0, .ref l0), (1, .int l1), (2, .int l2), (3, .int l3), (5, .int l5), (6, .int l6)] [] w.1 w.2.1 w.2.2 := by
  unfold DX12_passes_b615 at h
  refine w_iload 5 615 hX rfl dX12_passes_615 ?_
  refine w_if_lt (tgt := 639) 617 hX dX12_passes_617 (by decide) (fun c1 => ?_) (fun c1 => ?_)
  · have h := dit h c1
    exact bDX12_passes_639 hX hR hk393 l0 l1 l2 l3 l5 l6 _ h
  · have h := die h c1
    refine w_aload_n 0 620 hX rfl rfl dX12_passes_620 ?_
    refine w_iconst 1 621 hX ic_1 dX12_passes_621 ?_
    refine w_iload 5 622 hX rfl dX12_passes_622 ?_
    refine w_iload_n 3 624 hX rfl rfl dX12_passes_624 ?_
    refine w_iload_n 1 625 hX rfl rfl dX12_passes_625 ?_
    obtain ⟨x2, gx2, h⟩ := d_rd h
    obtain ⟨x3, wx3, gx3, h⟩ := d_bind h
    refine w_invVv (av := [.int 1, .int l6, .int l3, .int l1]) (st := []) 626 hX CI_12 (isC_ok gx2) rfl mv_yX12_notes mi_yX12_notes ml_X12_103 (CDX12_notes l0 1 l6 l3 l1 gx3) rfl (by decide) (Nat.le_of_ble_eq_true rfl) (d_le h).1 (d_le h).2 dX12_passes_626 ?_
    refine w_aload_n 0 629 hX rfl rfl dX12_passes_629 ?_
    refine w_dup 630 hX rfl dX12_passes_630 ?_
    obtain ⟨x4, gx4, h⟩ := d_rd h
    refine x_getI 631 hX CI_12 gx4 rfl fl_X12_120 rfl dX12_passes_631 ?_
    refine w_iconst 1 634 hX ic_1 dX12_passes_634 ?_
    refine w_iadd 635 hX dX12_passes_635 ?_
    obtain ⟨x5, wx5, gx5, h⟩ := d_bind h
    refine x_putI 636 hX CI_12 gx5 rfl fl_X12_120 rfl rfl rfl rfl dX12_passes_636 ?_
    exact bDX12_passes_639 hX hR hk393 l0 l1 l2 l3 l5 l6 _ h
noncomputable def DX12_passes_b609 (k543 : Nat → Int32 → Int32 → Int32 → Int32 → Int32 → Int32 → Dm Unit) (l0 : Nat) (l1 : Int32) (l2 : Int32) (l3 : Int32) (l5 : Int32) (l6 : Int32) (l7 : Int32) : Dm Unit :=
  k543 l0 l1 l2 l3 l5 l6 (l7 + (-1))
theorem bDX12_passes_609 {G : Gt} {X : Xt} {w' : Wd} {v : Unit} (hX : CxOk G X cX12_passes 9 RX12 (none, w'.1, w'.2.1, w'.2.2) 5) (hR : CxRet G X none (none, w'.1, w'.2.1, w'.2.2)) {k543 : Nat → Int32 → Int32 → Int32 → Int32 → Int32 → Int32 → Dm Unit} (hk543 : ∀ (l0 : Nat) (l1 : Int32) (l2 : Int32) (l3 : Int32) (l5 : Int32) (l6 : Int32) (l7 : Int32) (w : Wd), (k543 l0 l1 l2 l3 l5 l6 l7).1 w = some (v, w') → WM G X 543 [(0, .ref l0), (1, .int l1), (2, .int l2), (3, .int l3), (5, .int l5), (6, .int l6), (7, .int l7)] [] w.1 w.2.1 w.2.2) (l0 : Nat) (l1 : Int32) (l2 : Int32) (l3 : Int32) (l5 : Int32) (l6 : Int32) (l7 : Int32) (w : Wd) (h : (DX12_passes_b609 k543 l0 l1 l2 l3 l5 l6 l7).1 w = some (v, w')) : WM G X 609 [(0, .ref l0), (1, .int l1), (2, .int l2), (3, .int l3), (5, .int l5), (6, .int l6), (7, .int l7)] [] w.1 w.2.1 w.2.2 := by
  unfold DX12_passes_b609 at h
  refine w_iinc (lv' := [(7, .int (l7 + (-1))), (0, .ref l0), (1, .int l1), (2, .int l2), (3, .int l3), (5, .int l5), (6, .int l6)]) 609 6 hX dX12_passes_609 rfl (inc_m1 _) (by decide) rfl ?_
  refine w_goto (tgt := 543) 612 hX (by decide) dX12_passes_612 ?_
  exact w_sub [1, 2, 3, 4, 5, 6, 0] rfl (hk543 l0 l1 l2 l3 l5 l6 (l7 + (-1)) _ h)
noncomputable def DX12_passes_b605 (k543 : Nat → Int32 → Int32 → Int32 → Int32 → Int32 → Int32 → Dm Unit) (l0 : Nat) (l1 : Int32) (l2 : Int32) (l3 : Int32) (l5 : Int32) (l7 : Int32) : Dm Unit :=
  DX12_passes_b609 k543 l0 l1 l2 l3 l5 l7 l7
theorem bDX12_passes_605 {G : Gt} {X : Xt} {w' : Wd} {v : Unit} (hX : CxOk G X cX12_passes 9 RX12 (none, w'.1, w'.2.1, w'.2.2) 5) (hR : CxRet G X none (none, w'.1, w'.2.1, w'.2.2)) {k543 : Nat → Int32 → Int32 → Int32 → Int32 → Int32 → Int32 → Dm Unit} (hk543 : ∀ (l0 : Nat) (l1 : Int32) (l2 : Int32) (l3 : Int32) (l5 : Int32) (l6 : Int32) (l7 : Int32) (w : Wd), (k543 l0 l1 l2 l3 l5 l6 l7).1 w = some (v, w') → WM G X 543 [(0, .ref l0), (1, .int l1), (2, .int l2), (3, .int l3), (5, .int l5), (6, .int l6), (7, .int l7)] [] w.1 w.2.1 w.2.2) (l0 : Nat) (l1 : Int32) (l2 : Int32) (l3 : Int32) (l5 : Int32) (l7 : Int32) (w : Wd) (h : (DX12_passes_b605 k543 l0 l1 l2 l3 l5 l7).1 w = some (v, w')) : WM G X 605 [(0, .ref l0), (1, .int l1), (2, .int l2), (3, .int l3), (5, .int l5), (7, .int l7)] [] w.1 w.2.1 w.2.2 := by
  unfold DX12_passes_b605 at h
  refine w_iload 5 605 hX rfl dX12_passes_605 ?_
  refine w_istore (lv' := [(6, .int l7), (0, .ref l0), (1, .int l1), (2, .int l2), (3, .int l3), (5, .int l5), (7, .int l7)]) 607 hX dX12_passes_607 (by decide) rfl ?_
  exact w_sub [1, 2, 3, 4, 5, 0, 6] rfl (bDX12_passes_609 hX hR hk543 l0 l1 l2 l3 l5 l7 l7 _ h)
noncomputable def DX12_passes_b543 (k393 : Nat → Int32 → Int32 → Int32 → Dm Unit) (k543 : Nat → Int32 → Int32 → Int32 → Int32 → Int32 → Int32 → Dm Unit) (l0 : Nat) (l1 : Int32) (l2 : Int32) (l3 : Int32) (l5 : Int32) (l6 : Int32) (l7 : Int32) : Dm Unit :=
  (if l7 < 0 then (DX12_passes_b615 k393 l0 l1 l2 l3 l5 l6) else ((if l5 < 0 then (DX12_passes_b615 k393 l0 l1 l2 l3 l5 l6) else (dbind (dread (isC l0 12)) fun x3 => dbind (DX12_is l0 l7 l5 1) fun x4 => (if x4 = 0 then (DX12_passes_b609 k543 l0 l1 l2 l3 l5 l6 l7) else (dbind (dread (gfR l0 12 16)) fun x6 => dbind (dread (aald x6 l7)) fun x7 => dbind (dread (iald x7 7)) fun x8 => (if x8 = l3 then ((if l6 < 0 then (DX12_passes_b605 k543 l0 l1 l2 l3 l5 l7) else (dbind (dread (gfR l0 12 16)) fun x11 => dbind (dread (aald x11 l7)) fun x12 => dbind (dread (iald x12 1)) fun x13 => dbind (dread (gfR l0 12 16)) fun x14 => dbind (dread (aald x14 l6)) fun x15 => dbind (dread (iald x15 1)) fun x16 => (if x16 < x13 then (DX12_passes_b609 k543 l0 l1 l2 l3 l5 l6 l7) else (DX12_passes_b605 k543 l0 l1 l2 l3 l5 l7))))) else (DX12_passes_b609 k543 l0 l1 l2 l3 l5 l6 l7))))))))
theorem bDX12_passes_543 {G : Gt} {X : Xt} {w' : Wd} {v : Unit} (hX : CxOk G X cX12_passes 9 RX12 (none, w'.1, w'.2.1, w'.2.2) 5) (hR : CxRet G X none (none, w'.1, w'.2.1, w'.2.2)) {k393 : Nat → Int32 → Int32 → Int32 → Dm Unit} (hk393 : ∀ (l0 : Nat) (l1 : Int32) (l2 : Int32) (l3 : Int32) (w : Wd), (k393 l0 l1 l2 l3).1 w = some (v, w') → WM G X 393 [(0, .ref l0), (1, .int l1), (2, .int l2), (3, .int l3)] [] w.1 w.2.1 w.2.2) {k543 : Nat → Int32 → Int32 → Int32 → Int32 → Int32 → Int32 → Dm Unit} (hk543 : ∀ (l0 : Nat) (l1 : Int32) (l2 : Int32) (l3 : Int32) (l5 : Int32) (l6 : Int32) (l7 : Int32) (w : Wd), (k543 l0 l1 l2 l3 l5 l6 l7).1 w = some (v, w') → WM G X 543 [(0, .ref l0), (1, .int l1), (2, .int l2), (3, .int l3), (5, .int l5), (6, .int l6), (7, .int l7)] [] w.1 w.2.1 w.2.2) (l0 : Nat) (l1 : Int32) (l2 : Int32) (l3 : Int32) (l5 : Int32) (l6 : Int32) (l7 : Int32) (w : Wd) (h : (DX12_passes_b543 k393 k543 l0 l1 l2 l3 l5 l6 l7).1 w = some (v, w')) : WM G X 543 [(0, .ref l0), (1, .int l1), (2, .int l2), (3, .int l3), (5, .int l5), (6, .int l6), (7, .int l7)] [] w.1 w.2.1 w.2.2 := by
  unfold DX12_passes_b543 at h
  refine w_iload 6 543 hX rfl dX12_passes_543 ?_
  refine w_if_lt (tgt := 615) 545 hX dX12_passes_545 (by decide) (fun c1 => ?_) (fun c1 => ?_)
  · have h := dit h c1
    exact w_sub [0, 1, 2, 3, 4, 5] rfl (bDX12_passes_615 hX hR hk393 l0 l1 l2 l3 l5 l6 _ h)
  · have h := die h c1
    refine w_iload 4 548 hX rfl dX12_passes_548 ?_
    refine w_if_lt (tgt := 615) 550 hX dX12_passes_550 (by decide) (fun c2 => ?_) (fun c2 => ?_)
    · have h := dit h c2
      exact w_sub [0, 1, 2, 3, 4, 5] rfl (bDX12_passes_615 hX hR hk393 l0 l1 l2 l3 l5 l6 _ h)
    · have h := die h c2
      refine w_aload_n 0 553 hX rfl rfl dX12_passes_553 ?_
      refine w_iload 6 554 hX rfl dX12_passes_554 ?_
      refine w_iload 4 556 hX rfl dX12_passes_556 ?_
      refine w_iconst 1 558 hX ic_1 dX12_passes_558 ?_
      obtain ⟨x3, gx3, h⟩ := d_rd h
      obtain ⟨x4, wx4, gx4, h⟩ := d_bind h
      refine w_invVi (av := [.int l7, .int l5, .int 1]) (st := []) 559 hX CI_12 (isC_ok gx3) rfl mv_yX12_is mi_yX12_is ml_X12_93 (CDX12_is l0 l7 l5 1 gx4) rfl (by decide) (Nat.le_of_ble_eq_true rfl) (d_le h).1 (d_le h).2 dX12_passes_559 ?_
      refine w_if_eq (tgt := 609) 562 hX dX12_passes_562 (by decide) (fun c5 => ?_) (fun c5 => ?_)
      · have h := dit h c5
        exact bDX12_passes_609 hX hR hk543 l0 l1 l2 l3 l5 l6 l7 _ h
      · have h := die h c5
        refine w_aload_n 0 565 hX rfl rfl dX12_passes_565 ?_
        obtain ⟨x6, gx6, h⟩ := d_rd h
        refine x_getR 566 hX CI_12 gx6 rfl fl_X12_30 rfl dX12_passes_566 ?_
        refine w_iload 6 569 hX rfl dX12_passes_569 ?_
        obtain ⟨x7, gx7, h⟩ := d_rd h
        refine x_aald 571 hX gx7 dX12_passes_571 ?_
        refine w_bipush 7 572 hX ib_7 dX12_passes_572 ?_
        obtain ⟨x8, gx8, h⟩ := d_rd h
        refine x_iald 574 hX gx8 dX12_passes_574 ?_
        refine w_iload_n 3 575 hX rfl rfl dX12_passes_575 ?_
        refine w_icmp_ne (tgt := 609) 576 hX dX12_passes_576 (by decide) (fun c9 => ?_) (fun c9 => ?_)
        · have h := die h c9
          exact bDX12_passes_609 hX hR hk543 l0 l1 l2 l3 l5 l6 l7 _ h
        · have h := dit h c9
          refine w_iload 5 579 hX rfl dX12_passes_579 ?_
          refine w_if_lt (tgt := 605) 581 hX dX12_passes_581 (by decide) (fun c10 => ?_) (fun c10 => ?_)
          · have h := dit h c10
            exact w_sub [0, 1, 2, 3, 4, 6] rfl (bDX12_passes_605 hX hR hk543 l0 l1 l2 l3 l5 l7 _ h)
          · have h := die h c10
            refine w_aload_n 0 584 hX rfl rfl dX12_passes_584 ?_
            obtain ⟨x11, gx11, h⟩ := d_rd h
            refine x_getR 585 hX CI_12 gx11 rfl fl_X12_30 rfl dX12_passes_585 ?_
            refine w_iload 6 588 hX rfl dX12_passes_588 ?_
            obtain ⟨x12, gx12, h⟩ := d_rd h
            refine x_aald 590 hX gx12 dX12_passes_590 ?_
            refine w_iconst 1 591 hX ic_1 dX12_passes_591 ?_
            obtain ⟨x13, gx13, h⟩ := d_rd h
            refine x_iald 592 hX gx13 dX12_passes_592 ?_
            refine w_aload_n 0 593 hX rfl rfl dX12_passes_593 ?_
            obtain ⟨x14, gx14, h⟩ := d_rd h
            refine x_getR 594 hX CI_12 gx14 rfl fl_X12_30 rfl dX12_passes_594 ?_
            refine w_iload 5 597 hX rfl dX12_passes_597 ?_
            obtain ⟨x15, gx15, h⟩ := d_rd h
            refine x_aald 599 hX gx15 dX12_passes_599 ?_
            refine w_iconst 1 600 hX ic_1 dX12_passes_600 ?_
            obtain ⟨x16, gx16, h⟩ := d_rd h
            refine x_iald 601 hX gx16 dX12_passes_601 ?_
            refine w_icmp_gt (tgt := 609) 602 hX dX12_passes_602 (by decide) (fun c17 => ?_) (fun c17 => ?_)
            · have h := dit h c17
              exact bDX12_passes_609 hX hR hk543 l0 l1 l2 l3 l5 l6 l7 _ h
            · have h := die h c17
              exact w_sub [0, 1, 2, 3, 4, 6] rfl (bDX12_passes_605 hX hR hk543 l0 l1 l2 l3 l5 l7 _ h)
noncomputable def DX12_passes_L543 (k393 : Nat → Int32 → Int32 → Int32 → Dm Unit) : Nat → Nat → Int32 → Int32 → Int32 → Int32 → Int32 → Int32 → Dm Unit
  | 0, _, _, _, _, _, _, _ => dno
  | n + 1, l0, l1, l2, l3, l5, l6, l7 => DX12_passes_b543 k393 (DX12_passes_L543 k393 n) l0 l1 l2 l3 l5 l6 l7
theorem lDX12_passes_543 {G : Gt} {X : Xt} {w' : Wd} {v : Unit} (hX : CxOk G X cX12_passes 9 RX12 (none, w'.1, w'.2.1, w'.2.2) 5) (hR : CxRet G X none (none, w'.1, w'.2.1, w'.2.2)) {k393 : Nat → Int32 → Int32 → Int32 → Dm Unit} (hk393 : ∀ (l0 : Nat) (l1 : Int32) (l2 : Int32) (l3 : Int32) (w : Wd), (k393 l0 l1 l2 l3).1 w = some (v, w') → WM G X 393 [(0, .ref l0), (1, .int l1), (2, .int l2), (3, .int l3)] [] w.1 w.2.1 w.2.2) : ∀ (n : Nat) (l0 : Nat) (l1 : Int32) (l2 : Int32) (l3 : Int32) (l5 : Int32) (l6 : Int32) (l7 : Int32) (w : Wd), (DX12_passes_L543 k393 n l0 l1 l2 l3 l5 l6 l7).1 w = some (v, w') → WM G X 543 [(0, .ref l0), (1, .int l1), (2, .int l2), (3, .int l3), (5, .int l5), (6, .int l6), (7, .int l7)] [] w.1 w.2.1 w.2.2 := by
  intro n
  induction n with
  | zero =>
    intro l0 l1 l2 l3 l5 l6 l7 w h
    exact dn_ h
  | succ n ih =>
    intro l0 l1 l2 l3 l5 l6 l7 w h
    exact bDX12_passes_543 hX hR hk393 ih l0 l1 l2 l3 l5 l6 l7 w h
noncomputable def DX12_passes_b530 (k393 : Nat → Int32 → Int32 → Int32 → Dm Unit) (l0 : Nat) (l1 : Int32) (l2 : Int32) (l3 : Int32) (t0 : Int32) : Dm Unit :=
  dbind (dread (gfI l0 12 6)) fun x1 => DX12_passes_L543 k393 FU l0 l1 l2 l3 t0 (-1) (x1 - 1)
theorem bDX12_passes_530 {G : Gt} {X : Xt} {w' : Wd} {v : Unit} (hX : CxOk G X cX12_passes 9 RX12 (none, w'.1, w'.2.1, w'.2.2) 5) (hR : CxRet G X none (none, w'.1, w'.2.1, w'.2.2)) {k393 : Nat → Int32 → Int32 → Int32 → Dm Unit} (hk393 : ∀ (l0 : Nat) (l1 : Int32) (l2 : Int32) (l3 : Int32) (w : Wd), (k393 l0 l1 l2 l3).1 w = some (v, w') → WM G X 393 [(0, .ref l0), (1, .int l1), (2, .int l2), (3, .int l3)] [] w.1 w.2.1 w.2.2) (l0 : Nat) (l1 : Int32) (l2 : Int32) (l3 : Int32) (t0 : Int32) (w : Wd) (h : (DX12_passes_b530 k393 l0 l1 l2 l3 t0).1 w = some (v, w')) : WM G X 530 [(0, .ref l0), (1, .int l1), (2, .int l2), (3, .int l3)] [.int t0] w.1 w.2.1 w.2.2 := by
  unfold DX12_passes_b530 at h
  refine w_istore (lv' := [(5, .int t0), (0, .ref l0), (1, .int l1), (2, .int l2), (3, .int l3)]) 530 hX dX12_passes_530 (by decide) rfl ?_
  refine w_iconst (-1) 532 hX ic_m1 dX12_passes_532 ?_
  refine w_istore (lv' := [(6, .int (-1)), (5, .int t0), (0, .ref l0), (1, .int l1), (2, .int l2), (3, .int l3)]) 533 hX dX12_passes_533 (by decide) rfl ?_
  refine w_aload_n 2 535 hX rfl rfl dX12_passes_535 ?_
  obtain ⟨x1, gx1, h⟩ := d_rd h
  refine x_getI 536 hX CI_12 gx1 rfl fl_X12_50 rfl dX12_passes_536 ?_
  refine w_iconst 1 539 hX ic_1 dX12_passes_539 ?_
  refine w_isub 540 hX dX12_passes_540 ?_
  refine w_istore (lv' := [(7, .int (x1 - 1)), (6, .int (-1)), (5, .int t0), (0, .ref l0), (1, .int l1), (2, .int l2), (3, .int l3)]) 541 hX dX12_passes_541 (by decide) rfl ?_
  exact w_sub [3, 4, 5, 6, 2, 1, 0] rfl (lDX12_passes_543 hX hR hk393 FU l0 l1 l2 l3 t0 (-1) (x1 - 1) _ h)
noncomputable def DX12_passes_b493 (k432 : Nat → Int32 → Int32 → Int32 → Nat → Int32 → Dm Unit) (l0 : Nat) (l1 : Int32) (l2 : Int32) (l3 : Int32) (l4 : Nat) (l5 : Int32) : Dm Unit :=
  k432 l0 l1 l2 l3 l4 (l5 + 1)
theorem bDX12_passes_493 {G : Gt} {X : Xt} {w' : Wd} {v : Unit} (hX : CxOk G X cX12_passes 9 RX12 (none, w'.1, w'.2.1, w'.2.2) 5) (hR : CxRet G X none (none, w'.1, w'.2.1, w'.2.2)) {k432 : Nat → Int32 → Int32 → Int32 → Nat → Int32 → Dm Unit} (hk432 : ∀ (l0 : Nat) (l1 : Int32) (l2 : Int32) (l3 : Int32) (l4 : Nat) (l5 : Int32) (w : Wd), (k432 l0 l1 l2 l3 l4 l5).1 w = some (v, w') → WM G X 432 [(0, .ref l0), (1, .int l1), (2, .int l2), (3, .int l3), (4, .ref l4), (5, .int l5)] [] w.1 w.2.1 w.2.2) (l0 : Nat) (l1 : Int32) (l2 : Int32) (l3 : Int32) (l4 : Nat) (l5 : Int32) (w : Wd) (h : (DX12_passes_b493 k432 l0 l1 l2 l3 l4 l5).1 w = some (v, w')) : WM G X 493 [(0, .ref l0), (1, .int l1), (2, .int l2), (3, .int l3), (4, .ref l4), (5, .int l5)] [] w.1 w.2.1 w.2.2 := by
  unfold DX12_passes_b493 at h
  refine w_iinc (lv' := [(5, .int (l5 + 1)), (0, .ref l0), (1, .int l1), (2, .int l2), (3, .int l3), (4, .ref l4)]) 493 5 hX dX12_passes_493 rfl (inc_1 _) (by decide) rfl ?_
  refine w_goto (tgt := 432) 496 hX (by decide) dX12_passes_496 ?_
  exact w_sub [1, 2, 3, 4, 5, 0] rfl (hk432 l0 l1 l2 l3 l4 (l5 + 1) _ h)
noncomputable def DX12_passes_b432 (k393 : Nat → Int32 → Int32 → Int32 → Dm Unit) (k432 : Nat → Int32 → Int32 → Int32 → Nat → Int32 → Dm Unit) (l0 : Nat) (l1 : Int32) (l2 : Int32) (l3 : Int32) (l4 : Nat) (l5 : Int32) : Dm Unit :=
  dbind (dread (gfI l0 12 6)) fun x1 => (if x1 ≤ l5 then (dbind (dread (iald l4 0)) fun x3 => dbind (dread (iald l4 1)) fun x4 => (if x4 ≤ x3 then (dbind (dread (iald l4 1)) fun x6 => dbind (dread (iald l4 0)) fun x7 => (if x7 ≤ x6 then (DX12_passes_b530 k393 l0 l1 l2 l3 (-1)) else (DX12_passes_b530 k393 l0 l1 l2 l3 1))) else (DX12_passes_b530 k393 l0 l1 l2 l3 0))) else (dbind (dread (gfR l0 12 16)) fun x9 => dbind (dread (aald x9 l5)) fun x10 => dbind (dread (iald x10 6)) fun x11 => (if x11 = 1 then (dbind (dread (gfR l0 12 16)) fun x13 => dbind (dread (aald x13 l5)) fun x14 => dbind (dread (iald x14 7)) fun x15 => (if x15 = l3 then (dbind (dread (gfR l0 12 16)) fun x17 => dbind (dread (aald x17 l5)) fun x18 => dbind (dread (iald x18 0)) fun x19 => dbind (dread (iald l4 x19)) fun x20 => dbind (dread (gfR l0 12 16)) fun x21 => dbind (dread (aald x21 l5)) fun x22 => dbind (dread (iald x22 3)) fun x23 => dbind (dput (iast l4 x19 (x20 + x23))) fun _ => DX12_passes_b493 k432 l0 l1 l2 l3 l4 l5) else (DX12_passes_b493 k432 l0 l1 l2 l3 l4 l5))) else (DX12_passes_b493 k432 l0 l1 l2 l3 l4 l5))))
theorem bDX12_passes_432 {G : Gt} {X : Xt} {w' : Wd} {v : Unit} (hX : CxOk G X cX12_passes 9 RX12 (none, w'.1, w'.2.1, w'.2.2) 5) (hR : CxRet G X none (none, w'.1, w'.2.1, w'.2.2)) {k393 : Nat → Int32 → Int32 → Int32 → Dm Unit} (hk393 : ∀ (l0 : Nat) (l1 : Int32) (l2 : Int32) (l3 : Int32) (w : Wd), (k393 l0 l1 l2 l3).1 w = some (v, w') → WM G X 393 [(0, .ref l0), (1, .int l1), (2, .int l2), (3, .int l3)] [] w.1 w.2.1 w.2.2) {k432 : Nat → Int32 → Int32 → Int32 → Nat → Int32 → Dm Unit} (hk432 : ∀ (l0 : Nat) (l1 : Int32) (l2 : Int32) (l3 : Int32) (l4 : Nat) (l5 : Int32) (w : Wd), (k432 l0 l1 l2 l3 l4 l5).1 w = some (v, w') → WM G X 432 [(0, .ref l0), (1, .int l1), (2, .int l2), (3, .int l3), (4, .ref l4), (5, .int l5)] [] w.1 w.2.1 w.2.2) (l0 : Nat) (l1 : Int32) (l2 : Int32) (l3 : Int32) (l4 : Nat) (l5 : Int32) (w : Wd) (h : (DX12_passes_b432 k393 k432 l0 l1 l2 l3 l4 l5).1 w = some (v, w')) : WM G X 432 [(0, .ref l0), (1, .int l1), (2, .int l2), (3, .int l3), (4, .ref l4), (5, .int l5)] [] w.1 w.2.1 w.2.2 := by
  unfold DX12_passes_b432 at h
  refine w_iload 5 432 hX rfl dX12_passes_432 ?_
  refine w_aload_n 0 434 hX rfl rfl dX12_passes_434 ?_
  obtain ⟨x1, gx1, h⟩ := d_rd h
  refine x_getI 435 hX CI_12 gx1 rfl fl_X12_50 rfl dX12_passes_435 ?_
  refine w_icmp_ge (tgt := 499) 438 hX dX12_passes_438 (by decide) (fun c2 => ?_) (fun c2 => ?_)
  · have h := dit h c2
    refine w_aload 4 499 hX rfl dX12_passes_499 ?_
    refine w_iconst 0 501 hX ic_0 dX12_passes_501 ?_
    obtain ⟨x3, gx3, h⟩ := d_rd h
    refine x_iald 502 hX gx3 dX12_passes_502 ?_
    refine w_aload 4 503 hX rfl dX12_passes_503 ?_
    refine w_iconst 1 505 hX ic_1 dX12_passes_505 ?_
    obtain ⟨x4, gx4, h⟩ := d_rd h
    refine x_iald 506 hX gx4 dX12_passes_506 ?_
    refine w_icmp_ge (tgt := 514) 507 hX dX12_passes_507 (by decide) (fun c5 => ?_) (fun c5 => ?_)
    · have h := dit h c5
      refine w_aload 4 514 hX rfl dX12_passes_514 ?_
      refine w_iconst 1 516 hX ic_1 dX12_passes_516 ?_
      obtain ⟨x6, gx6, h⟩ := d_rd h
      refine x_iald 517 hX gx6 dX12_passes_517 ?_
      refine w_aload 4 518 hX rfl dX12_passes_518 ?_
      refine w_iconst 0 520 hX ic_0 dX12_passes_520 ?_
      obtain ⟨x7, gx7, h⟩ := d_rd h
      refine x_iald 521 hX gx7 dX12_passes_521 ?_
      refine w_icmp_ge (tgt := 529) 522 hX dX12_passes_522 (by decide) (fun c8 => ?_) (fun c8 => ?_)
      · have h := dit h c8
        refine w_iconst (-1) 529 hX ic_m1 dX12_passes_529 ?_
        exact w_sub [0, 1, 2, 3] rfl (bDX12_passes_530 hX hR hk393 l0 l1 l2 l3 (-1) _ h)
      · have h := die h c8
        refine w_iconst 1 525 hX ic_1 dX12_passes_525 ?_
        refine w_goto (tgt := 530) 526 hX (by decide) dX12_passes_526 ?_
        exact w_sub [0, 1, 2, 3] rfl (bDX12_passes_530 hX hR hk393 l0 l1 l2 l3 1 _ h)
    · have h := die h c5
      refine w_iconst 0 510 hX ic_0 dX12_passes_510 ?_
      refine w_goto (tgt := 530) 511 hX (by decide) dX12_passes_511 ?_
      exact w_sub [0, 1, 2, 3] rfl (bDX12_passes_530 hX hR hk393 l0 l1 l2 l3 0 _ h)
  · have h := die h c2
    refine w_aload_n 0 441 hX rfl rfl dX12_passes_441 ?_
    obtain ⟨x9, gx9, h⟩ := d_rd h
    refine x_getR 442 hX CI_12 gx9 rfl fl_X12_30 rfl dX12_passes_442 ?_
    refine w_iload 5 445 hX rfl dX12_passes_445 ?_
    obtain ⟨x10, gx10, h⟩ := d_rd h
    refine x_aald 447 hX gx10 dX12_passes_447 ?_
    refine w_bipush 6 448 hX ib_6 dX12_passes_448 ?_
    obtain ⟨x11, gx11, h⟩ := d_rd h
    refine x_iald 450 hX gx11 dX12_passes_450 ?_
    refine w_iconst 1 451 hX ic_1 dX12_passes_451 ?_
    refine w_icmp_ne (tgt := 493) 452 hX dX12_passes_452 (by decide) (fun c12 => ?_) (fun c12 => ?_)
    · have h := die h c12
      exact bDX12_passes_493 hX hR hk432 l0 l1 l2 l3 l4 l5 _ h
    · have h := dit h c12
      refine w_aload_n 0 455 hX rfl rfl dX12_passes_455 ?_
      obtain ⟨x13, gx13, h⟩ := d_rd h
      refine x_getR 456 hX CI_12 gx13 rfl fl_X12_30 rfl dX12_passes_456 ?_
      refine w_iload 5 459 hX rfl dX12_passes_459 ?_
      obtain ⟨x14, gx14, h⟩ := d_rd h
      refine x_aald 461 hX gx14 dX12_passes_461 ?_
      refine w_bipush 7 462 hX ib_7 dX12_passes_462 ?_
      obtain ⟨x15, gx15, h⟩ := d_rd h
      refine x_iald 464 hX gx15 dX12_passes_464 ?_
      refine w_iload_n 3 465 hX rfl rfl dX12_passes_465 ?_
      refine w_icmp_ne (tgt := 493) 466 hX dX12_passes_466 (by decide) (fun c16 => ?_) (fun c16 => ?_)
      · have h := die h c16
        exact bDX12_passes_493 hX hR hk432 l0 l1 l2 l3 l4 l5 _ h
      · have h := dit h c16
        refine w_aload 4 469 hX rfl dX12_passes_469 ?_
        refine w_aload_n 0 471 hX rfl rfl dX12_passes_471 ?_
        obtain ⟨x17, gx17, h⟩ := d_rd h
        refine x_getR 472 hX CI_12 gx17 rfl fl_X12_30 rfl dX12_passes_472 ?_
        refine w_iload 5 475 hX rfl dX12_passes_475 ?_
        obtain ⟨x18, gx18, h⟩ := d_rd h
        refine x_aald 477 hX gx18 dX12_passes_477 ?_
        refine w_iconst 0 478 hX ic_0 dX12_passes_478 ?_
        obtain ⟨x19, gx19, h⟩ := d_rd h
        refine x_iald 479 hX gx19 dX12_passes_479 ?_
        refine w_dup2 480 hX rfl rfl dX12_passes_480 ?_
        obtain ⟨x20, gx20, h⟩ := d_rd h
        refine x_iald 481 hX gx20 dX12_passes_481 ?_
        refine w_aload_n 0 482 hX rfl rfl dX12_passes_482 ?_
        obtain ⟨x21, gx21, h⟩ := d_rd h
        refine x_getR 483 hX CI_12 gx21 rfl fl_X12_30 rfl dX12_passes_483 ?_
        refine w_iload 5 486 hX rfl dX12_passes_486 ?_
        obtain ⟨x22, gx22, h⟩ := d_rd h
        refine x_aald 488 hX gx22 dX12_passes_488 ?_
        refine w_iconst 3 489 hX ic_3 dX12_passes_489 ?_
        obtain ⟨x23, gx23, h⟩ := d_rd h
        refine x_iald 490 hX gx23 dX12_passes_490 ?_
        refine w_iadd 491 hX dX12_passes_491 ?_
        obtain ⟨x24, wx24, gx24, h⟩ := d_bind h
        refine x_iast 492 hX gx24 dX12_passes_492 ?_
        exact bDX12_passes_493 hX hR hk432 l0 l1 l2 l3 l4 l5 _ h
noncomputable def DX12_passes_L432 (k393 : Nat → Int32 → Int32 → Int32 → Dm Unit) : Nat → Nat → Int32 → Int32 → Int32 → Nat → Int32 → Dm Unit
  | 0, _, _, _, _, _, _ => dno
  | n + 1, l0, l1, l2, l3, l4, l5 => DX12_passes_b432 k393 (DX12_passes_L432 k393 n) l0 l1 l2 l3 l4 l5
theorem lDX12_passes_432 {G : Gt} {X : Xt} {w' : Wd} {v : Unit} (hX : CxOk G X cX12_passes 9 RX12 (none, w'.1, w'.2.1, w'.2.2) 5) (hR : CxRet G X none (none, w'.1, w'.2.1, w'.2.2)) {k393 : Nat → Int32 → Int32 → Int32 → Dm Unit} (hk393 : ∀ (l0 : Nat) (l1 : Int32) (l2 : Int32) (l3 : Int32) (w : Wd), (k393 l0 l1 l2 l3).1 w = some (v, w') → WM G X 393 [(0, .ref l0), (1, .int l1), (2, .int l2), (3, .int l3)] [] w.1 w.2.1 w.2.2) : ∀ (n : Nat) (l0 : Nat) (l1 : Int32) (l2 : Int32) (l3 : Int32) (l4 : Nat) (l5 : Int32) (w : Wd), (DX12_passes_L432 k393 n l0 l1 l2 l3 l4 l5).1 w = some (v, w') → WM G X 432 [(0, .ref l0), (1, .int l1), (2, .int l2), (3, .int l3), (4, .ref l4), (5, .int l5)] [] w.1 w.2.1 w.2.2 := by
  intro n
  induction n with
  | zero =>
    intro l0 l1 l2 l3 l4 l5 w h
    exact dn_ h
  | succ n ih =>
    intro l0 l1 l2 l3 l4 l5 w h
    exact bDX12_passes_432 hX hR hk393 ih l0 l1 l2 l3 l4 l5 w h
noncomputable def DX12_passes_b393 (k393 : Nat → Int32 → Int32 → Int32 → Dm Unit) (l0 : Nat) (l1 : Int32) (l2 : Int32) (l3 : Int32) : Dm Unit :=
  (if 16 ≤ l3 then (DX12_passes_b784 l0 l1 l2) else ((if l2 = 0 then (DX12_passes_b784 l0 l1 l2) else (dbind (dread (isC l0 12)) fun x3 => dbind (DX12_stands l0 0 l3) fun x4 => (if x4 = 0 then (DX12_passes_b778 k393 l0 l1 l2 l3) else (dbind (dread (isC l0 12)) fun x6 => dbind (DX12_stands l0 1 l3) fun x7 => (if x7 = 0 then (DX12_passes_b778 k393 l0 l1 l2 l3) else (dbind (dnew (nwI 2)) fun x9 => DX12_passes_L432 k393 FU l0 l1 l2 l3 x9 0))))))))
theorem bDX12_passes_393 {G : Gt} {X : Xt} {w' : Wd} {v : Unit} (hX : CxOk G X cX12_passes 9 RX12 (none, w'.1, w'.2.1, w'.2.2) 5) (hR : CxRet G X none (none, w'.1, w'.2.1, w'.2.2)) {k393 : Nat → Int32 → Int32 → Int32 → Dm Unit} (hk393 : ∀ (l0 : Nat) (l1 : Int32) (l2 : Int32) (l3 : Int32) (w : Wd), (k393 l0 l1 l2 l3).1 w = some (v, w') → WM G X 393 [(0, .ref l0), (1, .int l1), (2, .int l2), (3, .int l3)] [] w.1 w.2.1 w.2.2) (l0 : Nat) (l1 : Int32) (l2 : Int32) (l3 : Int32) (w : Wd) (h : (DX12_passes_b393 k393 l0 l1 l2 l3).1 w = some (v, w')) : WM G X 393 [(0, .ref l0), (1, .int l1), (2, .int l2), (3, .int l3)] [] w.1 w.2.1 w.2.2 := by
  unfold DX12_passes_b393 at h
  refine w_iload_n 3 393 hX rfl rfl dX12_passes_393 ?_
  refine w_bipush 16 394 hX ib_16 dX12_passes_394 ?_
  refine w_icmp_ge (tgt := 784) 396 hX dX12_passes_396 (by decide) (fun c1 => ?_) (fun c1 => ?_)
  · have h := dit h c1
    exact w_sub [0, 1, 2] rfl (bDX12_passes_784 hX hR l0 l1 l2 _ h)
  · have h := die h c1
    refine w_iload_n 2 399 hX rfl rfl dX12_passes_399 ?_
    refine w_if_eq (tgt := 784) 400 hX dX12_passes_400 (by decide) (fun c2 => ?_) (fun c2 => ?_)
    · have h := dit h c2
      exact w_sub [0, 1, 2] rfl (bDX12_passes_784 hX hR l0 l1 l2 _ h)
    · have h := die h c2
      refine w_aload_n 0 403 hX rfl rfl dX12_passes_403 ?_
      refine w_iconst 0 404 hX ic_0 dX12_passes_404 ?_
      refine w_iload_n 3 405 hX rfl rfl dX12_passes_405 ?_
      obtain ⟨x3, gx3, h⟩ := d_rd h
      obtain ⟨x4, wx4, gx4, h⟩ := d_bind h
      refine w_invVi (av := [.int 0, .int l3]) (st := []) 406 hX CI_12 (isC_ok gx3) rfl mv_yX12_stands mi_yX12_stands ml_X12_116 (CDX12_stands l0 0 l3 gx4) rfl (by decide) (Nat.le_of_ble_eq_true rfl) (d_le h).1 (d_le h).2 dX12_passes_406 ?_
      refine w_if_eq (tgt := 778) 409 hX dX12_passes_409 (by decide) (fun c5 => ?_) (fun c5 => ?_)
      · have h := dit h c5
        exact bDX12_passes_778 hX hR hk393 l0 l1 l2 l3 _ h
      · have h := die h c5
        refine w_aload_n 0 412 hX rfl rfl dX12_passes_412 ?_
        refine w_iconst 1 413 hX ic_1 dX12_passes_413 ?_
        refine w_iload_n 3 414 hX rfl rfl dX12_passes_414 ?_
        obtain ⟨x6, gx6, h⟩ := d_rd h
        obtain ⟨x7, wx7, gx7, h⟩ := d_bind h
        refine w_invVi (av := [.int 1, .int l3]) (st := []) 415 hX CI_12 (isC_ok gx6) rfl mv_yX12_stands mi_yX12_stands ml_X12_116 (CDX12_stands l0 1 l3 gx7) rfl (by decide) (Nat.le_of_ble_eq_true rfl) (d_le h).1 (d_le h).2 dX12_passes_415 ?_
        refine w_if_ne (tgt := 424) 418 hX dX12_passes_418 (by decide) (fun c8 => ?_) (fun c8 => ?_)
        · have h := die h c8
          refine w_iconst 2 424 hX ic_2 dX12_passes_424 ?_
          obtain ⟨x9, wx9, gx9, h⟩ := d_bind h
          refine x_newI 425 hX gx9 aw_int (d_le h) dX12_passes_425 ?_
          refine w_astore (lv' := [(4, .ref x9), (0, .ref l0), (1, .int l1), (2, .int l2), (3, .int l3)]) 427 hX dX12_passes_427 (by decide) rfl ?_
          refine w_iconst 0 429 hX ic_0 dX12_passes_429 ?_
          refine w_istore (lv' := [(5, .int 0), (4, .ref x9), (0, .ref l0), (1, .int l1), (2, .int l2), (3, .int l3)]) 430 hX dX12_passes_430 (by decide) rfl ?_
          exact w_sub [2, 3, 4, 5, 1, 0] rfl (lDX12_passes_432 hX hR hk393 FU l0 l1 l2 l3 x9 0 _ h)
        · have h := dit h c8
          refine w_goto (tgt := 778) 421 hX (by decide) dX12_passes_421 ?_
          exact bDX12_passes_778 hX hR hk393 l0 l1 l2 l3 _ h
noncomputable def DX12_passes_L393 : Nat → Nat → Int32 → Int32 → Int32 → Dm Unit
  | 0, _, _, _, _ => dno
  | n + 1, l0, l1, l2, l3 => DX12_passes_b393 (DX12_passes_L393 n) l0 l1 l2 l3
theorem lDX12_passes_393 {G : Gt} {X : Xt} {w' : Wd} {v : Unit} (hX : CxOk G X cX12_passes 9 RX12 (none, w'.1, w'.2.1, w'.2.2) 5) (hR : CxRet G X none (none, w'.1, w'.2.1, w'.2.2)) : ∀ (n : Nat) (l0 : Nat) (l1 : Int32) (l2 : Int32) (l3 : Int32) (w : Wd), (DX12_passes_L393 n l0 l1 l2 l3).1 w = some (v, w') → WM G X 393 [(0, .ref l0), (1, .int l1), (2, .int l2), (3, .int l3)] [] w.1 w.2.1 w.2.2 := by
  intro n
  induction n with
  | zero =>
    intro l0 l1 l2 l3 w h
    exact dn_ h
  | succ n ih =>
    intro l0 l1 l2 l3 w h
    exact bDX12_passes_393 hX hR ih l0 l1 l2 l3 w h
noncomputable def DX12_passes_b391 (l0 : Nat) (l1 : Int32) (l2 : Int32) : Dm Unit :=
  DX12_passes_L393 FU l0 l1 l2 0
theorem bDX12_passes_391 {G : Gt} {X : Xt} {w' : Wd} {v : Unit} (hX : CxOk G X cX12_passes 9 RX12 (none, w'.1, w'.2.1, w'.2.2) 5) (hR : CxRet G X none (none, w'.1, w'.2.1, w'.2.2)) (l0 : Nat) (l1 : Int32) (l2 : Int32) (w : Wd) (h : (DX12_passes_b391 l0 l1 l2).1 w = some (v, w')) : WM G X 391 [(0, .ref l0), (1, .int l1), (2, .int l2)] [] w.1 w.2.1 w.2.2 := by
  unfold DX12_passes_b391 at h
  refine w_iconst 0 391 hX ic_0 dX12_passes_391 ?_
  refine w_istore_n (lv' := [(3, .int 0), (0, .ref l0), (1, .int l1), (2, .int l2)]) 392 hX rfl dX12_passes_392 (by decide) rfl ?_
  exact w_sub [1, 2, 3, 0] rfl (lDX12_passes_393 hX hR FU l0 l1 l2 0 _ h)
noncomputable def DX12_passes_b385 (k200 : Nat → Int32 → Int32 → Int32 → Dm Unit) (l0 : Nat) (l1 : Int32) (l2 : Int32) (l3 : Int32) : Dm Unit :=
  k200 l0 l1 l2 (l3 + 1)
theorem bDX12_passes_385 {G : Gt} {X : Xt} {w' : Wd} {v : Unit} (hX : CxOk G X cX12_passes 9 RX12 (none, w'.1, w'.2.1, w'.2.2) 5) (hR : CxRet G X none (none, w'.1, w'.2.1, w'.2.2)) {k200 : Nat → Int32 → Int32 → Int32 → Dm Unit} (hk200 : ∀ (l0 : Nat) (l1 : Int32) (l2 : Int32) (l3 : Int32) (w : Wd), (k200 l0 l1 l2 l3).1 w = some (v, w') → WM G X 200 [(0, .ref l0), (1, .int l1), (2, .int l2), (3, .int l3)] [] w.1 w.2.1 w.2.2) (l0 : Nat) (l1 : Int32) (l2 : Int32) (l3 : Int32) (w : Wd) (h : (DX12_passes_b385 k200 l0 l1 l2 l3).1 w = some (v, w')) : WM G X 385 [(0, .ref l0), (1, .int l1), (2, .int l2), (3, .int l3)] [] w.1 w.2.1 w.2.2 := by
  unfold DX12_passes_b385 at h
  refine w_iinc (lv' := [(3, .int (l3 + 1)), (0, .ref l0), (1, .int l1), (2, .int l2)]) 385 3 hX dX12_passes_385 rfl (inc_1 _) (by decide) rfl ?_
  refine w_goto (tgt := 200) 388 hX (by decide) dX12_passes_388 ?_
  exact w_sub [1, 2, 3, 0] rfl (hk200 l0 l1 l2 (l3 + 1) _ h)
noncomputable def DX12_passes_b302 (k200 : Nat → Int32 → Int32 → Int32 → Dm Unit) (k302 : Nat → Int32 → Int32 → Int32 → Nat → Int32 → Dm Unit) (l0 : Nat) (l1 : Int32) (l2 : Int32) (l3 : Int32) (l4 : Nat) (l6 : Int32) : Dm Unit :=
  dbind (dread (iald l4 7)) fun x1 => dbind (dread (iald l4 0)) fun x2 => (if ((x1 + 1) - (2 * x2)) < 0 then (DX12_passes_b385 k200 l0 l1 l2 l3) else ((if 15 < ((x1 + 1) - (2 * x2)) then (DX12_passes_b385 k200 l0 l1 l2 l3) else (dbind (dread (iald l4 0)) fun x5 => dbind (dread (iald l4 7)) fun x6 => dbind (dread (isC l0 12)) fun x7 => dbind (DX12_stands l0 (1 - x5) x6) fun x8 => (if x8 = 0 then (dbind (dread (gfI l0 12 8)) fun x10 => (if 0 ≤ (l6 - (1 + ((x10 >>> (((x1 + 1) - (2 * x2)) &&& 31)) &&& 1))) then (dbind (dput (iast l4 7 ((x1 + 1) - (2 * x2)))) fun _ => k302 l0 l1 l2 l3 l4 (l6 - (1 + ((x10 >>> (((x1 + 1) - (2 * x2)) &&& 31)) &&& 1)))) else (DX12_passes_b385 k200 l0 l1 l2 l3))) else (DX12_passes_b385 k200 l0 l1 l2 l3))))))
theorem bDX12_passes_302 {G : Gt} {X : Xt} {w' : Wd} {v : Unit} (hX : CxOk G X cX12_passes 9 RX12 (none, w'.1, w'.2.1, w'.2.2) 5) (hR : CxRet G X none (none, w'.1, w'.2.1, w'.2.2)) {k200 : Nat → Int32 → Int32 → Int32 → Dm Unit} (hk200 : ∀ (l0 : Nat) (l1 : Int32) (l2 : Int32) (l3 : Int32) (w : Wd), (k200 l0 l1 l2 l3).1 w = some (v, w') → WM G X 200 [(0, .ref l0), (1, .int l1), (2, .int l2), (3, .int l3)] [] w.1 w.2.1 w.2.2) {k302 : Nat → Int32 → Int32 → Int32 → Nat → Int32 → Dm Unit} (hk302 : ∀ (l0 : Nat) (l1 : Int32) (l2 : Int32) (l3 : Int32) (l4 : Nat) (l6 : Int32) (w : Wd), (k302 l0 l1 l2 l3 l4 l6).1 w = some (v, w') → WM G X 302 [(0, .ref l0), (1, .int l1), (2, .int l2), (3, .int l3), (4, .ref l4), (6, .int l6)] [] w.1 w.2.1 w.2.2) (l0 : Nat) (l1 : Int32) (l2 : Int32) (l3 : Int32) (l4 : Nat) (l6 : Int32) (w : Wd) (h : (DX12_passes_b302 k200 k302 l0 l1 l2 l3 l4 l6).1 w = some (v, w')) : WM G X 302 [(0, .ref l0), (1, .int l1), (2, .int l2), (3, .int l3), (4, .ref l4), (6, .int l6)] [] w.1 w.2.1 w.2.2 := by
  unfold DX12_passes_b302 at h
  refine w_aload 4 302 hX rfl dX12_passes_302 ?_
  refine w_bipush 7 304 hX ib_7 dX12_passes_304 ?_
  obtain ⟨x1, gx1, h⟩ := d_rd h
  refine x_iald 306 hX gx1 dX12_passes_306 ?_
  refine w_iconst 1 307 hX ic_1 dX12_passes_307 ?_
  refine w_iadd 308 hX dX12_passes_308 ?_
  refine w_iconst 2 309 hX ic_2 dX12_passes_309 ?_
  refine w_aload 4 310 hX rfl dX12_passes_310 ?_
  refine w_iconst 0 312 hX ic_0 dX12_passes_312 ?_
  obtain ⟨x2, gx2, h⟩ := d_rd h
  refine x_iald 313 hX gx2 dX12_passes_313 ?_
  refine w_imul 314 hX dX12_passes_314 ?_
  refine w_isub 315 hX dX12_passes_315 ?_
  refine w_istore (lv' := [(7, .int ((x1 + 1) - (2 * x2))), (0, .ref l0), (1, .int l1), (2, .int l2), (3, .int l3), (4, .ref l4), (6, .int l6)]) 316 hX dX12_passes_316 (by decide) rfl ?_
  refine w_iload 0 318 hX rfl dX12_passes_318 ?_
  refine w_if_lt (tgt := 385) 320 hX dX12_passes_320 (by decide) (fun c3 => ?_) (fun c3 => ?_)
  · have h := dit h c3
    exact w_sub [1, 2, 3, 4] rfl (bDX12_passes_385 hX hR hk200 l0 l1 l2 l3 _ h)
  · have h := die h c3
    refine w_iload 0 323 hX rfl dX12_passes_323 ?_
    refine w_bipush 15 325 hX ib_15 dX12_passes_325 ?_
    refine w_icmp_gt (tgt := 385) 327 hX dX12_passes_327 (by decide) (fun c4 => ?_) (fun c4 => ?_)
    · have h := dit h c4
      exact w_sub [1, 2, 3, 4] rfl (bDX12_passes_385 hX hR hk200 l0 l1 l2 l3 _ h)
    · have h := die h c4
      refine w_aload_n 1 330 hX rfl rfl dX12_passes_330 ?_
      refine w_iconst 1 331 hX ic_1 dX12_passes_331 ?_
      refine w_aload 5 332 hX rfl dX12_passes_332 ?_
      refine w_iconst 0 334 hX ic_0 dX12_passes_334 ?_
      obtain ⟨x5, gx5, h⟩ := d_rd h
      refine x_iald 335 hX gx5 dX12_passes_335 ?_
      refine w_isub 336 hX dX12_passes_336 ?_
      refine w_aload 5 337 hX rfl dX12_passes_337 ?_
      refine w_bipush 7 339 hX ib_7 dX12_passes_339 ?_
      obtain ⟨x6, gx6, h⟩ := d_rd h
      refine x_iald 341 hX gx6 dX12_passes_341 ?_
      obtain ⟨x7, gx7, h⟩ := d_rd h
      obtain ⟨x8, wx8, gx8, h⟩ := d_bind h
      refine w_invVi (av := [.int (1 - x5), .int x6]) (st := []) 342 hX CI_12 (isC_ok gx7) rfl mv_yX12_stands mi_yX12_stands ml_X12_116 (CDX12_stands l0 (1 - x5) x6 gx8) rfl (by decide) (Nat.le_of_ble_eq_true rfl) (d_le h).1 (d_le h).2 dX12_passes_342 ?_
      refine w_if_eq (tgt := 351) 345 hX dX12_passes_345 (by decide) (fun c9 => ?_) (fun c9 => ?_)
      · have h := dit h c9
        refine w_iload 6 351 hX rfl dX12_passes_351 ?_
        refine w_iconst 1 353 hX ic_1 dX12_passes_353 ?_
        refine w_aload_n 1 354 hX rfl rfl dX12_passes_354 ?_
        obtain ⟨x10, gx10, h⟩ := d_rd h
        refine x_getI 355 hX CI_12 gx10 rfl fl_X12_56 rfl dX12_passes_355 ?_
        refine w_iload 0 358 hX rfl dX12_passes_358 ?_
        refine w_ishr 360 hX dX12_passes_360 ?_
        refine w_iconst 1 361 hX ic_1 dX12_passes_361 ?_
        refine w_iand 362 hX dX12_passes_362 ?_
        refine w_iadd 363 hX dX12_passes_363 ?_
        refine w_isub 364 hX dX12_passes_364 ?_
        refine w_istore (lv' := [(6, .int (l6 - (1 + ((x10 >>> (((x1 + 1) - (2 * x2)) &&& 31)) &&& 1)))), (7, .int ((x1 + 1) - (2 * x2))), (0, .ref l0), (1, .int l1), (2, .int l2), (3, .int l3), (4, .ref l4)]) 365 hX dX12_passes_365 (by decide) rfl ?_
        refine w_iload 0 367 hX rfl dX12_passes_367 ?_
        refine w_if_ge (tgt := 375) 369 hX dX12_passes_369 (by decide) (fun c11 => ?_) (fun c11 => ?_)
        · have h := dit h c11
          refine w_aload 6 375 hX rfl dX12_passes_375 ?_
          refine w_bipush 7 377 hX ib_7 dX12_passes_377 ?_
          refine w_iload 1 379 hX rfl dX12_passes_379 ?_
          obtain ⟨x12, wx12, gx12, h⟩ := d_bind h
          refine x_iast 381 hX gx12 dX12_passes_381 ?_
          refine w_goto (tgt := 302) 382 hX (by decide) dX12_passes_382 ?_
          exact w_sub [2, 3, 4, 5, 6, 0] rfl (hk302 l0 l1 l2 l3 l4 (l6 - (1 + ((x10 >>> (((x1 + 1) - (2 * x2)) &&& 31)) &&& 1))) _ h)
        · have h := die h c11
          refine w_goto (tgt := 385) 372 hX (by decide) dX12_passes_372 ?_
          exact w_sub [2, 3, 4, 5] rfl (bDX12_passes_385 hX hR hk200 l0 l1 l2 l3 _ h)
      · have h := die h c9
        refine w_goto (tgt := 385) 348 hX (by decide) dX12_passes_348 ?_
        exact w_sub [1, 2, 3, 4] rfl (bDX12_passes_385 hX hR hk200 l0 l1 l2 l3 _ h)
noncomputable def DX12_passes_L302 (k200 : Nat → Int32 → Int32 → Int32 → Dm Unit) : Nat → Nat → Int32 → Int32 → Int32 → Nat → Int32 → Dm Unit
  | 0, _, _, _, _, _, _ => dno
  | n + 1, l0, l1, l2, l3, l4, l6 => DX12_passes_b302 k200 (DX12_passes_L302 k200 n) l0 l1 l2 l3 l4 l6
theorem lDX12_passes_302 {G : Gt} {X : Xt} {w' : Wd} {v : Unit} (hX : CxOk G X cX12_passes 9 RX12 (none, w'.1, w'.2.1, w'.2.2) 5) (hR : CxRet G X none (none, w'.1, w'.2.1, w'.2.2)) {k200 : Nat → Int32 → Int32 → Int32 → Dm Unit} (hk200 : ∀ (l0 : Nat) (l1 : Int32) (l2 : Int32) (l3 : Int32) (w : Wd), (k200 l0 l1 l2 l3).1 w = some (v, w') → WM G X 200 [(0, .ref l0), (1, .int l1), (2, .int l2), (3, .int l3)] [] w.1 w.2.1 w.2.2) : ∀ (n : Nat) (l0 : Nat) (l1 : Int32) (l2 : Int32) (l3 : Int32) (l4 : Nat) (l6 : Int32) (w : Wd), (DX12_passes_L302 k200 n l0 l1 l2 l3 l4 l6).1 w = some (v, w') → WM G X 302 [(0, .ref l0), (1, .int l1), (2, .int l2), (3, .int l3), (4, .ref l4), (6, .int l6)] [] w.1 w.2.1 w.2.2 := by
  intro n
  induction n with
  | zero =>
    intro l0 l1 l2 l3 l4 l6 w h
    exact dn_ h
  | succ n ih =>
    intro l0 l1 l2 l3 l4 l6 w h
    exact bDX12_passes_302 hX hR hk200 ih l0 l1 l2 l3 l4 l6 w h
noncomputable def DX12_passes_b200 (k200 : Nat → Int32 → Int32 → Int32 → Dm Unit) (l0 : Nat) (l1 : Int32) (l2 : Int32) (l3 : Int32) : Dm Unit :=
  dbind (dread (gfI l0 12 6)) fun x1 => (if x1 ≤ l3 then (DX12_passes_b391 l0 l1 l2) else ((if l2 = 0 then (DX12_passes_b391 l0 l1 l2) else (dbind (dread (gfR l0 12 16)) fun x4 => dbind (dread (aald x4 l3)) fun x5 => dbind (dread (iald x5 6)) fun x6 => (if x6 = 1 then (dbind (dread (isC l0 12)) fun x8 => dbind (DX12_says l0 2 l3) fun x9 => dbind (dread (iald x5 0)) fun x10 => dbind (dread (isC l0 12)) fun x11 => dbind (DX12_rests l0 x10) fun x12 => (if x12 = 0 then ((if x9 ≤ 0 then (dbind (dread (isC l0 12)) fun x15 => dbind (DX12_says l0 1 l3) fun x16 => DX12_passes_L302 k200 FU l0 l1 l2 l3 x5 x16) else (dbind (dread (iald x5 3)) fun x17 => dbind (dput (iast x5 3 (if (x17 + x9) < 99 then (x17 + x9) else 99))) fun _ => DX12_passes_b385 k200 l0 l1 l2 l3))) else (dbind (dread (iald x5 3)) fun x19 => dbind (dput (iast x5 3 (if (x19 + 10) < 99 then (x19 + 10) else 99))) fun _ => DX12_passes_b385 k200 l0 l1 l2 l3))) else (DX12_passes_b385 k200 l0 l1 l2 l3))))))
theorem bDX12_passes_200 {G : Gt} {X : Xt} {w' : Wd} {v : Unit} (hX : CxOk G X cX12_passes 9 RX12 (none, w'.1, w'.2.1, w'.2.2) 5) (hR : CxRet G X none (none, w'.1, w'.2.1, w'.2.2)) {k200 : Nat → Int32 → Int32 → Int32 → Dm Unit} (hk200 : ∀ (l0 : Nat) (l1 : Int32) (l2 : Int32) (l3 : Int32) (w : Wd), (k200 l0 l1 l2 l3).1 w = some (v, w') → WM G X 200 [(0, .ref l0), (1, .int l1), (2, .int l2), (3, .int l3)] [] w.1 w.2.1 w.2.2) (l0 : Nat) (l1 : Int32) (l2 : Int32) (l3 : Int32) (w : Wd) (h : (DX12_passes_b200 k200 l0 l1 l2 l3).1 w = some (v, w')) : WM G X 200 [(0, .ref l0), (1, .int l1), (2, .int l2), (3, .int l3)] [] w.1 w.2.1 w.2.2 := by
  unfold DX12_passes_b200 at h
  refine w_iload_n 3 200 hX rfl rfl dX12_passes_200 ?_
  refine w_aload_n 0 201 hX rfl rfl dX12_passes_201 ?_
  obtain ⟨x1, gx1, h⟩ := d_rd h
  refine x_getI 202 hX CI_12 gx1 rfl fl_X12_50 rfl dX12_passes_202 ?_
  refine w_icmp_ge (tgt := 391) 205 hX dX12_passes_205 (by decide) (fun c2 => ?_) (fun c2 => ?_)
  · have h := dit h c2
    exact w_sub [0, 1, 2] rfl (bDX12_passes_391 hX hR l0 l1 l2 _ h)
  · have h := die h c2
    refine w_iload_n 2 208 hX rfl rfl dX12_passes_208 ?_
    refine w_if_eq (tgt := 391) 209 hX dX12_passes_209 (by decide) (fun c3 => ?_) (fun c3 => ?_)
    · have h := dit h c3
      exact w_sub [0, 1, 2] rfl (bDX12_passes_391 hX hR l0 l1 l2 _ h)
    · have h := die h c3
      refine w_aload_n 0 212 hX rfl rfl dX12_passes_212 ?_
      obtain ⟨x4, gx4, h⟩ := d_rd h
      refine x_getR 213 hX CI_12 gx4 rfl fl_X12_30 rfl dX12_passes_213 ?_
      refine w_iload_n 3 216 hX rfl rfl dX12_passes_216 ?_
      obtain ⟨x5, gx5, h⟩ := d_rd h
      refine x_aald 217 hX gx5 dX12_passes_217 ?_
      refine w_astore (lv' := [(4, .ref x5), (0, .ref l0), (1, .int l1), (2, .int l2), (3, .int l3)]) 218 hX dX12_passes_218 (by decide) rfl ?_
      refine w_aload 0 220 hX rfl dX12_passes_220 ?_
      refine w_bipush 6 222 hX ib_6 dX12_passes_222 ?_
      obtain ⟨x6, gx6, h⟩ := d_rd h
      refine x_iald 224 hX gx6 dX12_passes_224 ?_
      refine w_iconst 1 225 hX ic_1 dX12_passes_225 ?_
      refine w_icmp_eq (tgt := 232) 226 hX dX12_passes_226 (by decide) (fun c7 => ?_) (fun c7 => ?_)
      · have h := dit h c7
        refine w_aload_n 1 232 hX rfl rfl dX12_passes_232 ?_
        refine w_iconst 2 233 hX ic_2 dX12_passes_233 ?_
        refine w_iload_n 4 234 hX rfl rfl dX12_passes_234 ?_
        obtain ⟨x8, gx8, h⟩ := d_rd h
        obtain ⟨x9, wx9, gx9, h⟩ := d_bind h
        refine w_invVi (av := [.int 2, .int l3]) (st := []) 235 hX CI_12 (isC_ok gx8) rfl mv_yX12_says mi_yX12_says ml_X12_89 (CDX12_says l0 2 l3 gx9) rfl (by decide) (Nat.le_of_ble_eq_true rfl) (d_le h).1 (d_le h).2 dX12_passes_235 ?_
        refine w_istore (lv' := [(5, .int x9), (4, .ref x5), (0, .ref l0), (1, .int l1), (2, .int l2), (3, .int l3)]) 238 hX dX12_passes_238 (by decide) rfl ?_
        refine w_aload_n 2 240 hX rfl rfl dX12_passes_240 ?_
        refine w_aload 1 241 hX rfl dX12_passes_241 ?_
        refine w_iconst 0 243 hX ic_0 dX12_passes_243 ?_
        obtain ⟨x10, gx10, h⟩ := d_rd h
        refine x_iald 244 hX gx10 dX12_passes_244 ?_
        obtain ⟨x11, gx11, h⟩ := d_rd h
        obtain ⟨x12, wx12, gx12, h⟩ := d_bind h
        refine w_invVi (av := [.int x10]) (st := []) 245 hX CI_12 (isC_ok gx11) rfl mv_yX12_rests mi_yX12_rests ml_X12_107 (CDX12_rests l0 x10 gx12) rfl (by decide) (Nat.le_of_ble_eq_true rfl) (d_le h).1 (d_le h).2 dX12_passes_245 ?_
        refine w_if_eq (tgt := 270) 248 hX dX12_passes_248 (by decide) (fun c13 => ?_) (fun c13 => ?_)
        · have h := dit h c13
          refine w_iload 0 270 hX rfl dX12_passes_270 ?_
          refine w_if_le (tgt := 294) 272 hX dX12_passes_272 (by decide) (fun c14 => ?_) (fun c14 => ?_)
          · have h := dit h c14
            refine w_aload_n 2 294 hX rfl rfl dX12_passes_294 ?_
            refine w_iconst 1 295 hX ic_1 dX12_passes_295 ?_
            refine w_iload_n 5 296 hX rfl rfl dX12_passes_296 ?_
            obtain ⟨x15, gx15, h⟩ := d_rd h
            obtain ⟨x16, wx16, gx16, h⟩ := d_bind h
            refine w_invVi (av := [.int 1, .int l3]) (st := []) 297 hX CI_12 (isC_ok gx15) rfl mv_yX12_says mi_yX12_says ml_X12_89 (CDX12_says l0 1 l3 gx16) rfl (by decide) (Nat.le_of_ble_eq_true rfl) (d_le h).1 (d_le h).2 dX12_passes_297 ?_
            refine w_istore (lv' := [(6, .int x16), (5, .int x9), (4, .ref x5), (0, .ref l0), (1, .int l1), (2, .int l2), (3, .int l3)]) 300 hX dX12_passes_300 (by decide) rfl ?_
            exact w_sub [3, 4, 5, 6, 2, 0] rfl (lDX12_passes_302 hX hR hk200 FU l0 l1 l2 l3 x5 x16 _ h)
          · have h := die h c14
            refine w_aload 1 275 hX rfl dX12_passes_275 ?_
            refine w_iconst 3 277 hX ic_3 dX12_passes_277 ?_
            refine w_bipush 99 278 hX ib_99 dX12_passes_278 ?_
            refine w_aload 1 280 hX rfl dX12_passes_280 ?_
            refine w_iconst 3 282 hX ic_3 dX12_passes_282 ?_
            obtain ⟨x17, gx17, h⟩ := d_rd h
            refine x_iald 283 hX gx17 dX12_passes_283 ?_
            refine w_iload 0 284 hX rfl dX12_passes_284 ?_
            refine w_iadd 286 hX dX12_passes_286 ?_
            refine w_min 287 hX ml_X12_111 jm_min_s jm_i jm_min_c (by decide) (Nat.le_of_ble_eq_true rfl) (d_le h).1 (d_le h).2 dX12_passes_287 ?_
            obtain ⟨x18, wx18, gx18, h⟩ := d_bind h
            refine x_iast 290 hX gx18 dX12_passes_290 ?_
            refine w_goto (tgt := 385) 291 hX (by decide) dX12_passes_291 ?_
            exact w_sub [2, 3, 4, 5] rfl (bDX12_passes_385 hX hR hk200 l0 l1 l2 l3 _ h)
        · have h := die h c13
          refine w_aload 1 251 hX rfl dX12_passes_251 ?_
          refine w_iconst 3 253 hX ic_3 dX12_passes_253 ?_
          refine w_bipush 99 254 hX ib_99 dX12_passes_254 ?_
          refine w_aload 1 256 hX rfl dX12_passes_256 ?_
          refine w_iconst 3 258 hX ic_3 dX12_passes_258 ?_
          obtain ⟨x19, gx19, h⟩ := d_rd h
          refine x_iald 259 hX gx19 dX12_passes_259 ?_
          refine w_bipush 10 260 hX ib_10 dX12_passes_260 ?_
          refine w_iadd 262 hX dX12_passes_262 ?_
          refine w_min 263 hX ml_X12_111 jm_min_s jm_i jm_min_c (by decide) (Nat.le_of_ble_eq_true rfl) (d_le h).1 (d_le h).2 dX12_passes_263 ?_
          obtain ⟨x20, wx20, gx20, h⟩ := d_bind h
          refine x_iast 266 hX gx20 dX12_passes_266 ?_
          refine w_goto (tgt := 385) 267 hX (by decide) dX12_passes_267 ?_
          exact w_sub [2, 3, 4, 5] rfl (bDX12_passes_385 hX hR hk200 l0 l1 l2 l3 _ h)
      · have h := die h c7
        refine w_goto (tgt := 385) 229 hX (by decide) dX12_passes_229 ?_
        exact w_sub [1, 2, 3, 4] rfl (bDX12_passes_385 hX hR hk200 l0 l1 l2 l3 _ h)
noncomputable def DX12_passes_L200 : Nat → Nat → Int32 → Int32 → Int32 → Dm Unit
  | 0, _, _, _, _ => dno
  | n + 1, l0, l1, l2, l3 => DX12_passes_b200 (DX12_passes_L200 n) l0 l1 l2 l3
theorem lDX12_passes_200 {G : Gt} {X : Xt} {w' : Wd} {v : Unit} (hX : CxOk G X cX12_passes 9 RX12 (none, w'.1, w'.2.1, w'.2.2) 5) (hR : CxRet G X none (none, w'.1, w'.2.1, w'.2.2)) : ∀ (n : Nat) (l0 : Nat) (l1 : Int32) (l2 : Int32) (l3 : Int32) (w : Wd), (DX12_passes_L200 n l0 l1 l2 l3).1 w = some (v, w') → WM G X 200 [(0, .ref l0), (1, .int l1), (2, .int l2), (3, .int l3)] [] w.1 w.2.1 w.2.2 := by
  intro n
  induction n with
  | zero =>
    intro l0 l1 l2 l3 w h
    exact dn_ h
  | succ n ih =>
    intro l0 l1 l2 l3 w h
    exact bDX12_passes_200 hX hR ih l0 l1 l2 l3 w h
noncomputable def DX12_passes_b198 (l0 : Nat) (l1 : Int32) (l2 : Int32) : Dm Unit :=
  DX12_passes_L200 FU l0 l1 l2 0
theorem bDX12_passes_198 {G : Gt} {X : Xt} {w' : Wd} {v : Unit} (hX : CxOk G X cX12_passes 9 RX12 (none, w'.1, w'.2.1, w'.2.2) 5) (hR : CxRet G X none (none, w'.1, w'.2.1, w'.2.2)) (l0 : Nat) (l1 : Int32) (l2 : Int32) (w : Wd) (h : (DX12_passes_b198 l0 l1 l2).1 w = some (v, w')) : WM G X 198 [(0, .ref l0), (1, .int l1), (2, .int l2)] [] w.1 w.2.1 w.2.2 := by
  unfold DX12_passes_b198 at h
  refine w_iconst 0 198 hX ic_0 dX12_passes_198 ?_
  refine w_istore_n (lv' := [(3, .int 0), (0, .ref l0), (1, .int l1), (2, .int l2)]) 199 hX rfl dX12_passes_199 (by decide) rfl ?_
  exact w_sub [1, 2, 3, 0] rfl (lDX12_passes_200 hX hR FU l0 l1 l2 0 _ h)
noncomputable def DX12_passes_b192 (k16 : Nat → Int32 → Int32 → Int32 → Dm Unit) (l0 : Nat) (l1 : Int32) (l2 : Int32) (l3 : Int32) : Dm Unit :=
  k16 l0 l1 l2 (l3 + 1)
theorem bDX12_passes_192 {G : Gt} {X : Xt} {w' : Wd} {v : Unit} (hX : CxOk G X cX12_passes 9 RX12 (none, w'.1, w'.2.1, w'.2.2) 5) (hR : CxRet G X none (none, w'.1, w'.2.1, w'.2.2)) {k16 : Nat → Int32 → Int32 → Int32 → Dm Unit} (hk16 : ∀ (l0 : Nat) (l1 : Int32) (l2 : Int32) (l3 : Int32) (w : Wd), (k16 l0 l1 l2 l3).1 w = some (v, w') → WM G X 16 [(0, .ref l0), (1, .int l1), (2, .int l2), (3, .int l3)] [] w.1 w.2.1 w.2.2) (l0 : Nat) (l1 : Int32) (l2 : Int32) (l3 : Int32) (w : Wd) (h : (DX12_passes_b192 k16 l0 l1 l2 l3).1 w = some (v, w')) : WM G X 192 [(0, .ref l0), (1, .int l1), (2, .int l2), (3, .int l3)] [] w.1 w.2.1 w.2.2 := by
  unfold DX12_passes_b192 at h
  refine w_iinc (lv' := [(3, .int (l3 + 1)), (0, .ref l0), (1, .int l1), (2, .int l2)]) 192 3 hX dX12_passes_192 rfl (inc_1 _) (by decide) rfl ?_
  refine w_goto (tgt := 16) 195 hX (by decide) dX12_passes_195 ?_
  exact w_sub [1, 2, 3, 0] rfl (hk16 l0 l1 l2 (l3 + 1) _ h)
noncomputable def DX12_passes_b141 (k53 : Nat → Int32 → Int32 → Int32 → Int32 → Int32 → Dm Unit) (l0 : Nat) (l1 : Int32) (l2 : Int32) (l3 : Int32) (l4 : Int32) (l5 : Int32) : Dm Unit :=
  k53 l0 l1 l2 l3 l4 (l5 + (-1))
theorem bDX12_passes_141 {G : Gt} {X : Xt} {w' : Wd} {v : Unit} (hX : CxOk G X cX12_passes 9 RX12 (none, w'.1, w'.2.1, w'.2.2) 5) (hR : CxRet G X none (none, w'.1, w'.2.1, w'.2.2)) {k53 : Nat → Int32 → Int32 → Int32 → Int32 → Int32 → Dm Unit} (hk53 : ∀ (l0 : Nat) (l1 : Int32) (l2 : Int32) (l3 : Int32) (l4 : Int32) (l5 : Int32) (w : Wd), (k53 l0 l1 l2 l3 l4 l5).1 w = some (v, w') → WM G X 53 [(0, .ref l0), (1, .int l1), (2, .int l2), (3, .int l3), (4, .int l4), (5, .int l5)] [] w.1 w.2.1 w.2.2) (l0 : Nat) (l1 : Int32) (l2 : Int32) (l3 : Int32) (l4 : Int32) (l5 : Int32) (w : Wd) (h : (DX12_passes_b141 k53 l0 l1 l2 l3 l4 l5).1 w = some (v, w')) : WM G X 141 [(0, .ref l0), (1, .int l1), (2, .int l2), (3, .int l3), (4, .int l4), (5, .int l5)] [] w.1 w.2.1 w.2.2 := by
  unfold DX12_passes_b141 at h
  refine w_iinc (lv' := [(5, .int (l5 + (-1))), (0, .ref l0), (1, .int l1), (2, .int l2), (3, .int l3), (4, .int l4)]) 141 5 hX dX12_passes_141 rfl (inc_m1 _) (by decide) rfl ?_
  refine w_goto (tgt := 53) 144 hX (by decide) dX12_passes_144 ?_
  exact w_sub [1, 2, 3, 4, 5, 0] rfl (hk53 l0 l1 l2 l3 l4 (l5 + (-1)) _ h)
noncomputable def DX12_passes_b137 (k53 : Nat → Int32 → Int32 → Int32 → Int32 → Int32 → Dm Unit) (l0 : Nat) (l1 : Int32) (l2 : Int32) (l3 : Int32) (l5 : Int32) : Dm Unit :=
  DX12_passes_b141 k53 l0 l1 l2 l3 l5 l5
theorem bDX12_passes_137 {G : Gt} {X : Xt} {w' : Wd} {v : Unit} (hX : CxOk G X cX12_passes 9 RX12 (none, w'.1, w'.2.1, w'.2.2) 5) (hR : CxRet G X none (none, w'.1, w'.2.1, w'.2.2)) {k53 : Nat → Int32 → Int32 → Int32 → Int32 → Int32 → Dm Unit} (hk53 : ∀ (l0 : Nat) (l1 : Int32) (l2 : Int32) (l3 : Int32) (l4 : Int32) (l5 : Int32) (w : Wd), (k53 l0 l1 l2 l3 l4 l5).1 w = some (v, w') → WM G X 53 [(0, .ref l0), (1, .int l1), (2, .int l2), (3, .int l3), (4, .int l4), (5, .int l5)] [] w.1 w.2.1 w.2.2) (l0 : Nat) (l1 : Int32) (l2 : Int32) (l3 : Int32) (l5 : Int32) (w : Wd) (h : (DX12_passes_b137 k53 l0 l1 l2 l3 l5).1 w = some (v, w')) : WM G X 137 [(0, .ref l0), (1, .int l1), (2, .int l2), (3, .int l3), (5, .int l5)] [] w.1 w.2.1 w.2.2 := by
  unfold DX12_passes_b137 at h
  refine w_iload 4 137 hX rfl dX12_passes_137 ?_
  refine w_istore (lv' := [(4, .int l5), (0, .ref l0), (1, .int l1), (2, .int l2), (3, .int l3), (5, .int l5)]) 139 hX dX12_passes_139 (by decide) rfl ?_
  exact w_sub [1, 2, 3, 4, 0, 5] rfl (bDX12_passes_141 hX hR hk53 l0 l1 l2 l3 l5 l5 _ h)
noncomputable def DX12_passes_b53 (k16 : Nat → Int32 → Int32 → Int32 → Dm Unit) (k53 : Nat → Int32 → Int32 → Int32 → Int32 → Int32 → Dm Unit) (l0 : Nat) (l1 : Int32) (l2 : Int32) (l3 : Int32) (l4 : Int32) (l5 : Int32) : Dm Unit :=
  (if l5 < 0 then ((if 0 ≤ l4 then (dbind (dread (gfR l0 12 16)) fun x3 => dbind (dread (aald x3 l4)) fun x4 => dbind (dput (iast x4 6 1)) fun _ => dbind (dread (gfR l0 12 16)) fun x6 => dbind (dread (aald x6 l4)) fun x7 => dbind (dput (iast x7 7 (15 * l3))) fun _ => dbind (dread (isC l0 12)) fun x9 => dbind (DX12_notes l0 0 l4 (15 * l3) l1) fun _ => DX12_passes_b192 k16 l0 l1 l2 l3) else (DX12_passes_b192 k16 l0 l1 l2 l3))) else (dbind (dread (isC l0 12)) fun x11 => dbind (DX12_is l0 l5 l3 0) fun x12 => (if x12 = 0 then (DX12_passes_b141 k53 l0 l1 l2 l3 l4 l5) else (dbind (dread (isC l0 12)) fun x14 => dbind (DX12_call l0 l5) fun x15 => (if x15 = 0 then (DX12_passes_b141 k53 l0 l1 l2 l3 l4 l5) else ((if l4 < 0 then (DX12_passes_b137 k53 l0 l1 l2 l3 l5) else (dbind (dread (isC l0 12)) fun x18 => dbind (DX12_call l0 l5) fun x19 => dbind (dread (isC l0 12)) fun x20 => dbind (DX12_call l0 l4) fun x21 => (if x21 < x19 then (DX12_passes_b137 k53 l0 l1 l2 l3 l5) else (dbind (dread (isC l0 12)) fun x23 => dbind (DX12_call l0 l5) fun x24 => dbind (dread (isC l0 12)) fun x25 => dbind (DX12_call l0 l4) fun x26 => (if x24 = x26 then (dbind (dread (gfR l0 12 16)) fun x28 => dbind (dread (aald x28 l5)) fun x29 => dbind (dread (iald x29 1)) fun x30 => dbind (dread (gfR l0 12 16)) fun x31 => dbind (dread (aald x31 l4)) fun x32 => dbind (dread (iald x32 1)) fun x33 => (if x30 < x33 then (DX12_passes_b141 k53 l0 l1 l2 l3 l4 l5) else (DX12_passes_b137 k53 l0 l1 l2 l3 l5))) else (DX12_passes_b141 k53 l0 l1 l2 l3 l4 l5))))))))))))
theorem bDX12_passes_53 {G : Gt} {X : Xt} {w' : Wd} {v : Unit} (hX : CxOk G X cX12_passes 9 RX12 (none, w'.1, w'.2.1, w'.2.2) 5) (hR : CxRet G X none (none, w'.1, w'.2.1, w'.2.2)) {k16 : Nat → Int32 → Int32 → Int32 → Dm Unit} (hk16 : ∀ (l0 : Nat) (l1 : Int32) (l2 : Int32) (l3 : Int32) (w : Wd), (k16 l0 l1 l2 l3).1 w = some (v, w') → WM G X 16 [(0, .ref l0), (1, .int l1), (2, .int l2), (3, .int l3)] [] w.1 w.2.1 w.2.2) {k53 : Nat → Int32 → Int32 → Int32 → Int32 → Int32 → Dm Unit} (hk53 : ∀ (l0 : Nat) (l1 : Int32) (l2 : Int32) (l3 : Int32) (l4 : Int32) (l5 : Int32) (w : Wd), (k53 l0 l1 l2 l3 l4 l5).1 w = some (v, w') → WM G X 53 [(0, .ref l0), (1, .int l1), (2, .int l2), (3, .int l3), (4, .int l4), (5, .int l5)] [] w.1 w.2.1 w.2.2) (l0 : Nat) (l1 : Int32) (l2 : Int32) (l3 : Int32) (l4 : Int32) (l5 : Int32) (w : Wd) (h : (DX12_passes_b53 k16 k53 l0 l1 l2 l3 l4 l5).1 w = some (v, w')) : WM G X 53 [(0, .ref l0), (1, .int l1), (2, .int l2), (3, .int l3), (4, .int l4), (5, .int l5)] [] w.1 w.2.1 w.2.2 := by
  unfold DX12_passes_b53 at h
  refine w_iload 5 53 hX rfl dX12_passes_53 ?_
  refine w_if_lt (tgt := 147) 55 hX dX12_passes_55 (by decide) (fun c1 => ?_) (fun c1 => ?_)
  · have h := dit h c1
    refine w_iload 4 147 hX rfl dX12_passes_147 ?_
    refine w_if_ge (tgt := 155) 149 hX dX12_passes_149 (by decide) (fun c2 => ?_) (fun c2 => ?_)
    · have h := dit h c2
      refine w_aload_n 0 155 hX rfl rfl dX12_passes_155 ?_
      obtain ⟨x3, gx3, h⟩ := d_rd h
      refine x_getR 156 hX CI_12 gx3 rfl fl_X12_30 rfl dX12_passes_156 ?_
      refine w_iload 4 159 hX rfl dX12_passes_159 ?_
      obtain ⟨x4, gx4, h⟩ := d_rd h
      refine x_aald 161 hX gx4 dX12_passes_161 ?_
      refine w_bipush 6 162 hX ib_6 dX12_passes_162 ?_
      refine w_iconst 1 164 hX ic_1 dX12_passes_164 ?_
      obtain ⟨x5, wx5, gx5, h⟩ := d_bind h
      refine x_iast 165 hX gx5 dX12_passes_165 ?_
      refine w_aload_n 0 166 hX rfl rfl dX12_passes_166 ?_
      obtain ⟨x6, gx6, h⟩ := d_rd h
      refine x_getR 167 hX CI_12 gx6 rfl fl_X12_30 rfl dX12_passes_167 ?_
      refine w_iload 4 170 hX rfl dX12_passes_170 ?_
      obtain ⟨x7, gx7, h⟩ := d_rd h
      refine x_aald 172 hX gx7 dX12_passes_172 ?_
      refine w_bipush 7 173 hX ib_7 dX12_passes_173 ?_
      refine w_bipush 15 175 hX ib_15 dX12_passes_175 ?_
      refine w_iload_n 3 177 hX rfl rfl dX12_passes_177 ?_
      refine w_imul 178 hX dX12_passes_178 ?_
      obtain ⟨x8, wx8, gx8, h⟩ := d_bind h
      refine x_iast 179 hX gx8 dX12_passes_179 ?_
      refine w_aload_n 0 180 hX rfl rfl dX12_passes_180 ?_
      refine w_iconst 0 181 hX ic_0 dX12_passes_181 ?_
      refine w_iload 4 182 hX rfl dX12_passes_182 ?_
      refine w_bipush 15 184 hX ib_15 dX12_passes_184 ?_
      refine w_iload_n 3 186 hX rfl rfl dX12_passes_186 ?_
      refine w_imul 187 hX dX12_passes_187 ?_
      refine w_iload_n 1 188 hX rfl rfl dX12_passes_188 ?_
      obtain ⟨x9, gx9, h⟩ := d_rd h
      obtain ⟨x10, wx10, gx10, h⟩ := d_bind h
      refine w_invVv (av := [.int 0, .int l4, .int (15 * l3), .int l1]) (st := []) 189 hX CI_12 (isC_ok gx9) rfl mv_yX12_notes mi_yX12_notes ml_X12_103 (CDX12_notes l0 0 l4 (15 * l3) l1 gx10) rfl (by decide) (Nat.le_of_ble_eq_true rfl) (d_le h).1 (d_le h).2 dX12_passes_189 ?_
      exact w_sub [0, 1, 2, 3] rfl (bDX12_passes_192 hX hR hk16 l0 l1 l2 l3 _ h)
    · have h := die h c2
      refine w_goto (tgt := 192) 152 hX (by decide) dX12_passes_152 ?_
      exact w_sub [0, 1, 2, 3] rfl (bDX12_passes_192 hX hR hk16 l0 l1 l2 l3 _ h)
  · have h := die h c1
    refine w_aload_n 0 58 hX rfl rfl dX12_passes_58 ?_
    refine w_iload 5 59 hX rfl dX12_passes_59 ?_
    refine w_iload_n 3 61 hX rfl rfl dX12_passes_61 ?_
    refine w_iconst 0 62 hX ic_0 dX12_passes_62 ?_
    obtain ⟨x11, gx11, h⟩ := d_rd h
    obtain ⟨x12, wx12, gx12, h⟩ := d_bind h
    refine w_invVi (av := [.int l5, .int l3, .int 0]) (st := []) 63 hX CI_12 (isC_ok gx11) rfl mv_yX12_is mi_yX12_is ml_X12_93 (CDX12_is l0 l5 l3 0 gx12) rfl (by decide) (Nat.le_of_ble_eq_true rfl) (d_le h).1 (d_le h).2 dX12_passes_63 ?_
    refine w_if_eq (tgt := 141) 66 hX dX12_passes_66 (by decide) (fun c13 => ?_) (fun c13 => ?_)
    · have h := dit h c13
      exact bDX12_passes_141 hX hR hk53 l0 l1 l2 l3 l4 l5 _ h
    · have h := die h c13
      refine w_aload_n 0 69 hX rfl rfl dX12_passes_69 ?_
      refine w_iload 5 70 hX rfl dX12_passes_70 ?_
      obtain ⟨x14, gx14, h⟩ := d_rd h
      obtain ⟨x15, wx15, gx15, h⟩ := d_bind h
      refine w_invVi (av := [.int l5]) (st := []) 72 hX CI_12 (isC_ok gx14) rfl mv_yX12_call mi_yX12_call ml_X12_100 (CDX12_call l0 l5 gx15) rfl (by decide) (Nat.le_of_ble_eq_true rfl) (d_le h).1 (d_le h).2 dX12_passes_72 ?_
      refine w_if_ne (tgt := 81) 75 hX dX12_passes_75 (by decide) (fun c16 => ?_) (fun c16 => ?_)
      · have h := die h c16
        refine w_iload 4 81 hX rfl dX12_passes_81 ?_
        refine w_if_lt (tgt := 137) 83 hX dX12_passes_83 (by decide) (fun c17 => ?_) (fun c17 => ?_)
        · have h := dit h c17
          exact w_sub [0, 1, 2, 3, 5] rfl (bDX12_passes_137 hX hR hk53 l0 l1 l2 l3 l5 _ h)
        · have h := die h c17
          refine w_aload_n 0 86 hX rfl rfl dX12_passes_86 ?_
          refine w_iload 5 87 hX rfl dX12_passes_87 ?_
          obtain ⟨x18, gx18, h⟩ := d_rd h
          obtain ⟨x19, wx19, gx19, h⟩ := d_bind h
          refine w_invVi (av := [.int l5]) (st := []) 89 hX CI_12 (isC_ok gx18) rfl mv_yX12_call mi_yX12_call ml_X12_100 (CDX12_call l0 l5 gx19) rfl (by decide) (Nat.le_of_ble_eq_true rfl) (d_le h).1 (d_le h).2 dX12_passes_89 ?_
          refine w_aload_n 0 92 hX rfl rfl dX12_passes_92 ?_
          refine w_iload 4 93 hX rfl dX12_passes_93 ?_
          obtain ⟨x20, gx20, h⟩ := d_rd h
          obtain ⟨x21, wx21, gx21, h⟩ := d_bind h
          refine w_invVi (av := [.int l4]) (st := [.int x19]) 95 hX CI_12 (isC_ok gx20) rfl mv_yX12_call mi_yX12_call ml_X12_100 (CDX12_call l0 l4 gx21) rfl (by decide) (Nat.le_of_ble_eq_true rfl) (d_le h).1 (d_le h).2 dX12_passes_95 ?_
          refine w_icmp_gt (tgt := 137) 98 hX dX12_passes_98 (by decide) (fun c22 => ?_) (fun c22 => ?_)
          · have h := dit h c22
            exact w_sub [0, 1, 2, 3, 5] rfl (bDX12_passes_137 hX hR hk53 l0 l1 l2 l3 l5 _ h)
          · have h := die h c22
            refine w_aload_n 0 101 hX rfl rfl dX12_passes_101 ?_
            refine w_iload 5 102 hX rfl dX12_passes_102 ?_
            obtain ⟨x23, gx23, h⟩ := d_rd h
            obtain ⟨x24, wx24, gx24, h⟩ := d_bind h
            refine w_invVi (av := [.int l5]) (st := []) 104 hX CI_12 (isC_ok gx23) rfl mv_yX12_call mi_yX12_call ml_X12_100 (CDX12_call l0 l5 gx24) rfl (by decide) (Nat.le_of_ble_eq_true rfl) (d_le h).1 (d_le h).2 dX12_passes_104 ?_
            refine w_aload_n 0 107 hX rfl rfl dX12_passes_107 ?_
            refine w_iload 4 108 hX rfl dX12_passes_108 ?_
            obtain ⟨x25, gx25, h⟩ := d_rd h
            obtain ⟨x26, wx26, gx26, h⟩ := d_bind h
            refine w_invVi (av := [.int l4]) (st := [.int x24]) 110 hX CI_12 (isC_ok gx25) rfl mv_yX12_call mi_yX12_call ml_X12_100 (CDX12_call l0 l4 gx26) rfl (by decide) (Nat.le_of_ble_eq_true rfl) (d_le h).1 (d_le h).2 dX12_passes_110 ?_
            refine w_icmp_ne (tgt := 141) 113 hX dX12_passes_113 (by decide) (fun c27 => ?_) (fun c27 => ?_)
            · have h := die h c27
              exact bDX12_passes_141 hX hR hk53 l0 l1 l2 l3 l4 l5 _ h
            · have h := dit h c27
              refine w_aload_n 0 116 hX rfl rfl dX12_passes_116 ?_
              obtain ⟨x28, gx28, h⟩ := d_rd h
              refine x_getR 117 hX CI_12 gx28 rfl fl_X12_30 rfl dX12_passes_117 ?_
              refine w_iload 5 120 hX rfl dX12_passes_120 ?_
              obtain ⟨x29, gx29, h⟩ := d_rd h
              refine x_aald 122 hX gx29 dX12_passes_122 ?_
              refine w_iconst 1 123 hX ic_1 dX12_passes_123 ?_
              obtain ⟨x30, gx30, h⟩ := d_rd h
              refine x_iald 124 hX gx30 dX12_passes_124 ?_
              refine w_aload_n 0 125 hX rfl rfl dX12_passes_125 ?_
              obtain ⟨x31, gx31, h⟩ := d_rd h
              refine x_getR 126 hX CI_12 gx31 rfl fl_X12_30 rfl dX12_passes_126 ?_
              refine w_iload 4 129 hX rfl dX12_passes_129 ?_
              obtain ⟨x32, gx32, h⟩ := d_rd h
              refine x_aald 131 hX gx32 dX12_passes_131 ?_
              refine w_iconst 1 132 hX ic_1 dX12_passes_132 ?_
              obtain ⟨x33, gx33, h⟩ := d_rd h
              refine x_iald 133 hX gx33 dX12_passes_133 ?_
              refine w_icmp_lt (tgt := 141) 134 hX dX12_passes_134 (by decide) (fun c34 => ?_) (fun c34 => ?_)
              · have h := dit h c34
                exact bDX12_passes_141 hX hR hk53 l0 l1 l2 l3 l4 l5 _ h
              · have h := die h c34
                exact w_sub [0, 1, 2, 3, 5] rfl (bDX12_passes_137 hX hR hk53 l0 l1 l2 l3 l5 _ h)
      · have h := dit h c16
        refine w_goto (tgt := 141) 78 hX (by decide) dX12_passes_78 ?_
        exact bDX12_passes_141 hX hR hk53 l0 l1 l2 l3 l4 l5 _ h
noncomputable def DX12_passes_L53 (k16 : Nat → Int32 → Int32 → Int32 → Dm Unit) : Nat → Nat → Int32 → Int32 → Int32 → Int32 → Int32 → Dm Unit
  | 0, _, _, _, _, _, _ => dno
  | n + 1, l0, l1, l2, l3, l4, l5 => DX12_passes_b53 k16 (DX12_passes_L53 k16 n) l0 l1 l2 l3 l4 l5
theorem lDX12_passes_53 {G : Gt} {X : Xt} {w' : Wd} {v : Unit} (hX : CxOk G X cX12_passes 9 RX12 (none, w'.1, w'.2.1, w'.2.2) 5) (hR : CxRet G X none (none, w'.1, w'.2.1, w'.2.2)) {k16 : Nat → Int32 → Int32 → Int32 → Dm Unit} (hk16 : ∀ (l0 : Nat) (l1 : Int32) (l2 : Int32) (l3 : Int32) (w : Wd), (k16 l0 l1 l2 l3).1 w = some (v, w') → WM G X 16 [(0, .ref l0), (1, .int l1), (2, .int l2), (3, .int l3)] [] w.1 w.2.1 w.2.2) : ∀ (n : Nat) (l0 : Nat) (l1 : Int32) (l2 : Int32) (l3 : Int32) (l4 : Int32) (l5 : Int32) (w : Wd), (DX12_passes_L53 k16 n l0 l1 l2 l3 l4 l5).1 w = some (v, w') → WM G X 53 [(0, .ref l0), (1, .int l1), (2, .int l2), (3, .int l3), (4, .int l4), (5, .int l5)] [] w.1 w.2.1 w.2.2 := by
  intro n
  induction n with
  | zero =>
    intro l0 l1 l2 l3 l4 l5 w h
    exact dn_ h
  | succ n ih =>
    intro l0 l1 l2 l3 l4 l5 w h
    exact bDX12_passes_53 hX hR hk16 ih l0 l1 l2 l3 l4 l5 w h
noncomputable def DX12_passes_b16 (k16 : Nat → Int32 → Int32 → Int32 → Dm Unit) (l0 : Nat) (l1 : Int32) (l2 : Int32) (l3 : Int32) : Dm Unit :=
  (if 2 ≤ l3 then (DX12_passes_b198 l0 l1 l2) else ((if l2 = 0 then (DX12_passes_b198 l0 l1 l2) else (dbind (dread (isC l0 12)) fun x3 => dbind (DX12_field l0 l3) fun x4 => dbind (dread (gfR l0 12 13)) fun x5 => dbind (dread (iald x5 l3)) fun x6 => (if x4 < x6 then (dbind (dread (gfI l0 12 6)) fun x8 => DX12_passes_L53 k16 FU l0 l1 l2 l3 (-1) (x8 - 1)) else (DX12_passes_b192 k16 l0 l1 l2 l3))))))
theorem bDX12_passes_16 {G : Gt} {X : Xt} {w' : Wd} {v : Unit} (hX : CxOk G X cX12_passes 9 RX12 (none, w'.1, w'.2.1, w'.2.2) 5) (hR : CxRet G X none (none, w'.1, w'.2.1, w'.2.2)) {k16 : Nat → Int32 → Int32 → Int32 → Dm Unit} (hk16 : ∀ (l0 : Nat) (l1 : Int32) (l2 : Int32) (l3 : Int32) (w : Wd), (k16 l0 l1 l2 l3).1 w = some (v, w') → WM G X 16 [(0, .ref l0), (1, .int l1), (2, .int l2), (3, .int l3)] [] w.1 w.2.1 w.2.2) (l0 : Nat) (l1 : Int32) (l2 : Int32) (l3 : Int32) (w : Wd) (h : (DX12_passes_b16 k16 l0 l1 l2 l3).1 w = some (v, w')) : WM G X 16 [(0, .ref l0), (1, .int l1), (2, .int l2), (3, .int l3)] [] w.1 w.2.1 w.2.2 := by
  unfold DX12_passes_b16 at h
  refine w_iload_n 3 16 hX rfl rfl dX12_passes_16 ?_
  refine w_iconst 2 17 hX ic_2 dX12_passes_17 ?_
  refine w_icmp_ge (tgt := 198) 18 hX dX12_passes_18 (by decide) (fun c1 => ?_) (fun c1 => ?_)
  · have h := dit h c1
    exact w_sub [0, 1, 2] rfl (bDX12_passes_198 hX hR l0 l1 l2 _ h)
  · have h := die h c1
    refine w_iload_n 2 21 hX rfl rfl dX12_passes_21 ?_
    refine w_if_eq (tgt := 198) 22 hX dX12_passes_22 (by decide) (fun c2 => ?_) (fun c2 => ?_)
    · have h := dit h c2
      exact w_sub [0, 1, 2] rfl (bDX12_passes_198 hX hR l0 l1 l2 _ h)
    · have h := die h c2
      refine w_aload_n 0 25 hX rfl rfl dX12_passes_25 ?_
      refine w_iload_n 3 26 hX rfl rfl dX12_passes_26 ?_
      obtain ⟨x3, gx3, h⟩ := d_rd h
      obtain ⟨x4, wx4, gx4, h⟩ := d_bind h
      refine w_invVi (av := [.int l3]) (st := []) 27 hX CI_12 (isC_ok gx3) rfl mv_yX12_field mi_yX12_field ml_X12_97 (CDX12_field l0 l3 gx4) rfl (by decide) (Nat.le_of_ble_eq_true rfl) (d_le h).1 (d_le h).2 dX12_passes_27 ?_
      refine w_aload_n 0 30 hX rfl rfl dX12_passes_30 ?_
      obtain ⟨x5, gx5, h⟩ := d_rd h
      refine x_getR 31 hX CI_12 gx5 rfl fl_X12_19 rfl dX12_passes_31 ?_
      refine w_iload_n 3 34 hX rfl rfl dX12_passes_34 ?_
      obtain ⟨x6, gx6, h⟩ := d_rd h
      refine x_iald 35 hX gx6 dX12_passes_35 ?_
      refine w_icmp_lt (tgt := 42) 36 hX dX12_passes_36 (by decide) (fun c7 => ?_) (fun c7 => ?_)
      · have h := dit h c7
        refine w_iconst (-1) 42 hX ic_m1 dX12_passes_42 ?_
        refine w_istore (lv' := [(4, .int (-1)), (0, .ref l0), (1, .int l1), (2, .int l2), (3, .int l3)]) 43 hX dX12_passes_43 (by decide) rfl ?_
        refine w_aload_n 1 45 hX rfl rfl dX12_passes_45 ?_
        obtain ⟨x8, gx8, h⟩ := d_rd h
        refine x_getI 46 hX CI_12 gx8 rfl fl_X12_50 rfl dX12_passes_46 ?_
        refine w_iconst 1 49 hX ic_1 dX12_passes_49 ?_
        refine w_isub 50 hX dX12_passes_50 ?_
        refine w_istore (lv' := [(5, .int (x8 - 1)), (4, .int (-1)), (0, .ref l0), (1, .int l1), (2, .int l2), (3, .int l3)]) 51 hX dX12_passes_51 (by decide) rfl ?_
        exact w_sub [2, 3, 4, 5, 1, 0] rfl (lDX12_passes_53 hX hR hk16 FU l0 l1 l2 l3 (-1) (x8 - 1) _ h)
      · have h := die h c7
        refine w_goto (tgt := 192) 39 hX (by decide) dX12_passes_39 ?_
        exact bDX12_passes_192 hX hR hk16 l0 l1 l2 l3 _ h
noncomputable def DX12_passes_L16 : Nat → Nat → Int32 → Int32 → Int32 → Dm Unit
  | 0, _, _, _, _ => dno
  | n + 1, l0, l1, l2, l3 => DX12_passes_b16 (DX12_passes_L16 n) l0 l1 l2 l3
theorem lDX12_passes_16 {G : Gt} {X : Xt} {w' : Wd} {v : Unit} (hX : CxOk G X cX12_passes 9 RX12 (none, w'.1, w'.2.1, w'.2.2) 5) (hR : CxRet G X none (none, w'.1, w'.2.1, w'.2.2)) : ∀ (n : Nat) (l0 : Nat) (l1 : Int32) (l2 : Int32) (l3 : Int32) (w : Wd), (DX12_passes_L16 n l0 l1 l2 l3).1 w = some (v, w') → WM G X 16 [(0, .ref l0), (1, .int l1), (2, .int l2), (3, .int l3)] [] w.1 w.2.1 w.2.2 := by
  intro n
  induction n with
  | zero =>
    intro l0 l1 l2 l3 w h
    exact dn_ h
  | succ n ih =>
    intro l0 l1 l2 l3 w h
    exact bDX12_passes_16 hX hR ih l0 l1 l2 l3 w h
noncomputable def DX12_passes_b13 (l0 : Nat) (l1 : Int32) (t0 : Int32) : Dm Unit :=
  DX12_passes_L16 FU l0 l1 t0 0
theorem bDX12_passes_13 {G : Gt} {X : Xt} {w' : Wd} {v : Unit} (hX : CxOk G X cX12_passes 9 RX12 (none, w'.1, w'.2.1, w'.2.2) 5) (hR : CxRet G X none (none, w'.1, w'.2.1, w'.2.2)) (l0 : Nat) (l1 : Int32) (t0 : Int32) (w : Wd) (h : (DX12_passes_b13 l0 l1 t0).1 w = some (v, w')) : WM G X 13 [(0, .ref l0), (1, .int l1)] [.int t0] w.1 w.2.1 w.2.2 := by
  unfold DX12_passes_b13 at h
  refine w_istore_n (lv' := [(2, .int t0), (0, .ref l0), (1, .int l1)]) 13 hX rfl dX12_passes_13 (by decide) rfl ?_
  refine w_iconst 0 14 hX ic_0 dX12_passes_14 ?_
  refine w_istore_n (lv' := [(3, .int 0), (2, .int t0), (0, .ref l0), (1, .int l1)]) 15 hX rfl dX12_passes_15 (by decide) rfl ?_
  exact w_sub [2, 3, 1, 0] rfl (lDX12_passes_16 hX hR FU l0 l1 t0 0 _ h)
noncomputable def DX12_passes (p0 : Nat) (p1 : Int32) : Dm Unit :=
  dbind (dread (gfI p0 12 2)) fun x1 => (if x1 = 1 then (DX12_passes_b13 p0 p1 1) else (DX12_passes_b13 p0 p1 0))
theorem CDX12_passes {G : Gt} (p0 : Nat) (p1 : Int32) {w w' : Wd} {v : Unit} (h : (DX12_passes p0 p1).1 w = some (v, w')) : CN G yX12_passes cX12_passes 9 none 5 [.ref p0, .int p1] w (none) w' :=
  cn_of (by decide) rfl (Nat.le_of_ble_eq_true rfl) (d_le h) (fun X hX _ hR => by
  unfold DX12_passes at h
  refine w_aload_n 0 0 hX rfl rfl dX12_passes_0 ?_
  obtain ⟨x1, gx1, h⟩ := d_rd h
  refine x_getI 1 hX CI_12 gx1 rfl fl_X12_7 rfl dX12_passes_1 ?_
  refine w_iconst 1 4 hX ic_1 dX12_passes_4 ?_
  refine w_icmp_ne (tgt := 12) 5 hX dX12_passes_5 (by decide) (fun c2 => ?_) (fun c2 => ?_)
  · have h := die h c2
    refine w_iconst 0 12 hX ic_0 dX12_passes_12 ?_
    exact bDX12_passes_13 hX hR p0 p1 0 _ h
  · have h := dit h c2
    refine w_iconst 1 8 hX ic_1 dX12_passes_8 ?_
    refine w_goto (tgt := 13) 9 hX (by decide) dX12_passes_9 ?_
    exact bDX12_passes_13 hX hR p0 p1 1 _ h)
