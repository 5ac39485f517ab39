def LwR (G : Gt) (X : Xt) (v : Int32) (w' : Wd) : Prop := ∀ (pc : Nat) (lv : List (Nat × Value)), decode cL_law pc = .ok (.ireturn, 1) → WM G X pc lv [.int v] w'.1 w'.2.1 w'.2.2
noncomputable def DL_law_b1132 (sl : Nat) (sv : Nat → Int32) (k41 : Nat → Nat → Int32 → Int32 → Dm Int32) (l2 : Nat) (l3 : Nat) (l4 : Int32) (l5 : Int32) : Dm Int32 :=
  dbind (dclR (fun u => FX11_look_0 14 u)) fun x1 => (if x1 = l4 then (dbind (dread (isC l2 12)) fun x3 => dbind (DX12_isSame l2) fun x4 => (if x4 = 0 then (dret 0) else (k41 l2 l3 l4 (l5 + 1)))) else (dret 0))
theorem bDL_law_1132 {G : Gt} {X : Xt} {w' : Wd} {v : Int32} (hX : CxOk G X cL_law 17 RL (some (.int v), w'.1, w'.2.1, w'.2.2) 1000) (hR : LwR G X v w') {k41 : Nat → Nat → Int32 → Int32 → Dm Int32} (hk41 : ∀ (l2 : Nat) (l3 : Nat) (l4 : Int32) (l5 : Int32) (w : Wd), (k41 l2 l3 l4 l5).1 w = some (v, w') → WM G X 41 [(0, .ref 1999999), (1, .ref 0), (2, .ref l2), (3, .ref l3), (4, .int l4), (5, .int l5)] [] w.1 w.2.1 w.2.2) (l2 : Nat) (l3 : Nat) (l4 : Int32) (l5 : Int32) (w : Wd) (h : (DL_law_b1132 (gS G).2.1 (gS G).2.2 k41 l2 l3 l4 l5).1 w = some (v, w')) : WM G X 1132 [(0, .ref 1999999), (1, .ref 0), (2, .ref l2), (3, .ref l3), (4, .int l4), (5, .int l5)] [] w.1 w.2.1 w.2.2 := by
  unfold DL_law_b1132 at h
  refine w_aload_n 1 1132 hX rfl rfl dL_law_1132 ?_
  refine w_bipush 14 1133 hX ib_14 dL_law_1133 ?_
  obtain ⟨x1, wx1, gx1, h⟩ := d_bind h
  refine w_invVi (av := [.int 14]) (st := []) 1135 hX CI_11 (oks_0 (dcl_ok gx1).1) rfl mv_yX11_look mi_yX11_look ml_L_206 (cs_R (fun G g => CX11_look_0 (G := G) 14 _ g) gx1) rfl (by decide) (Nat.le_of_ble_eq_true rfl) (d_le h).1 (d_le h).2 dL_law_1135 ?_
  refine w_iload 4 1138 hX rfl dL_law_1138 ?_
  refine w_icmp_ne (tgt := 1151) 1140 hX dL_law_1140 (by decide) (fun c2 => ?_) (fun c2 => ?_)
  · have h := die h c2
    refine w_iconst 0 1151 hX ic_0 dL_law_1151 ?_
    obtain ⟨rfl, rfl⟩ := d_ret h
    exact hR 1152 _ dL_law_1152
  · have h := dit h c2
    refine w_aload_n 2 1143 hX rfl rfl dL_law_1143 ?_
    refine w_aload_n 1 1144 hX rfl rfl dL_law_1144 ?_
    obtain ⟨x3, gx3, h⟩ := d_rd h
    obtain ⟨x4, wx4, gx4, h⟩ := d_bind h
    refine w_invVi (av := [.ref 0]) (st := []) 1145 hX CI_12 (isC_ok gx3) rfl mv_yX12_isSame mi_yX12_isSame ml_L_182 (CDX12_isSame l2 gx4) rfl (by decide) (Nat.le_of_ble_eq_true rfl) (d_le h).1 (d_le h).2 dL_law_1145 ?_
    refine w_if_ne (tgt := 1153) 1148 hX dL_law_1148 (by decide) (fun c5 => ?_) (fun c5 => ?_)
    · have h := die h c5
      refine w_iinc (lv' := [(5, .int (l5 + 1)), (0, .ref 1999999), (1, .ref 0), (2, .ref l2), (3, .ref l3), (4, .int l4)]) 1153 5 hX dL_law_1153 rfl (inc_1 _) (by decide) rfl ?_
      refine w_goto (tgt := 41) 1156 hX (by decide) dL_law_1156 ?_
      exact w_sub [1, 2, 3, 4, 5, 0] rfl (hk41 l2 l3 l4 (l5 + 1) _ h)
    · have h := dit h c5
      refine w_iconst 0 1151 hX ic_0 dL_law_1151 ?_
      obtain ⟨rfl, rfl⟩ := d_ret h
      exact hR 1152 _ dL_law_1152
noncomputable def DL_law_b1123 (sl : Nat) (sv : Nat → Int32) (k41 : Nat → Nat → Int32 → Int32 → Dm Int32) (l2 : Nat) (l3 : Nat) (l4 : Int32) (l5 : Int32) (l10 : Nat) : Dm Int32 :=
  dbind (dput (aast l3 l4 l10)) fun _ => DL_law_b1132 sl sv k41 l2 l3 (l4 + 1) l5
theorem bDL_law_1123 {G : Gt} {X : Xt} {w' : Wd} {v : Int32} (hX : CxOk G X cL_law 17 RL (some (.int v), w'.1, w'.2.1, w'.2.2) 1000) (hR : LwR G X v w') {k41 : Nat → Nat → Int32 → Int32 → Dm Int32} (hk41 : ∀ (l2 : Nat) (l3 : Nat) (l4 : Int32) (l5 : Int32) (w : Wd), (k41 l2 l3 l4 l5).1 w = some (v, w') → WM G X 41 [(0, .ref 1999999), (1, .ref 0), (2, .ref l2), (3, .ref l3), (4, .int l4), (5, .int l5)] [] w.1 w.2.1 w.2.2) (l2 : Nat) (l3 : Nat) (l4 : Int32) (l5 : Int32) (l10 : Nat) (w : Wd) (h : (DL_law_b1123 (gS G).2.1 (gS G).2.2 k41 l2 l3 l4 l5 l10).1 w = some (v, w')) : WM G X 1123 [(0, .ref 1999999), (1, .ref 0), (2, .ref l2), (3, .ref l3), (4, .int l4), (5, .int l5), (10, .ref l10)] [] w.1 w.2.1 w.2.2 := by
  unfold DL_law_b1123 at h
  refine w_aload_n 3 1123 hX rfl rfl dL_law_1123 ?_
  refine w_iload 4 1124 hX rfl dL_law_1124 ?_
  refine w_iinc (lv' := [(4, .int (l4 + 1)), (0, .ref 1999999), (1, .ref 0), (2, .ref l2), (3, .ref l3), (5, .int l5), (10, .ref l10)]) 1126 4 hX dL_law_1126 rfl (inc_1 _) (by decide) rfl ?_
  refine w_aload 6 1129 hX rfl dL_law_1129 ?_
  obtain ⟨x1, wx1, gx1, h⟩ := d_bind h
  refine x_aast 1131 hX gx1 dL_law_1131 ?_
  exact w_sub [1, 2, 3, 4, 0, 5] rfl (bDL_law_1132 hX hR hk41 l2 l3 (l4 + 1) l5 _ h)
noncomputable def DL_law_b1097 (sl : Nat) (sv : Nat → Int32) (k41 : Nat → Nat → Int32 → Int32 → Dm Int32) (k1097 : Nat → Nat → Int32 → Int32 → Nat → Int32 → Dm Int32) (l2 : Nat) (l3 : Nat) (l4 : Int32) (l5 : Int32) (l10 : Nat) (l12 : Int32) : Dm Int32 :=
  (if 6 ≤ l12 then (DL_law_b1123 sl sv k41 l2 l3 (l4 + (-1)) l5 l10) else (dbind (dread (aald l3 l12)) fun x2 => dbind (dput (aast l3 (l12 - 1) x2)) fun _ => k1097 l2 l3 l4 l5 l10 (l12 + 1)))
theorem bDL_law_1097 {G : Gt} {X : Xt} {w' : Wd} {v : Int32} (hX : CxOk G X cL_law 17 RL (some (.int v), w'.1, w'.2.1, w'.2.2) 1000) (hR : LwR G X v w') {k41 : Nat → Nat → Int32 → Int32 → Dm Int32} (hk41 : ∀ (l2 : Nat) (l3 : Nat) (l4 : Int32) (l5 : Int32) (w : Wd), (k41 l2 l3 l4 l5).1 w = some (v, w') → WM G X 41 [(0, .ref 1999999), (1, .ref 0), (2, .ref l2), (3, .ref l3), (4, .int l4), (5, .int l5)] [] w.1 w.2.1 w.2.2) {k1097 : Nat → Nat → Int32 → Int32 → Nat → Int32 → Dm Int32} (hk1097 : ∀ (l2 : Nat) (l3 : Nat) (l4 : Int32) (l5 : Int32) (l10 : Nat) (l12 : Int32) (w : Wd), (k1097 l2 l3 l4 l5 l10 l12).1 w = some (v, w') → WM G X 1097 [(0, .ref 1999999), (1, .ref 0), (2, .ref l2), (3, .ref l3), (4, .int l4), (5, .int l5), (10, .ref l10), (12, .int l12)] [] w.1 w.2.1 w.2.2) (l2 : Nat) (l3 : Nat) (l4 : Int32) (l5 : Int32) (l10 : Nat) (l12 : Int32) (w : Wd) (h : (DL_law_b1097 (gS G).2.1 (gS G).2.2 k41 k1097 l2 l3 l4 l5 l10 l12).1 w = some (v, w')) : WM G X 1097 [(0, .ref 1999999), (1, .ref 0), (2, .ref l2), (3, .ref l3), (4, .int l4), (5, .int l5), (10, .ref l10), (12, .int l12)] [] w.1 w.2.1 w.2.2 := by
  unfold DL_law_b1097 at h
  refine w_iload 7 1097 hX rfl dL_law_1097 ?_
  refine w_bipush 6 1099 hX ib_6 dL_law_1099 ?_
  refine w_icmp_ge (tgt := 1120) 1101 hX dL_law_1101 (by decide) (fun c1 => ?_) (fun c1 => ?_)
  · have h := dit h c1
    refine w_iinc (lv' := [(4, .int (l4 + (-1))), (0, .ref 1999999), (1, .ref 0), (2, .ref l2), (3, .ref l3), (5, .int l5), (10, .ref l10), (12, .int l12)]) 1120 4 hX dL_law_1120 rfl (inc_m1 _) (by decide) rfl ?_
    exact w_sub [1, 2, 3, 4, 0, 5, 6] rfl (bDL_law_1123 hX hR hk41 l2 l3 (l4 + (-1)) l5 l10 _ h)
  · have h := die h c1
    refine w_aload_n 3 1104 hX rfl rfl dL_law_1104 ?_
    refine w_iload 7 1105 hX rfl dL_law_1105 ?_
    refine w_iconst 1 1107 hX ic_1 dL_law_1107 ?_
    refine w_isub 1108 hX dL_law_1108 ?_
    refine w_aload_n 3 1109 hX rfl rfl dL_law_1109 ?_
    refine w_iload 7 1110 hX rfl dL_law_1110 ?_
    obtain ⟨x2, gx2, h⟩ := d_rd h
    refine x_aald 1112 hX gx2 dL_law_1112 ?_
    obtain ⟨x3, wx3, gx3, h⟩ := d_bind h
    refine x_aast 1113 hX gx3 dL_law_1113 ?_
    refine w_iinc (lv' := [(12, .int (l12 + 1)), (0, .ref 1999999), (1, .ref 0), (2, .ref l2), (3, .ref l3), (4, .int l4), (5, .int l5), (10, .ref l10)]) 1114 7 hX dL_law_1114 rfl (inc_1 _) (by decide) rfl ?_
    refine w_goto (tgt := 1097) 1117 hX (by decide) dL_law_1117 ?_
    exact w_sub [1, 2, 3, 4, 5, 6, 7, 0] rfl (hk1097 l2 l3 l4 l5 l10 (l12 + 1) _ h)
noncomputable def DL_law_L1097 (sl : Nat) (sv : Nat → Int32) (k41 : Nat → Nat → Int32 → Int32 → Dm Int32) : Nat → Nat → Nat → Int32 → Int32 → Nat → Int32 → Dm Int32
  | 0, _, _, _, _, _, _ => dno
  | n + 1, l2, l3, l4, l5, l10, l12 => DL_law_b1097 sl sv k41 (DL_law_L1097 sl sv k41 n) l2 l3 l4 l5 l10 l12
theorem lDL_law_1097 {G : Gt} {X : Xt} {w' : Wd} {v : Int32} (hX : CxOk G X cL_law 17 RL (some (.int v), w'.1, w'.2.1, w'.2.2) 1000) (hR : LwR G X v w') {k41 : Nat → Nat → Int32 → Int32 → Dm Int32} (hk41 : ∀ (l2 : Nat) (l3 : Nat) (l4 : Int32) (l5 : Int32) (w : Wd), (k41 l2 l3 l4 l5).1 w = some (v, w') → WM G X 41 [(0, .ref 1999999), (1, .ref 0), (2, .ref l2), (3, .ref l3), (4, .int l4), (5, .int l5)] [] w.1 w.2.1 w.2.2) : ∀ (n : Nat) (l2 : Nat) (l3 : Nat) (l4 : Int32) (l5 : Int32) (l10 : Nat) (l12 : Int32) (w : Wd), (DL_law_L1097 (gS G).2.1 (gS G).2.2 k41 n l2 l3 l4 l5 l10 l12).1 w = some (v, w') → WM G X 1097 [(0, .ref 1999999), (1, .ref 0), (2, .ref l2), (3, .ref l3), (4, .int l4), (5, .int l5), (10, .ref l10), (12, .int l12)] [] w.1 w.2.1 w.2.2 := by
  intro n
  induction n with
  | zero =>
    intro l2 l3 l4 l5 l10 l12 w h
    exact dn_ h
  | succ n ih =>
    intro l2 l3 l4 l5 l10 l12 w h
    exact bDL_law_1097 hX hR hk41 ih l2 l3 l4 l5 l10 l12 w h
noncomputable def DL_law_b1082 (sl : Nat) (sv : Nat → Int32) (k41 : Nat → Nat → Int32 → Int32 → Dm Int32) (l2 : Nat) (l3 : Nat) (l4 : Int32) (l5 : Int32) (l10 : Nat) (l11 : Int32) : Dm Int32 :=
  (if l11 = 0 then (DL_law_b1132 sl sv k41 l2 l3 l4 l5) else ((if l4 = 6 then (DL_law_L1097 sl sv k41 FU l2 l3 l4 l5 l10 1) else (DL_law_b1123 sl sv k41 l2 l3 l4 l5 l10))))
theorem bDL_law_1082 {G : Gt} {X : Xt} {w' : Wd} {v : Int32} (hX : CxOk G X cL_law 17 RL (some (.int v), w'.1, w'.2.1, w'.2.2) 1000) (hR : LwR G X v w') {k41 : Nat → Nat → Int32 → Int32 → Dm Int32} (hk41 : ∀ (l2 : Nat) (l3 : Nat) (l4 : Int32) (l5 : Int32) (w : Wd), (k41 l2 l3 l4 l5).1 w = some (v, w') → WM G X 41 [(0, .ref 1999999), (1, .ref 0), (2, .ref l2), (3, .ref l3), (4, .int l4), (5, .int l5)] [] w.1 w.2.1 w.2.2) (l2 : Nat) (l3 : Nat) (l4 : Int32) (l5 : Int32) (l10 : Nat) (l11 : Int32) (w : Wd) (h : (DL_law_b1082 (gS G).2.1 (gS G).2.2 k41 l2 l3 l4 l5 l10 l11).1 w = some (v, w')) : WM G X 1082 [(0, .ref 1999999), (1, .ref 0), (2, .ref l2), (3, .ref l3), (4, .int l4), (5, .int l5), (10, .ref l10), (11, .int l11)] [] w.1 w.2.1 w.2.2 := by
  unfold DL_law_b1082 at h
  refine w_iload 7 1082 hX rfl dL_law_1082 ?_
  refine w_if_eq (tgt := 1132) 1084 hX dL_law_1084 (by decide) (fun c1 => ?_) (fun c1 => ?_)
  · have h := dit h c1
    exact w_sub [0, 1, 2, 3, 4, 5] rfl (bDL_law_1132 hX hR hk41 l2 l3 l4 l5 _ h)
  · have h := die h c1
    refine w_iload 4 1087 hX rfl dL_law_1087 ?_
    refine w_bipush 6 1089 hX ib_6 dL_law_1089 ?_
    refine w_icmp_ne (tgt := 1123) 1091 hX dL_law_1091 (by decide) (fun c2 => ?_) (fun c2 => ?_)
    · have h := die h c2
      exact w_sub [0, 1, 2, 3, 4, 5, 6] rfl (bDL_law_1123 hX hR hk41 l2 l3 l4 l5 l10 _ h)
    · have h := dit h c2
      refine w_iconst 1 1094 hX ic_1 dL_law_1094 ?_
      refine w_istore (lv' := [(12, .int 1), (0, .ref 1999999), (1, .ref 0), (2, .ref l2), (3, .ref l3), (4, .int l4), (5, .int l5), (10, .ref l10), (11, .int l11)]) 1095 hX dL_law_1095 (by decide) rfl ?_
      exact w_sub [1, 2, 3, 4, 5, 6, 7, 0] rfl (lDL_law_1097 hX hR hk41 FU l2 l3 l4 l5 l10 1 _ h)
noncomputable def DL_law_b1064 (sl : Nat) (sv : Nat → Int32) (k41 : Nat → Nat → Int32 → Int32 → Dm Int32) (l2 : Nat) (l3 : Nat) (l4 : Int32) (l5 : Int32) (l10 : Nat) (l11 : Int32) (t0 : Int32) (t1 : Int32) : Dm Int32 :=
  (if t0 = t1 then ((if l4 ≤ 0 then (DL_law_b1082 sl sv k41 l2 l3 l4 l5 l10 l11) else (dbind (dread (aald l3 (l4 + (-1)))) fun x3 => DL_law_b1082 sl sv k41 x3 l3 (l4 + (-1)) l5 l10 l11))) else (dret 0))
theorem bDL_law_1064 {G : Gt} {X : Xt} {w' : Wd} {v : Int32} (hX : CxOk G X cL_law 17 RL (some (.int v), w'.1, w'.2.1, w'.2.2) 1000) (hR : LwR G X v w') {k41 : Nat → Nat → Int32 → Int32 → Dm Int32} (hk41 : ∀ (l2 : Nat) (l3 : Nat) (l4 : Int32) (l5 : Int32) (w : Wd), (k41 l2 l3 l4 l5).1 w = some (v, w') → WM G X 41 [(0, .ref 1999999), (1, .ref 0), (2, .ref l2), (3, .ref l3), (4, .int l4), (5, .int l5)] [] w.1 w.2.1 w.2.2) (l2 : Nat) (l3 : Nat) (l4 : Int32) (l5 : Int32) (l10 : Nat) (l11 : Int32) (t0 : Int32) (t1 : Int32) (w : Wd) (h : (DL_law_b1064 (gS G).2.1 (gS G).2.2 k41 l2 l3 l4 l5 l10 l11 t0 t1).1 w = some (v, w')) : WM G X 1064 [(0, .ref 1999999), (1, .ref 0), (2, .ref l2), (3, .ref l3), (4, .int l4), (5, .int l5), (10, .ref l10), (11, .int l11)] [.int t1, .int t0] w.1 w.2.1 w.2.2 := by
  unfold DL_law_b1064 at h
  refine w_icmp_eq (tgt := 1069) 1064 hX dL_law_1064 (by decide) (fun c1 => ?_) (fun c1 => ?_)
  · have h := dit h c1
    refine w_iload 4 1069 hX rfl dL_law_1069 ?_
    refine w_if_le (tgt := 1082) 1071 hX dL_law_1071 (by decide) (fun c2 => ?_) (fun c2 => ?_)
    · have h := dit h c2
      exact bDL_law_1082 hX hR hk41 l2 l3 l4 l5 l10 l11 _ h
    · have h := die h c2
      refine w_aload_n 3 1074 hX rfl rfl dL_law_1074 ?_
      refine w_iinc (lv' := [(4, .int (l4 + (-1))), (0, .ref 1999999), (1, .ref 0), (2, .ref l2), (3, .ref l3), (5, .int l5), (10, .ref l10), (11, .int l11)]) 1075 4 hX dL_law_1075 rfl (inc_m1 _) (by decide) rfl ?_
      refine w_iload 0 1078 hX rfl dL_law_1078 ?_
      obtain ⟨x3, gx3, h⟩ := d_rd h
      refine x_aald 1080 hX gx3 dL_law_1080 ?_
      refine w_astore_n (lv' := [(2, .ref x3), (4, .int (l4 + (-1))), (0, .ref 1999999), (1, .ref 0), (3, .ref l3), (5, .int l5), (10, .ref l10), (11, .int l11)]) 1081 hX rfl dL_law_1081 (by decide) rfl ?_
      exact w_sub [2, 3, 0, 4, 1, 5, 6, 7] rfl (bDL_law_1082 hX hR hk41 x3 l3 (l4 + (-1)) l5 l10 l11 _ h)
  · have h := die h c1
    refine w_iconst 0 1067 hX ic_0 dL_law_1067 ?_
    obtain ⟨rfl, rfl⟩ := d_ret h
    exact hR 1068 _ dL_law_1068
noncomputable def DL_law_b1009 (sl : Nat) (sv : Nat → Int32) (k41 : Nat → Nat → Int32 → Int32 → Dm Int32) (l2 : Nat) (l3 : Nat) (l5 : Int32) (l10 : Nat) (l11 : Int32) : Dm Int32 :=
  DL_law_b1082 sl sv k41 l2 l3 0 l5 l10 l11
theorem bDL_law_1009 {G : Gt} {X : Xt} {w' : Wd} {v : Int32} (hX : CxOk G X cL_law 17 RL (some (.int v), w'.1, w'.2.1, w'.2.2) 1000) (hR : LwR G X v w') {k41 : Nat → Nat → Int32 → Int32 → Dm Int32} (hk41 : ∀ (l2 : Nat) (l3 : Nat) (l4 : Int32) (l5 : Int32) (w : Wd), (k41 l2 l3 l4 l5).1 w = some (v, w') → WM G X 41 [(0, .ref 1999999), (1, .ref 0), (2, .ref l2), (3, .ref l3), (4, .int l4), (5, .int l5)] [] w.1 w.2.1 w.2.2) (l2 : Nat) (l3 : Nat) (l5 : Int32) (l10 : Nat) (l11 : Int32) (w : Wd) (h : (DL_law_b1009 (gS G).2.1 (gS G).2.2 k41 l2 l3 l5 l10 l11).1 w = some (v, w')) : WM G X 1009 [(0, .ref 1999999), (1, .ref 0), (2, .ref l2), (3, .ref l3), (5, .int l5), (10, .ref l10), (11, .int l11)] [] w.1 w.2.1 w.2.2 := by
  unfold DL_law_b1009 at h
  refine w_iconst 0 1009 hX ic_0 dL_law_1009 ?_
  refine w_istore (lv' := [(4, .int 0), (0, .ref 1999999), (1, .ref 0), (2, .ref l2), (3, .ref l3), (5, .int l5), (10, .ref l10), (11, .int l11)]) 1010 hX dL_law_1010 (by decide) rfl ?_
  refine w_goto (tgt := 1082) 1012 hX (by decide) dL_law_1012 ?_
  exact w_sub [1, 2, 3, 4, 0, 5, 6, 7] rfl (bDL_law_1082 hX hR hk41 l2 l3 0 l5 l10 l11 _ h)
noncomputable def DL_law_b1006 (sl : Nat) (sv : Nat → Int32) (k41 : Nat → Nat → Int32 → Int32 → Dm Int32) (l2 : Nat) (l3 : Nat) (l5 : Int32) (l10 : Nat) (l11 : Int32) (l14 : Int32) (t0 : Nat) (t1 : Int32) : Dm Int32 :=
  dbind (dput (iast t0 t1 l14)) fun _ => DL_law_b1009 sl sv k41 l2 l3 l5 l10 l11
theorem bDL_law_1006 {G : Gt} {X : Xt} {w' : Wd} {v : Int32} (hX : CxOk G X cL_law 17 RL (some (.int v), w'.1, w'.2.1, w'.2.2) 1000) (hR : LwR G X v w') {k41 : Nat → Nat → Int32 → Int32 → Dm Int32} (hk41 : ∀ (l2 : Nat) (l3 : Nat) (l4 : Int32) (l5 : Int32) (w : Wd), (k41 l2 l3 l4 l5).1 w = some (v, w') → WM G X 41 [(0, .ref 1999999), (1, .ref 0), (2, .ref l2), (3, .ref l3), (4, .int l4), (5, .int l5)] [] w.1 w.2.1 w.2.2) (l2 : Nat) (l3 : Nat) (l5 : Int32) (l10 : Nat) (l11 : Int32) (l14 : Int32) (t0 : Nat) (t1 : Int32) (w : Wd) (h : (DL_law_b1006 (gS G).2.1 (gS G).2.2 k41 l2 l3 l5 l10 l11 l14 t0 t1).1 w = some (v, w')) : WM G X 1006 [(0, .ref 1999999), (1, .ref 0), (2, .ref l2), (3, .ref l3), (5, .int l5), (10, .ref l10), (11, .int l11), (14, .int l14)] [.int t1, .ref t0] w.1 w.2.1 w.2.2 := by
  unfold DL_law_b1006 at h
  refine w_iload 7 1006 hX rfl dL_law_1006 ?_
  obtain ⟨x1, wx1, gx1, h⟩ := d_bind h
  refine x_iast 1008 hX gx1 dL_law_1008 ?_
  exact w_sub [0, 1, 2, 3, 4, 5, 6] rfl (bDL_law_1009 hX hR hk41 l2 l3 l5 l10 l11 _ h)
noncomputable def DL_law_b982 (sl : Nat) (sv : Nat → Int32) (k41 : Nat → Nat → Int32 → Int32 → Dm Int32) (l2 : Nat) (l3 : Nat) (l5 : Int32) (l10 : Nat) (l11 : Int32) (l12 : Int32) (l13 : Int32) (l14 : Int32) : Dm Int32 :=
  (if l12 ≤ 4 then (DL_law_b1009 sl sv k41 l2 l3 l5 l10 l11) else (dbind (dread (gfR l2 12 16)) fun x2 => dbind (dread (aald x2 l13)) fun x3 => (if l12 = 5 then (DL_law_b1006 sl sv k41 l2 l3 l5 l10 l11 l14 x3 3) else (DL_law_b1006 sl sv k41 l2 l3 l5 l10 l11 l14 x3 5))))
theorem bDL_law_982 {G : Gt} {X : Xt} {w' : Wd} {v : Int32} (hX : CxOk G X cL_law 17 RL (some (.int v), w'.1, w'.2.1, w'.2.2) 1000) (hR : LwR G X v w') {k41 : Nat → Nat → Int32 → Int32 → Dm Int32} (hk41 : ∀ (l2 : Nat) (l3 : Nat) (l4 : Int32) (l5 : Int32) (w : Wd), (k41 l2 l3 l4 l5).1 w = some (v, w') → WM G X 41 [(0, .ref 1999999), (1, .ref 0), (2, .ref l2), (3, .ref l3), (4, .int l4), (5, .int l5)] [] w.1 w.2.1 w.2.2) (l2 : Nat) (l3 : Nat) (l5 : Int32) (l10 : Nat) (l11 : Int32) (l12 : Int32) (l13 : Int32) (l14 : Int32) (w : Wd) (h : (DL_law_b982 (gS G).2.1 (gS G).2.2 k41 l2 l3 l5 l10 l11 l12 l13 l14).1 w = some (v, w')) : WM G X 982 [(0, .ref 1999999), (1, .ref 0), (2, .ref l2), (3, .ref l3), (5, .int l5), (10, .ref l10), (11, .int l11), (12, .int l12), (13, .int l13), (14, .int l14)] [] w.1 w.2.1 w.2.2 := by
  unfold DL_law_b982 at h
  refine w_iload 7 982 hX rfl dL_law_982 ?_
  refine w_iconst 4 984 hX ic_4 dL_law_984 ?_
  refine w_icmp_le (tgt := 1009) 985 hX dL_law_985 (by decide) (fun c1 => ?_) (fun c1 => ?_)
  · have h := dit h c1
    exact w_sub [0, 1, 2, 3, 4, 5, 6] rfl (bDL_law_1009 hX hR hk41 l2 l3 l5 l10 l11 _ h)
  · have h := die h c1
    refine w_aload_n 2 988 hX rfl rfl dL_law_988 ?_
    obtain ⟨x2, gx2, h⟩ := d_rd h
    refine x_getRN 989 hX CI_12 gx2 rfl fl_L_136 rfl dL_law_989 ?_
    refine w_iload 8 992 hX rfl dL_law_992 ?_
    obtain ⟨x3, gx3, h⟩ := d_rd h
    refine x_aald 994 hX gx3 dL_law_994 ?_
    refine w_iload 7 995 hX rfl dL_law_995 ?_
    refine w_iconst 5 997 hX ic_5 dL_law_997 ?_
    refine w_icmp_ne (tgt := 1005) 998 hX dL_law_998 (by decide) (fun c4 => ?_) (fun c4 => ?_)
    · have h := die h c4
      refine w_iconst 5 1005 hX ic_5 dL_law_1005 ?_
      exact w_sub [0, 1, 2, 3, 4, 5, 6, 9] rfl (bDL_law_1006 hX hR hk41 l2 l3 l5 l10 l11 l14 x3 5 _ h)
    · have h := dit h c4
      refine w_iconst 3 1001 hX ic_3 dL_law_1001 ?_
      refine w_goto (tgt := 1006) 1002 hX (by decide) dL_law_1002 ?_
      exact w_sub [0, 1, 2, 3, 4, 5, 6, 9] rfl (bDL_law_1006 hX hR hk41 l2 l3 l5 l10 l11 l14 x3 3 _ h)
noncomputable def DL_law_b955 (sl : Nat) (sv : Nat → Int32) (k41 : Nat → Nat → Int32 → Int32 → Dm Int32) (l2 : Nat) (l3 : Nat) (l5 : Int32) (l10 : Nat) (l11 : Int32) (l12 : Int32) (l13 : Int32) (l14 : Int32) : Dm Int32 :=
  (if l12 = 4 then (dbind (dread (gfI l2 12 8)) fun x2 => dbind (dput (pfI l2 12 8 ((x2 &&& (((1 : Int32) <<< (l13 &&& 31)) ^^^ (-1))) ||| (l14 <<< (l13 &&& 31))))) fun _ => DL_law_b982 sl sv k41 l2 l3 l5 l10 l11 l12 l13 l14) else (DL_law_b982 sl sv k41 l2 l3 l5 l10 l11 l12 l13 l14))
theorem bDL_law_955 {G : Gt} {X : Xt} {w' : Wd} {v : Int32} (hX : CxOk G X cL_law 17 RL (some (.int v), w'.1, w'.2.1, w'.2.2) 1000) (hR : LwR G X v w') {k41 : Nat → Nat → Int32 → Int32 → Dm Int32} (hk41 : ∀ (l2 : Nat) (l3 : Nat) (l4 : Int32) (l5 : Int32) (w : Wd), (k41 l2 l3 l4 l5).1 w = some (v, w') → WM G X 41 [(0, .ref 1999999), (1, .ref 0), (2, .ref l2), (3, .ref l3), (4, .int l4), (5, .int l5)] [] w.1 w.2.1 w.2.2) (l2 : Nat) (l3 : Nat) (l5 : Int32) (l10 : Nat) (l11 : Int32) (l12 : Int32) (l13 : Int32) (l14 : Int32) (w : Wd) (h : (DL_law_b955 (gS G).2.1 (gS G).2.2 k41 l2 l3 l5 l10 l11 l12 l13 l14).1 w = some (v, w')) : WM G X 955 [(0, .ref 1999999), (1, .ref 0), (2, .ref l2), (3, .ref l3), (5, .int l5), (10, .ref l10), (11, .int l11), (12, .int l12), (13, .int l13), (14, .int l14)] [] w.1 w.2.1 w.2.2 := by
  unfold DL_law_b955 at h
  refine w_iload 7 955 hX rfl dL_law_955 ?_
  refine w_iconst 4 957 hX ic_4 dL_law_957 ?_
  refine w_icmp_ne (tgt := 982) 958 hX dL_law_958 (by decide) (fun c1 => ?_) (fun c1 => ?_)
  · have h := die h c1
    exact bDL_law_982 hX hR hk41 l2 l3 l5 l10 l11 l12 l13 l14 _ h
  · have h := dit h c1
    refine w_aload_n 2 961 hX rfl rfl dL_law_961 ?_
    refine w_aload_n 2 962 hX rfl rfl dL_law_962 ?_
    obtain ⟨x2, gx2, h⟩ := d_rd h
    refine x_getIN 963 hX CI_12 gx2 rfl fl_L_162 rfl dL_law_963 ?_
    refine w_iconst 1 966 hX ic_1 dL_law_966 ?_
    refine w_iload 8 967 hX rfl dL_law_967 ?_
    refine w_ishl 969 hX dL_law_969 ?_
    refine w_iconst (-1) 970 hX ic_m1 dL_law_970 ?_
    refine w_ixor 971 hX dL_law_971 ?_
    refine w_iand 972 hX dL_law_972 ?_
    refine w_iload 9 973 hX rfl dL_law_973 ?_
    refine w_iload 8 975 hX rfl dL_law_975 ?_
    refine w_ishl 977 hX dL_law_977 ?_
    refine w_ior 978 hX dL_law_978 ?_
    obtain ⟨x3, wx3, gx3, h⟩ := d_bind h
    refine x_putIN 979 hX CI_12 gx3 rfl fl_L_162 rfl rfl rfl rfl dL_law_979 ?_
    exact bDL_law_982 hX hR hk41 l2 l3 l5 l10 l11 l12 l13 l14 _ h
noncomputable def DL_law_b940 (sl : Nat) (sv : Nat → Int32) (k41 : Nat → Nat → Int32 → Int32 → Dm Int32) (l2 : Nat) (l3 : Nat) (l5 : Int32) (l10 : Nat) (l11 : Int32) (l12 : Int32) (l13 : Int32) (l14 : Int32) : Dm Int32 :=
  (if l12 = 3 then (dbind (dread (gfR l2 12 13)) fun x2 => dbind (dput (iast x2 l13 l14)) fun _ => DL_law_b955 sl sv k41 l2 l3 l5 l10 l11 l12 l13 l14) else (DL_law_b955 sl sv k41 l2 l3 l5 l10 l11 l12 l13 l14))
theorem bDL_law_940 {G : Gt} {X : Xt} {w' : Wd} {v : Int32} (hX : CxOk G X cL_law 17 RL (some (.int v), w'.1, w'.2.1, w'.2.2) 1000) (hR : LwR G X v w') {k41 : Nat → Nat → Int32 → Int32 → Dm Int32} (hk41 : ∀ (l2 : Nat) (l3 : Nat) (l4 : Int32) (l5 : Int32) (w : Wd), (k41 l2 l3 l4 l5).1 w = some (v, w') → WM G X 41 [(0, .ref 1999999), (1, .ref 0), (2, .ref l2), (3, .ref l3), (4, .int l4), (5, .int l5)] [] w.1 w.2.1 w.2.2) (l2 : Nat) (l3 : Nat) (l5 : Int32) (l10 : Nat) (l11 : Int32) (l12 : Int32) (l13 : Int32) (l14 : Int32) (w : Wd) (h : (DL_law_b940 (gS G).2.1 (gS G).2.2 k41 l2 l3 l5 l10 l11 l12 l13 l14).1 w = some (v, w')) : WM G X 940 [(0, .ref 1999999), (1, .ref 0), (2, .ref l2), (3, .ref l3), (5, .int l5), (10, .ref l10), (11, .int l11), (12, .int l12), (13, .int l13), (14, .int l14)] [] w.1 w.2.1 w.2.2 := by
  unfold DL_law_b940 at h
  refine w_iload 7 940 hX rfl dL_law_940 ?_
  refine w_iconst 3 942 hX ic_3 dL_law_942 ?_
  refine w_icmp_ne (tgt := 955) 943 hX dL_law_943 (by decide) (fun c1 => ?_) (fun c1 => ?_)
  · have h := die h c1
    exact bDL_law_955 hX hR hk41 l2 l3 l5 l10 l11 l12 l13 l14 _ h
  · have h := dit h c1
    refine w_aload_n 2 946 hX rfl rfl dL_law_946 ?_
    obtain ⟨x2, gx2, h⟩ := d_rd h
    refine x_getRN 947 hX CI_12 gx2 rfl fl_L_165 rfl dL_law_947 ?_
    refine w_iload 8 950 hX rfl dL_law_950 ?_
    refine w_iload 9 952 hX rfl dL_law_952 ?_
    obtain ⟨x3, wx3, gx3, h⟩ := d_bind h
    refine x_iast 954 hX gx3 dL_law_954 ?_
    exact bDL_law_955 hX hR hk41 l2 l3 l5 l10 l11 l12 l13 l14 _ h
noncomputable def DL_law_b928 (sl : Nat) (sv : Nat → Int32) (k41 : Nat → Nat → Int32 → Int32 → Dm Int32) (l2 : Nat) (l3 : Nat) (l5 : Int32) (l10 : Nat) (l11 : Int32) (l12 : Int32) (l13 : Int32) (l14 : Int32) : Dm Int32 :=
  (if l12 = 2 then (dbind (dput (pfI l2 12 5 l14)) fun _ => DL_law_b940 sl sv k41 l2 l3 l5 l10 l11 l12 l13 l14) else (DL_law_b940 sl sv k41 l2 l3 l5 l10 l11 l12 l13 l14))
theorem bDL_law_928 {G : Gt} {X : Xt} {w' : Wd} {v : Int32} (hX : CxOk G X cL_law 17 RL (some (.int v), w'.1, w'.2.1, w'.2.2) 1000) (hR : LwR G X v w') {k41 : Nat → Nat → Int32 → Int32 → Dm Int32} (hk41 : ∀ (l2 : Nat) (l3 : Nat) (l4 : Int32) (l5 : Int32) (w : Wd), (k41 l2 l3 l4 l5).1 w = some (v, w') → WM G X 41 [(0, .ref 1999999), (1, .ref 0), (2, .ref l2), (3, .ref l3), (4, .int l4), (5, .int l5)] [] w.1 w.2.1 w.2.2) (l2 : Nat) (l3 : Nat) (l5 : Int32) (l10 : Nat) (l11 : Int32) (l12 : Int32) (l13 : Int32) (l14 : Int32) (w : Wd) (h : (DL_law_b928 (gS G).2.1 (gS G).2.2 k41 l2 l3 l5 l10 l11 l12 l13 l14).1 w = some (v, w')) : WM G X 928 [(0, .ref 1999999), (1, .ref 0), (2, .ref l2), (3, .ref l3), (5, .int l5), (10, .ref l10), (11, .int l11), (12, .int l12), (13, .int l13), (14, .int l14)] [] w.1 w.2.1 w.2.2 := by
  unfold DL_law_b928 at h
  refine w_iload 7 928 hX rfl dL_law_928 ?_
  refine w_iconst 2 930 hX ic_2 dL_law_930 ?_
  refine w_icmp_ne (tgt := 940) 931 hX dL_law_931 (by decide) (fun c1 => ?_) (fun c1 => ?_)
  · have h := die h c1
    exact bDL_law_940 hX hR hk41 l2 l3 l5 l10 l11 l12 l13 l14 _ h
  · have h := dit h c1
    refine w_aload_n 2 934 hX rfl rfl dL_law_934 ?_
    refine w_iload 9 935 hX rfl dL_law_935 ?_
    obtain ⟨x2, wx2, gx2, h⟩ := d_bind h
    refine x_putIN 937 hX CI_12 gx2 rfl fl_L_158 rfl rfl rfl rfl dL_law_937 ?_
    exact bDL_law_940 hX hR hk41 l2 l3 l5 l10 l11 l12 l13 l14 _ h
noncomputable def DL_law_b916 (sl : Nat) (sv : Nat → Int32) (k41 : Nat → Nat → Int32 → Int32 → Dm Int32) (l2 : Nat) (l3 : Nat) (l5 : Int32) (l10 : Nat) (l11 : Int32) (l12 : Int32) (l13 : Int32) (l14 : Int32) : Dm Int32 :=
  (if l12 = 1 then (dbind (dput (pfI l2 12 4 l14)) fun _ => DL_law_b928 sl sv k41 l2 l3 l5 l10 l11 l12 l13 l14) else (DL_law_b928 sl sv k41 l2 l3 l5 l10 l11 l12 l13 l14))
theorem bDL_law_916 {G : Gt} {X : Xt} {w' : Wd} {v : Int32} (hX : CxOk G X cL_law 17 RL (some (.int v), w'.1, w'.2.1, w'.2.2) 1000) (hR : LwR G X v w') {k41 : Nat → Nat → Int32 → Int32 → Dm Int32} (hk41 : ∀ (l2 : Nat) (l3 : Nat) (l4 : Int32) (l5 : Int32) (w : Wd), (k41 l2 l3 l4 l5).1 w = some (v, w') → WM G X 41 [(0, .ref 1999999), (1, .ref 0), (2, .ref l2), (3, .ref l3), (4, .int l4), (5, .int l5)] [] w.1 w.2.1 w.2.2) (l2 : Nat) (l3 : Nat) (l5 : Int32) (l10 : Nat) (l11 : Int32) (l12 : Int32) (l13 : Int32) (l14 : Int32) (w : Wd) (h : (DL_law_b916 (gS G).2.1 (gS G).2.2 k41 l2 l3 l5 l10 l11 l12 l13 l14).1 w = some (v, w')) : WM G X 916 [(0, .ref 1999999), (1, .ref 0), (2, .ref l2), (3, .ref l3), (5, .int l5), (10, .ref l10), (11, .int l11), (12, .int l12), (13, .int l13), (14, .int l14)] [] w.1 w.2.1 w.2.2 := by
  unfold DL_law_b916 at h
  refine w_iload 7 916 hX rfl dL_law_916 ?_
  refine w_iconst 1 918 hX ic_1 dL_law_918 ?_
  refine w_icmp_ne (tgt := 928) 919 hX dL_law_919 (by decide) (fun c1 => ?_) (fun c1 => ?_)
  · have h := die h c1
    exact bDL_law_928 hX hR hk41 l2 l3 l5 l10 l11 l12 l13 l14 _ h
  · have h := dit h c1
    refine w_aload_n 2 922 hX rfl rfl dL_law_922 ?_
    refine w_iload 9 923 hX rfl dL_law_923 ?_
    obtain ⟨x2, wx2, gx2, h⟩ := d_bind h
    refine x_putIN 925 hX CI_12 gx2 rfl fl_L_155 rfl rfl rfl rfl dL_law_925 ?_
    exact bDL_law_928 hX hR hk41 l2 l3 l5 l10 l11 l12 l13 l14 _ h
noncomputable def DL_law_b881 (sl : Nat) (sv : Nat → Int32) (k41 : Nat → Nat → Int32 → Int32 → Dm Int32) (l2 : Nat) (l3 : Nat) (l4 : Int32) (l5 : Int32) (l10 : Nat) (l11 : Int32) (l12 : Int32) (l13 : Int32) (l14 : Int32) (t0 : Int32) : Dm Int32 :=
  dbind (dclW (fun u => FX11_set_0 l12 l13 l14 u)) fun x1 => (if x1 = t0 then ((if t0 = 0 then (DL_law_b1082 sl sv k41 l2 l3 l4 l5 l10 l11) else ((if l12 = 0 then (dbind (dput (pfI l2 12 3 l14)) fun _ => DL_law_b916 sl sv k41 l2 l3 l5 l10 l11 l12 l13 l14) else (DL_law_b916 sl sv k41 l2 l3 l5 l10 l11 l12 l13 l14))))) else (dret 0))
theorem bDL_law_881 {G : Gt} {X : Xt} {w' : Wd} {v : Int32} (hX : CxOk G X cL_law 17 RL (some (.int v), w'.1, w'.2.1, w'.2.2) 1000) (hR : LwR G X v w') {k41 : Nat → Nat → Int32 → Int32 → Dm Int32} (hk41 : ∀ (l2 : Nat) (l3 : Nat) (l4 : Int32) (l5 : Int32) (w : Wd), (k41 l2 l3 l4 l5).1 w = some (v, w') → WM G X 41 [(0, .ref 1999999), (1, .ref 0), (2, .ref l2), (3, .ref l3), (4, .int l4), (5, .int l5)] [] w.1 w.2.1 w.2.2) (l2 : Nat) (l3 : Nat) (l4 : Int32) (l5 : Int32) (l10 : Nat) (l11 : Int32) (l12 : Int32) (l13 : Int32) (l14 : Int32) (t0 : Int32) (w : Wd) (h : (DL_law_b881 (gS G).2.1 (gS G).2.2 k41 l2 l3 l4 l5 l10 l11 l12 l13 l14 t0).1 w = some (v, w')) : WM G X 881 [(0, .ref 1999999), (1, .ref 0), (2, .ref l2), (3, .ref l3), (4, .int l4), (5, .int l5), (10, .ref l10), (11, .int l11), (12, .int l12), (13, .int l13), (14, .int l14)] [.int t0] w.1 w.2.1 w.2.2 := by
  unfold DL_law_b881 at h
  refine w_istore (lv' := [(16, .int t0), (0, .ref 1999999), (1, .ref 0), (2, .ref l2), (3, .ref l3), (4, .int l4), (5, .int l5), (10, .ref l10), (11, .int l11), (12, .int l12), (13, .int l13), (14, .int l14)]) 881 hX dL_law_881 (by decide) rfl ?_
  refine w_aload_n 2 883 hX rfl rfl dL_law_883 ?_
  refine w_iload 9 884 hX rfl dL_law_884 ?_
  refine w_iload 10 886 hX rfl dL_law_886 ?_
  refine w_iload 11 888 hX rfl dL_law_888 ?_
  obtain ⟨x1, wx1, gx1, h⟩ := d_bind h
  refine w_invVi (av := [.int l12, .int l13, .int l14]) (st := []) 890 hX CI_11 (oks_0 (dcl_ok gx1).1) rfl mv_yX11_set mi_yX11_set ml_L_148 (cs_W (fun G u g => CX11_set_0 (G := G) l12 l13 l14 _ g) gx1) rfl (by decide) (Nat.le_of_ble_eq_true rfl) (d_le h).1 (d_le h).2 dL_law_890 ?_
  refine w_iload 0 893 hX rfl dL_law_893 ?_
  refine w_icmp_eq (tgt := 900) 895 hX dL_law_895 (by decide) (fun c2 => ?_) (fun c2 => ?_)
  · have h := dit h c2
    refine w_iload 0 900 hX rfl dL_law_900 ?_
    refine w_if_eq (tgt := 1012) 902 hX dL_law_902 (by decide) (fun c3 => ?_) (fun c3 => ?_)
    · have h := dit h c3
      refine w_goto (tgt := 1082) 1012 hX (by decide) dL_law_1012 ?_
      exact w_sub [1, 2, 3, 4, 5, 6, 7, 8] rfl (bDL_law_1082 hX hR hk41 l2 l3 l4 l5 l10 l11 _ h)
    · have h := die h c3
      refine w_iload 9 905 hX rfl dL_law_905 ?_
      refine w_if_ne (tgt := 916) 907 hX dL_law_907 (by decide) (fun c4 => ?_) (fun c4 => ?_)
      · have h := die h c4
        exact w_sub [1, 2, 3, 4, 6, 7, 8, 9, 10, 11] rfl (bDL_law_916 hX hR hk41 l2 l3 l5 l10 l11 l12 l13 l14 _ h)
      · have h := dit h c4
        refine w_aload_n 3 910 hX rfl rfl dL_law_910 ?_
        refine w_iload 11 911 hX rfl dL_law_911 ?_
        obtain ⟨x5, wx5, gx5, h⟩ := d_bind h
        refine x_putIN 913 hX CI_12 gx5 rfl fl_L_152 rfl rfl rfl rfl dL_law_913 ?_
        exact w_sub [1, 2, 3, 4, 6, 7, 8, 9, 10, 11] rfl (bDL_law_916 hX hR hk41 l2 l3 l5 l10 l11 l12 l13 l14 _ h)
  · have h := die h c2
    refine w_iconst 0 898 hX ic_0 dL_law_898 ?_
    obtain ⟨rfl, rfl⟩ := d_ret h
    exact hR 899 _ dL_law_899
noncomputable def DL_law_b861 (sl : Nat) (sv : Nat → Int32) (k41 : Nat → Nat → Int32 → Int32 → Dm Int32) (l2 : Nat) (l3 : Nat) (l4 : Int32) (l5 : Int32) (l10 : Nat) (l11 : Int32) (l12 : Int32) (l13 : Int32) (l14 : Int32) : Dm Int32 :=
  (if l12 ≤ 4 then (DL_law_b881 sl sv k41 l2 l3 l4 l5 l10 l11 l12 l13 l14 0) else (dbind (dread (gfI l2 12 6)) fun x2 => (if x2 ≤ l13 then (DL_law_b881 sl sv k41 l2 l3 l4 l5 l10 l11 l12 l13 l14 0) else (DL_law_b881 sl sv k41 l2 l3 l4 l5 l10 l11 l12 l13 l14 1))))
theorem bDL_law_861 {G : Gt} {X : Xt} {w' : Wd} {v : Int32} (hX : CxOk G X cL_law 17 RL (some (.int v), w'.1, w'.2.1, w'.2.2) 1000) (hR : LwR G X v w') {k41 : Nat → Nat → Int32 → Int32 → Dm Int32} (hk41 : ∀ (l2 : Nat) (l3 : Nat) (l4 : Int32) (l5 : Int32) (w : Wd), (k41 l2 l3 l4 l5).1 w = some (v, w') → WM G X 41 [(0, .ref 1999999), (1, .ref 0), (2, .ref l2), (3, .ref l3), (4, .int l4), (5, .int l5)] [] w.1 w.2.1 w.2.2) (l2 : Nat) (l3 : Nat) (l4 : Int32) (l5 : Int32) (l10 : Nat) (l11 : Int32) (l12 : Int32) (l13 : Int32) (l14 : Int32) (w : Wd) (h : (DL_law_b861 (gS G).2.1 (gS G).2.2 k41 l2 l3 l4 l5 l10 l11 l12 l13 l14).1 w = some (v, w')) : WM G X 861 [(0, .ref 1999999), (1, .ref 0), (2, .ref l2), (3, .ref l3), (4, .int l4), (5, .int l5), (10, .ref l10), (11, .int l11), (12, .int l12), (13, .int l13), (14, .int l14)] [] w.1 w.2.1 w.2.2 := by
  unfold DL_law_b861 at h
  refine w_iload 8 861 hX rfl dL_law_861 ?_
  refine w_iconst 4 863 hX ic_4 dL_law_863 ?_
  refine w_icmp_le (tgt := 880) 864 hX dL_law_864 (by decide) (fun c1 => ?_) (fun c1 => ?_)
  · have h := dit h c1
    refine w_iconst 0 880 hX ic_0 dL_law_880 ?_
    exact bDL_law_881 hX hR hk41 l2 l3 l4 l5 l10 l11 l12 l13 l14 0 _ h
  · have h := die h c1
    refine w_iload 9 867 hX rfl dL_law_867 ?_
    refine w_aload_n 2 869 hX rfl rfl dL_law_869 ?_
    obtain ⟨x2, gx2, h⟩ := d_rd h
    refine x_getIN 870 hX CI_12 gx2 rfl fl_L_37 rfl dL_law_870 ?_
    refine w_icmp_ge (tgt := 880) 873 hX dL_law_873 (by decide) (fun c3 => ?_) (fun c3 => ?_)
    · have h := dit h c3
      refine w_iconst 0 880 hX ic_0 dL_law_880 ?_
      exact bDL_law_881 hX hR hk41 l2 l3 l4 l5 l10 l11 l12 l13 l14 0 _ h
    · have h := die h c3
      refine w_iconst 1 876 hX ic_1 dL_law_876 ?_
      refine w_goto (tgt := 881) 877 hX (by decide) dL_law_877 ?_
      exact bDL_law_881 hX hR hk41 l2 l3 l4 l5 l10 l11 l12 l13 l14 1 _ h
noncomputable def DL_law_b848 (sl : Nat) (sv : Nat → Int32) (k41 : Nat → Nat → Int32 → Int32 → Dm Int32) (l2 : Nat) (l3 : Nat) (l4 : Int32) (l5 : Int32) (l10 : Nat) (l11 : Int32) (l12 : Int32) (l13 : Int32) (l14 : Int32) : Dm Int32 :=
  (if l12 = 4 then ((if l13 < 16 then (DL_law_b881 sl sv k41 l2 l3 l4 l5 l10 l11 l12 l13 l14 1) else (DL_law_b861 sl sv k41 l2 l3 l4 l5 l10 l11 l12 l13 l14))) else (DL_law_b861 sl sv k41 l2 l3 l4 l5 l10 l11 l12 l13 l14))
theorem bDL_law_848 {G : Gt} {X : Xt} {w' : Wd} {v : Int32} (hX : CxOk G X cL_law 17 RL (some (.int v), w'.1, w'.2.1, w'.2.2) 1000) (hR : LwR G X v w') {k41 : Nat → Nat → Int32 → Int32 → Dm Int32} (hk41 : ∀ (l2 : Nat) (l3 : Nat) (l4 : Int32) (l5 : Int32) (w : Wd), (k41 l2 l3 l4 l5).1 w = some (v, w') → WM G X 41 [(0, .ref 1999999), (1, .ref 0), (2, .ref l2), (3, .ref l3), (4, .int l4), (5, .int l5)] [] w.1 w.2.1 w.2.2) (l2 : Nat) (l3 : Nat) (l4 : Int32) (l5 : Int32) (l10 : Nat) (l11 : Int32) (l12 : Int32) (l13 : Int32) (l14 : Int32) (w : Wd) (h : (DL_law_b848 (gS G).2.1 (gS G).2.2 k41 l2 l3 l4 l5 l10 l11 l12 l13 l14).1 w = some (v, w')) : WM G X 848 [(0, .ref 1999999), (1, .ref 0), (2, .ref l2), (3, .ref l3), (4, .int l4), (5, .int l5), (10, .ref l10), (11, .int l11), (12, .int l12), (13, .int l13), (14, .int l14)] [] w.1 w.2.1 w.2.2 := by
  unfold DL_law_b848 at h
  refine w_iload 8 848 hX rfl dL_law_848 ?_
  refine w_iconst 4 850 hX ic_4 dL_law_850 ?_
  refine w_icmp_ne (tgt := 861) 851 hX dL_law_851 (by decide) (fun c1 => ?_) (fun c1 => ?_)
  · have h := die h c1
    exact bDL_law_861 hX hR hk41 l2 l3 l4 l5 l10 l11 l12 l13 l14 _ h
  · have h := dit h c1
    refine w_iload 9 854 hX rfl dL_law_854 ?_
    refine w_bipush 16 856 hX ib_16 dL_law_856 ?_
    refine w_icmp_lt (tgt := 876) 858 hX dL_law_858 (by decide) (fun c2 => ?_) (fun c2 => ?_)
    · have h := dit h c2
      refine w_iconst 1 876 hX ic_1 dL_law_876 ?_
      refine w_goto (tgt := 881) 877 hX (by decide) dL_law_877 ?_
      exact bDL_law_881 hX hR hk41 l2 l3 l4 l5 l10 l11 l12 l13 l14 1 _ h
    · have h := die h c2
      exact bDL_law_861 hX hR hk41 l2 l3 l4 l5 l10 l11 l12 l13 l14 _ h
noncomputable def DL_law_b768 (sl : Nat) (sv : Nat → Int32) (k41 : Nat → Nat → Int32 → Int32 → Dm Int32) (l2 : Nat) (l3 : Nat) (l4 : Int32) (l5 : Int32) (l10 : Nat) (l11 : Int32) (l12 : Int32) (l13 : Int32) (t0 : Int32) (t1 : Int32) (t2 : Int32) : Dm Int32 :=
  dbind (DL_between t0 t1 t2) fun x1 => dbind (dnew (nwI 8)) fun x2 => dbind (dput (iast x2 0 99)) fun _ => dbind (dput (iast x2 1 9)) fun _ => dbind (dput (iast x2 2 99)) fun _ => dbind (dput (iast x2 3 9)) fun _ => dbind (dput (iast x2 4 1)) fun _ => dbind (dput (iast x2 5 99)) fun _ => dbind (dput (iast x2 6 999)) fun _ => dbind (dput (iast x2 7 (-1))) fun _ => dbind (dread (iald x2 l12)) fun x11 => (if x11 < x1 then (DL_law_b881 sl sv k41 l2 l3 l4 l5 l10 l11 l12 l13 x1 0) else ((if l12 < 3 then (DL_law_b881 sl sv k41 l2 l3 l4 l5 l10 l11 l12 l13 x1 1) else ((if l12 = 3 then ((if l13 < 2 then (DL_law_b881 sl sv k41 l2 l3 l4 l5 l10 l11 l12 l13 x1 1) else (DL_law_b848 sl sv k41 l2 l3 l4 l5 l10 l11 l12 l13 x1))) else (DL_law_b848 sl sv k41 l2 l3 l4 l5 l10 l11 l12 l13 x1))))))
theorem bDL_law_768 {G : Gt} {X : Xt} {w' : Wd} {v : Int32} (hX : CxOk G X cL_law 17 RL (some (.int v), w'.1, w'.2.1, w'.2.2) 1000) (hR : LwR G X v w') {k41 : Nat → Nat → Int32 → Int32 → Dm Int32} (hk41 : ∀ (l2 : Nat) (l3 : Nat) (l4 : Int32) (l5 : Int32) (w : Wd), (k41 l2 l3 l4 l5).1 w = some (v, w') → WM G X 41 [(0, .ref 1999999), (1, .ref 0), (2, .ref l2), (3, .ref l3), (4, .int l4), (5, .int l5)] [] w.1 w.2.1 w.2.2) (l2 : Nat) (l3 : Nat) (l4 : Int32) (l5 : Int32) (l10 : Nat) (l11 : Int32) (l12 : Int32) (l13 : Int32) (t0 : Int32) (t1 : Int32) (t2 : Int32) (w : Wd) (h : (DL_law_b768 (gS G).2.1 (gS G).2.2 k41 l2 l3 l4 l5 l10 l11 l12 l13 t0 t1 t2).1 w = some (v, w')) : WM G X 768 [(0, .ref 1999999), (1, .ref 0), (2, .ref l2), (3, .ref l3), (4, .int l4), (5, .int l5), (10, .ref l10), (11, .int l11), (12, .int l12), (13, .int l13)] [.int t2, .int t1, .int t0] w.1 w.2.1 w.2.2 := by
  unfold DL_law_b768 at h
  obtain ⟨x1, wx1, gx1, h⟩ := d_bind h
  refine w_invSi (av := [.int t0, .int t1, .int t2]) (st := []) 768 hX ms_yL_between mi_yL_between ml_L_43 (CDL_between t0 t1 t2 gx1) rfl (by decide) (Nat.le_of_ble_eq_true rfl) (d_le h).1 (d_le h).2 dL_law_768 ?_
  refine w_istore (lv' := [(14, .int x1), (0, .ref 1999999), (1, .ref 0), (2, .ref l2), (3, .ref l3), (4, .int l4), (5, .int l5), (10, .ref l10), (11, .int l11), (12, .int l12), (13, .int l13)]) 771 hX dL_law_771 (by decide) rfl ?_
  refine w_bipush 8 773 hX ib_8 dL_law_773 ?_
  obtain ⟨x2, wx2, gx2, h⟩ := d_bind h
  refine x_newI 775 hX gx2 aw_int (d_le h) dL_law_775 ?_
  refine w_dup 777 hX rfl dL_law_777 ?_
  refine w_iconst 0 778 hX ic_0 dL_law_778 ?_
  refine w_bipush 99 779 hX ib_99 dL_law_779 ?_
  obtain ⟨x3, wx3, gx3, h⟩ := d_bind h
  refine x_iast 781 hX gx3 dL_law_781 ?_
  refine w_dup 782 hX rfl dL_law_782 ?_
  refine w_iconst 1 783 hX ic_1 dL_law_783 ?_
  refine w_bipush 9 784 hX ib_9 dL_law_784 ?_
  obtain ⟨x4, wx4, gx4, h⟩ := d_bind h
  refine x_iast 786 hX gx4 dL_law_786 ?_
  refine w_dup 787 hX rfl dL_law_787 ?_
  refine w_iconst 2 788 hX ic_2 dL_law_788 ?_
  refine w_bipush 99 789 hX ib_99 dL_law_789 ?_
  obtain ⟨x5, wx5, gx5, h⟩ := d_bind h
  refine x_iast 791 hX gx5 dL_law_791 ?_
  refine w_dup 792 hX rfl dL_law_792 ?_
  refine w_iconst 3 793 hX ic_3 dL_law_793 ?_
  refine w_bipush 9 794 hX ib_9 dL_law_794 ?_
  obtain ⟨x6, wx6, gx6, h⟩ := d_bind h
  refine x_iast 796 hX gx6 dL_law_796 ?_
  refine w_dup 797 hX rfl dL_law_797 ?_
  refine w_iconst 4 798 hX ic_4 dL_law_798 ?_
  refine w_iconst 1 799 hX ic_1 dL_law_799 ?_
  obtain ⟨x7, wx7, gx7, h⟩ := d_bind h
  refine x_iast 800 hX gx7 dL_law_800 ?_
  refine w_dup 801 hX rfl dL_law_801 ?_
  refine w_iconst 5 802 hX ic_5 dL_law_802 ?_
  refine w_bipush 99 803 hX ib_99 dL_law_803 ?_
  obtain ⟨x8, wx8, gx8, h⟩ := d_bind h
  refine x_iast 805 hX gx8 dL_law_805 ?_
  refine w_dup 806 hX rfl dL_law_806 ?_
  refine w_bipush 6 807 hX ib_6 dL_law_807 ?_
  refine w_sipush 999 809 hX isp_999 dL_law_809 ?_
  obtain ⟨x9, wx9, gx9, h⟩ := d_bind h
  refine x_iast 812 hX gx9 dL_law_812 ?_
  refine w_dup 813 hX rfl dL_law_813 ?_
  refine w_bipush 7 814 hX ib_7 dL_law_814 ?_
  refine w_iconst (-1) 816 hX ic_m1 dL_law_816 ?_
  obtain ⟨x10, wx10, gx10, h⟩ := d_bind h
  refine x_iast 817 hX gx10 dL_law_817 ?_
  refine w_astore (lv' := [(15, .ref x2), (14, .int x1), (0, .ref 1999999), (1, .ref 0), (2, .ref l2), (3, .ref l3), (4, .int l4), (5, .int l5), (10, .ref l10), (11, .int l11), (12, .int l12), (13, .int l13)]) 818 hX dL_law_818 (by decide) rfl ?_
  refine w_iload 1 820 hX rfl dL_law_820 ?_
  refine w_aload 0 822 hX rfl dL_law_822 ?_
  refine w_iload 10 824 hX rfl dL_law_824 ?_
  obtain ⟨x11, gx11, h⟩ := d_rd h
  refine x_iald 826 hX gx11 dL_law_826 ?_
  refine w_icmp_gt (tgt := 880) 827 hX dL_law_827 (by decide) (fun c12 => ?_) (fun c12 => ?_)
  · have h := dit h c12
    refine w_iconst 0 880 hX ic_0 dL_law_880 ?_
    exact w_sub [2, 3, 4, 5, 6, 7, 8, 9, 10, 11, 1] rfl (bDL_law_881 hX hR hk41 l2 l3 l4 l5 l10 l11 l12 l13 x1 0 _ h)
  · have h := die h c12
    refine w_iload 10 830 hX rfl dL_law_830 ?_
    refine w_iconst 3 832 hX ic_3 dL_law_832 ?_
    refine w_icmp_lt (tgt := 876) 833 hX dL_law_833 (by decide) (fun c13 => ?_) (fun c13 => ?_)
    · have h := dit h c13
      refine w_iconst 1 876 hX ic_1 dL_law_876 ?_
      refine w_goto (tgt := 881) 877 hX (by decide) dL_law_877 ?_
      exact w_sub [2, 3, 4, 5, 6, 7, 8, 9, 10, 11, 1] rfl (bDL_law_881 hX hR hk41 l2 l3 l4 l5 l10 l11 l12 l13 x1 1 _ h)
    · have h := die h c13
      refine w_iload 10 836 hX rfl dL_law_836 ?_
      refine w_iconst 3 838 hX ic_3 dL_law_838 ?_
      refine w_icmp_ne (tgt := 848) 839 hX dL_law_839 (by decide) (fun c14 => ?_) (fun c14 => ?_)
      · have h := die h c14
        exact w_sub [2, 3, 4, 5, 6, 7, 8, 9, 10, 11, 1] rfl (bDL_law_848 hX hR hk41 l2 l3 l4 l5 l10 l11 l12 l13 x1 _ h)
      · have h := dit h c14
        refine w_iload 11 842 hX rfl dL_law_842 ?_
        refine w_iconst 2 844 hX ic_2 dL_law_844 ?_
        refine w_icmp_lt (tgt := 876) 845 hX dL_law_845 (by decide) (fun c15 => ?_) (fun c15 => ?_)
        · have h := dit h c15
          refine w_iconst 1 876 hX ic_1 dL_law_876 ?_
          refine w_goto (tgt := 881) 877 hX (by decide) dL_law_877 ?_
          exact w_sub [2, 3, 4, 5, 6, 7, 8, 9, 10, 11, 1] rfl (bDL_law_881 hX hR hk41 l2 l3 l4 l5 l10 l11 l12 l13 x1 1 _ h)
        · have h := die h c15
          exact w_sub [2, 3, 4, 5, 6, 7, 8, 9, 10, 11, 1] rfl (bDL_law_848 hX hR hk41 l2 l3 l4 l5 l10 l11 l12 l13 x1 _ h)
noncomputable def DL_law_b748 (sl : Nat) (sv : Nat → Int32) (k41 : Nat → Nat → Int32 → Int32 → Dm Int32) (l2 : Nat) (l3 : Nat) (l4 : Int32) (l5 : Int32) (l6 : Int32) (l10 : Nat) (l11 : Int32) (l12 : Int32) (t0 : Int32) : Dm Int32 :=
  (if l12 = 4 then (DL_law_b768 sl sv k41 l2 l3 l4 l5 l10 l11 l12 t0 (l6 >>> ((6 : Int32) &&& 31)) 0 1) else (DL_law_b768 sl sv k41 l2 l3 l4 l5 l10 l11 l12 t0 (l6 >>> ((6 : Int32) &&& 31)) 0 101))
theorem bDL_law_748 {G : Gt} {X : Xt} {w' : Wd} {v : Int32} (hX : CxOk G X cL_law 17 RL (some (.int v), w'.1, w'.2.1, w'.2.2) 1000) (hR : LwR G X v w') {k41 : Nat → Nat → Int32 → Int32 → Dm Int32} (hk41 : ∀ (l2 : Nat) (l3 : Nat) (l4 : Int32) (l5 : Int32) (w : Wd), (k41 l2 l3 l4 l5).1 w = some (v, w') → WM G X 41 [(0, .ref 1999999), (1, .ref 0), (2, .ref l2), (3, .ref l3), (4, .int l4), (5, .int l5)] [] w.1 w.2.1 w.2.2) (l2 : Nat) (l3 : Nat) (l4 : Int32) (l5 : Int32) (l6 : Int32) (l10 : Nat) (l11 : Int32) (l12 : Int32) (t0 : Int32) (w : Wd) (h : (DL_law_b748 (gS G).2.1 (gS G).2.2 k41 l2 l3 l4 l5 l6 l10 l11 l12 t0).1 w = some (v, w')) : WM G X 748 [(0, .ref 1999999), (1, .ref 0), (2, .ref l2), (3, .ref l3), (4, .int l4), (5, .int l5), (6, .int l6), (10, .ref l10), (11, .int l11), (12, .int l12)] [.int t0] w.1 w.2.1 w.2.2 := by
  unfold DL_law_b748 at h
  refine w_istore (lv' := [(13, .int t0), (0, .ref 1999999), (1, .ref 0), (2, .ref l2), (3, .ref l3), (4, .int l4), (5, .int l5), (6, .int l6), (10, .ref l10), (11, .int l11), (12, .int l12)]) 748 hX dL_law_748 (by decide) rfl ?_
  refine w_iload 7 750 hX rfl dL_law_750 ?_
  refine w_bipush 6 752 hX ib_6 dL_law_752 ?_
  refine w_ishr 754 hX dL_law_754 ?_
  refine w_iconst 0 755 hX ic_0 dL_law_755 ?_
  refine w_iload 10 756 hX rfl dL_law_756 ?_
  refine w_iconst 4 758 hX ic_4 dL_law_758 ?_
  refine w_icmp_ne (tgt := 766) 759 hX dL_law_759 (by decide) (fun c1 => ?_) (fun c1 => ?_)
  · have h := die h c1
    refine w_bipush 101 766 hX ib_101 dL_law_766 ?_
    exact w_sub [1, 2, 3, 4, 5, 6, 8, 9, 10, 0] rfl (bDL_law_768 hX hR hk41 l2 l3 l4 l5 l10 l11 l12 t0 (l6 >>> ((6 : Int32) &&& 31)) 0 101 _ h)
  · have h := dit h c1
    refine w_iconst 1 762 hX ic_1 dL_law_762 ?_
    refine w_goto (tgt := 768) 763 hX (by decide) dL_law_763 ?_
    exact w_sub [1, 2, 3, 4, 5, 6, 8, 9, 10, 0] rfl (bDL_law_768 hX hR hk41 l2 l3 l4 l5 l10 l11 l12 t0 (l6 >>> ((6 : Int32) &&& 31)) 0 1 _ h)
noncomputable def DL_law_b578 (sl : Nat) (sv : Nat → Int32) (k41 : Nat → Nat → Int32 → Int32 → Dm Int32) (l2 : Nat) (l3 : Nat) (l4 : Int32) (l5 : Int32) (l8 : Int32) (l9 : Int32) (l10 : Nat) (l12 : Int32) (t0 : Int32) : Dm Int32 :=
  dbind (dclW (fun u => FX11_send_0 l8 l9 l12 u)) fun x1 => (if x1 = t0 then ((if t0 = 0 then (DL_law_b1082 sl sv k41 l2 l3 l4 l5 l10 t0) else (dbind (dread (gfR l2 12 16)) fun x4 => dbind (dread (aald x4 l8)) fun x5 => dbind (dput (iast x5 6 1)) fun _ => dbind (dread (gfR l2 12 16)) fun x7 => dbind (dread (aald x7 l8)) fun x8 => dbind (dread (gfR l2 12 16)) fun x9 => dbind (dread (aald x9 l9)) fun x10 => dbind (dread (iald x10 7)) fun x11 => dbind (dput (iast x8 7 x11)) fun _ => dbind (dread (gfR l2 12 16)) fun x13 => dbind (dread (aald x13 l9)) fun x14 => dbind (dput (iast x14 6 0)) fun _ => dbind (dread (gfR l2 12 16)) fun x16 => dbind (dread (aald x16 l9)) fun x17 => dbind (dread (iald x17 5)) fun x18 => dbind (dput (iast x17 5 (x18 - l12))) fun _ => dbind (dread (gfR l2 12 16)) fun x20 => dbind (dread (aald x20 l8)) fun x21 => dbind (dread (gfR l2 12 16)) fun x22 => dbind (dread (aald x22 l8)) fun x23 => dbind (dread (iald x23 5)) fun x24 => dbind (dput (iast x21 5 (if (x24 + l12) < 999 then (x24 + l12) else 999))) fun _ => DL_law_b1082 sl sv k41 l2 l3 l4 l5 l10 t0))) else (dret 0))
theorem bDL_law_578 {G : Gt} {X : Xt} {w' : Wd} {v : Int32} (hX : CxOk G X cL_law 17 RL (some (.int v), w'.1, w'.2.1, w'.2.2) 1000) (hR : LwR G X v w') {k41 : Nat → Nat → Int32 → Int32 → Dm Int32} (hk41 : ∀ (l2 : Nat) (l3 : Nat) (l4 : Int32) (l5 : Int32) (w : Wd), (k41 l2 l3 l4 l5).1 w = some (v, w') → WM G X 41 [(0, .ref 1999999), (1, .ref 0), (2, .ref l2), (3, .ref l3), (4, .int l4), (5, .int l5)] [] w.1 w.2.1 w.2.2) (l2 : Nat) (l3 : Nat) (l4 : Int32) (l5 : Int32) (l8 : Int32) (l9 : Int32) (l10 : Nat) (l12 : Int32) (t0 : Int32) (w : Wd) (h : (DL_law_b578 (gS G).2.1 (gS G).2.2 k41 l2 l3 l4 l5 l8 l9 l10 l12 t0).1 w = some (v, w')) : WM G X 578 [(0, .ref 1999999), (1, .ref 0), (2, .ref l2), (3, .ref l3), (4, .int l4), (5, .int l5), (8, .int l8), (9, .int l9), (10, .ref l10), (12, .int l12)] [.int t0] w.1 w.2.1 w.2.2 := by
  unfold DL_law_b578 at h
  refine w_istore (lv' := [(11, .int t0), (0, .ref 1999999), (1, .ref 0), (2, .ref l2), (3, .ref l3), (4, .int l4), (5, .int l5), (8, .int l8), (9, .int l9), (10, .ref l10), (12, .int l12)]) 578 hX dL_law_578 (by decide) rfl ?_
  refine w_aload_n 2 580 hX rfl rfl dL_law_580 ?_
  refine w_iload 7 581 hX rfl dL_law_581 ?_
  refine w_iload 8 583 hX rfl dL_law_583 ?_
  refine w_iload 10 585 hX rfl dL_law_585 ?_
  obtain ⟨x1, wx1, gx1, h⟩ := d_bind h
  refine w_invVi (av := [.int l8, .int l9, .int l12]) (st := []) 587 hX CI_11 (oks_0 (dcl_ok gx1).1) rfl mv_yX11_send mi_yX11_send ml_L_199 (cs_W (fun G u g => CX11_send_0 (G := G) l8 l9 l12 _ g) gx1) rfl (by decide) (Nat.le_of_ble_eq_true rfl) (d_le h).1 (d_le h).2 dL_law_587 ?_
  refine w_iload 0 590 hX rfl dL_law_590 ?_
  refine w_icmp_eq (tgt := 597) 592 hX dL_law_592 (by decide) (fun c2 => ?_) (fun c2 => ?_)
  · have h := dit h c2
    refine w_iload 0 597 hX rfl dL_law_597 ?_
    refine w_if_eq (tgt := 685) 599 hX dL_law_599 (by decide) (fun c3 => ?_) (fun c3 => ?_)
    · have h := dit h c3
      refine w_goto (tgt := 1082) 685 hX (by decide) dL_law_685 ?_
      exact w_sub [1, 2, 3, 4, 5, 6, 9, 0] rfl (bDL_law_1082 hX hR hk41 l2 l3 l4 l5 l10 t0 _ h)
    · have h := die h c3
      refine w_aload_n 3 602 hX rfl rfl dL_law_602 ?_
      obtain ⟨x4, gx4, h⟩ := d_rd h
      refine x_getRN 603 hX CI_12 gx4 rfl fl_L_136 rfl dL_law_603 ?_
      refine w_iload 7 606 hX rfl dL_law_606 ?_
      obtain ⟨x5, gx5, h⟩ := d_rd h
      refine x_aald 608 hX gx5 dL_law_608 ?_
      refine w_bipush 6 609 hX ib_6 dL_law_609 ?_
      refine w_iconst 1 611 hX ic_1 dL_law_611 ?_
      obtain ⟨x6, wx6, gx6, h⟩ := d_bind h
      refine x_iast 612 hX gx6 dL_law_612 ?_
      refine w_aload_n 3 613 hX rfl rfl dL_law_613 ?_
      obtain ⟨x7, gx7, h⟩ := d_rd h
      refine x_getRN 614 hX CI_12 gx7 rfl fl_L_136 rfl dL_law_614 ?_
      refine w_iload 7 617 hX rfl dL_law_617 ?_
      obtain ⟨x8, gx8, h⟩ := d_rd h
      refine x_aald 619 hX gx8 dL_law_619 ?_
      refine w_bipush 7 620 hX ib_7 dL_law_620 ?_
      refine w_aload_n 3 622 hX rfl rfl dL_law_622 ?_
      obtain ⟨x9, gx9, h⟩ := d_rd h
      refine x_getRN 623 hX CI_12 gx9 rfl fl_L_136 rfl dL_law_623 ?_
      refine w_iload 8 626 hX rfl dL_law_626 ?_
      obtain ⟨x10, gx10, h⟩ := d_rd h
      refine x_aald 628 hX gx10 dL_law_628 ?_
      refine w_bipush 7 629 hX ib_7 dL_law_629 ?_
      obtain ⟨x11, gx11, h⟩ := d_rd h
      refine x_iald 631 hX gx11 dL_law_631 ?_
      obtain ⟨x12, wx12, gx12, h⟩ := d_bind h
      refine x_iast 632 hX gx12 dL_law_632 ?_
      refine w_aload_n 3 633 hX rfl rfl dL_law_633 ?_
      obtain ⟨x13, gx13, h⟩ := d_rd h
      refine x_getRN 634 hX CI_12 gx13 rfl fl_L_136 rfl dL_law_634 ?_
      refine w_iload 8 637 hX rfl dL_law_637 ?_
      obtain ⟨x14, gx14, h⟩ := d_rd h
      refine x_aald 639 hX gx14 dL_law_639 ?_
      refine w_bipush 6 640 hX ib_6 dL_law_640 ?_
      refine w_iconst 0 642 hX ic_0 dL_law_642 ?_
      obtain ⟨x15, wx15, gx15, h⟩ := d_bind h
      refine x_iast 643 hX gx15 dL_law_643 ?_
      refine w_aload_n 3 644 hX rfl rfl dL_law_644 ?_
      obtain ⟨x16, gx16, h⟩ := d_rd h
      refine x_getRN 645 hX CI_12 gx16 rfl fl_L_136 rfl dL_law_645 ?_
      refine w_iload 8 648 hX rfl dL_law_648 ?_
      obtain ⟨x17, gx17, h⟩ := d_rd h
      refine x_aald 650 hX gx17 dL_law_650 ?_
      refine w_iconst 5 651 hX ic_5 dL_law_651 ?_
      refine w_dup2 652 hX rfl rfl dL_law_652 ?_
      obtain ⟨x18, gx18, h⟩ := d_rd h
      refine x_iald 653 hX gx18 dL_law_653 ?_
      refine w_iload 10 654 hX rfl dL_law_654 ?_
      refine w_isub 656 hX dL_law_656 ?_
      obtain ⟨x19, wx19, gx19, h⟩ := d_bind h
      refine x_iast 657 hX gx19 dL_law_657 ?_
      refine w_aload_n 3 658 hX rfl rfl dL_law_658 ?_
      obtain ⟨x20, gx20, h⟩ := d_rd h
      refine x_getRN 659 hX CI_12 gx20 rfl fl_L_136 rfl dL_law_659 ?_
      refine w_iload 7 662 hX rfl dL_law_662 ?_
      obtain ⟨x21, gx21, h⟩ := d_rd h
      refine x_aald 664 hX gx21 dL_law_664 ?_
      refine w_iconst 5 665 hX ic_5 dL_law_665 ?_
      refine w_sipush 999 666 hX isp_999 dL_law_666 ?_
      refine w_aload_n 3 669 hX rfl rfl dL_law_669 ?_
      obtain ⟨x22, gx22, h⟩ := d_rd h
      refine x_getRN 670 hX CI_12 gx22 rfl fl_L_136 rfl dL_law_670 ?_
      refine w_iload 7 673 hX rfl dL_law_673 ?_
      obtain ⟨x23, gx23, h⟩ := d_rd h
      refine x_aald 675 hX gx23 dL_law_675 ?_
      refine w_iconst 5 676 hX ic_5 dL_law_676 ?_
      obtain ⟨x24, gx24, h⟩ := d_rd h
      refine x_iald 677 hX gx24 dL_law_677 ?_
      refine w_iload 10 678 hX rfl dL_law_678 ?_
      refine w_iadd 680 hX dL_law_680 ?_
      refine w_min 681 hX ml_L_8 jm_min_s jm_i jm_min_c (by decide) (Nat.le_of_ble_eq_true rfl) (d_le h).1 (d_le h).2 dL_law_681 ?_
      obtain ⟨x25, wx25, gx25, h⟩ := d_bind h
      refine x_iast 684 hX gx25 dL_law_684 ?_
      refine w_goto (tgt := 1082) 685 hX (by decide) dL_law_685 ?_
      exact w_sub [1, 2, 3, 4, 5, 6, 9, 0] rfl (bDL_law_1082 hX hR hk41 l2 l3 l4 l5 l10 t0 _ h)
  · have h := die h c2
    refine w_iconst 0 595 hX ic_0 dL_law_595 ?_
    obtain ⟨rfl, rfl⟩ := d_ret h
    exact hR 596 _ dL_law_596
noncomputable def DL_law_b459 (sl : Nat) (sv : Nat → Int32) (k41 : Nat → Nat → Int32 → Int32 → Dm Int32) (l2 : Nat) (l3 : Nat) (l4 : Int32) (l5 : Int32) (l6 : Int32) (l8 : Int32) (l9 : Int32) (l10 : Nat) : Dm Int32 :=
  dbind (DL_between (l6 >>> ((6 : Int32) &&& 31)) 0 40) fun x1 => dbind (dread (gfI l2 12 6)) fun x2 => (if x2 ≤ l8 then (DL_law_b578 sl sv k41 l2 l3 l4 l5 l8 l9 l10 x1 0) else (dbind (dread (gfI l2 12 6)) fun x4 => (if x4 ≤ l9 then (DL_law_b578 sl sv k41 l2 l3 l4 l5 l8 l9 l10 x1 0) else (dbind (dread (gfR l2 12 16)) fun x6 => dbind (dread (aald x6 l8)) fun x7 => dbind (dread (iald x7 0)) fun x8 => dbind (dread (gfR l2 12 16)) fun x9 => dbind (dread (aald x9 l9)) fun x10 => dbind (dread (iald x10 0)) fun x11 => (if x8 = x11 then (dbind (dread (gfR l2 12 16)) fun x13 => dbind (dread (aald x13 l8)) fun x14 => dbind (dread (iald x14 6)) fun x15 => (if x15 = 0 then (dbind (dread (gfR l2 12 16)) fun x17 => dbind (dread (aald x17 l9)) fun x18 => dbind (dread (iald x18 6)) fun x19 => (if x19 = 1 then (dbind (dread (gfR l2 12 16)) fun x21 => dbind (dread (aald x21 l8)) fun x22 => dbind (dread (iald x22 1)) fun x23 => dbind (dread (gfR l2 12 16)) fun x24 => dbind (dread (aald x24 l9)) fun x25 => dbind (dread (iald x25 1)) fun x26 => (if x23 ≤ x26 then (DL_law_b578 sl sv k41 l2 l3 l4 l5 l8 l9 l10 x1 0) else (dbind (dread (gfR l2 12 16)) fun x28 => dbind (dread (aald x28 l9)) fun x29 => dbind (dread (iald x29 5)) fun x30 => (if x30 < x1 then (DL_law_b578 sl sv k41 l2 l3 l4 l5 l8 l9 l10 x1 0) else (DL_law_b578 sl sv k41 l2 l3 l4 l5 l8 l9 l10 x1 1))))) else (DL_law_b578 sl sv k41 l2 l3 l4 l5 l8 l9 l10 x1 0))) else (DL_law_b578 sl sv k41 l2 l3 l4 l5 l8 l9 l10 x1 0))) else (DL_law_b578 sl sv k41 l2 l3 l4 l5 l8 l9 l10 x1 0))))))
theorem bDL_law_459 {G : Gt} {X : Xt} {w' : Wd} {v : Int32} (hX : CxOk G X cL_law 17 RL (some (.int v), w'.1, w'.2.1, w'.2.2) 1000) (hR : LwR G X v w') {k41 : Nat → Nat → Int32 → Int32 → Dm Int32} (hk41 : ∀ (l2 : Nat) (l3 : Nat) (l4 : Int32) (l5 : Int32) (w : Wd), (k41 l2 l3 l4 l5).1 w = some (v, w') → WM G X 41 [(0, .ref 1999999), (1, .ref 0), (2, .ref l2), (3, .ref l3), (4, .int l4), (5, .int l5)] [] w.1 w.2.1 w.2.2) (l2 : Nat) (l3 : Nat) (l4 : Int32) (l5 : Int32) (l6 : Int32) (l8 : Int32) (l9 : Int32) (l10 : Nat) (w : Wd) (h : (DL_law_b459 (gS G).2.1 (gS G).2.2 k41 l2 l3 l4 l5 l6 l8 l9 l10).1 w = some (v, w')) : WM G X 459 [(0, .ref 1999999), (1, .ref 0), (2, .ref l2), (3, .ref l3), (4, .int l4), (5, .int l5), (6, .int l6), (8, .int l8), (9, .int l9), (10, .ref l10)] [] w.1 w.2.1 w.2.2 := by
  unfold DL_law_b459 at h
  refine w_iload 6 459 hX rfl dL_law_459 ?_
  refine w_bipush 6 461 hX ib_6 dL_law_461 ?_
  refine w_ishr 463 hX dL_law_463 ?_
  refine w_iconst 0 464 hX ic_0 dL_law_464 ?_
  refine w_bipush 40 465 hX ib_40 dL_law_465 ?_
  obtain ⟨x1, wx1, gx1, h⟩ := d_bind h
  refine w_invSi (av := [.int (l6 >>> ((6 : Int32) &&& 31)), .int 0, .int 40]) (st := []) 467 hX ms_yL_between mi_yL_between ml_L_43 (CDL_between (l6 >>> ((6 : Int32) &&& 31)) 0 40 gx1) rfl (by decide) (Nat.le_of_ble_eq_true rfl) (d_le h).1 (d_le h).2 dL_law_467 ?_
  refine w_istore (lv' := [(12, .int x1), (0, .ref 1999999), (1, .ref 0), (2, .ref l2), (3, .ref l3), (4, .int l4), (5, .int l5), (6, .int l6), (8, .int l8), (9, .int l9), (10, .ref l10)]) 470 hX dL_law_470 (by decide) rfl ?_
  refine w_iload 8 472 hX rfl dL_law_472 ?_
  refine w_aload_n 3 474 hX rfl rfl dL_law_474 ?_
  obtain ⟨x2, gx2, h⟩ := d_rd h
  refine x_getIN 475 hX CI_12 gx2 rfl fl_L_37 rfl dL_law_475 ?_
  refine w_icmp_ge (tgt := 577) 478 hX dL_law_478 (by decide) (fun c3 => ?_) (fun c3 => ?_)
  · have h := dit h c3
    refine w_iconst 0 577 hX ic_0 dL_law_577 ?_
    exact w_sub [1, 2, 3, 4, 5, 6, 8, 9, 10, 0] rfl (bDL_law_578 hX hR hk41 l2 l3 l4 l5 l8 l9 l10 x1 0 _ h)
  · have h := die h c3
    refine w_iload 9 481 hX rfl dL_law_481 ?_
    refine w_aload_n 3 483 hX rfl rfl dL_law_483 ?_
    obtain ⟨x4, gx4, h⟩ := d_rd h
    refine x_getIN 484 hX CI_12 gx4 rfl fl_L_37 rfl dL_law_484 ?_
    refine w_icmp_ge (tgt := 577) 487 hX dL_law_487 (by decide) (fun c5 => ?_) (fun c5 => ?_)
    · have h := dit h c5
      refine w_iconst 0 577 hX ic_0 dL_law_577 ?_
      exact w_sub [1, 2, 3, 4, 5, 6, 8, 9, 10, 0] rfl (bDL_law_578 hX hR hk41 l2 l3 l4 l5 l8 l9 l10 x1 0 _ h)
    · have h := die h c5
      refine w_aload_n 3 490 hX rfl rfl dL_law_490 ?_
      obtain ⟨x6, gx6, h⟩ := d_rd h
      refine x_getRN 491 hX CI_12 gx6 rfl fl_L_136 rfl dL_law_491 ?_
      refine w_iload 8 494 hX rfl dL_law_494 ?_
      obtain ⟨x7, gx7, h⟩ := d_rd h
      refine x_aald 496 hX gx7 dL_law_496 ?_
      refine w_iconst 0 497 hX ic_0 dL_law_497 ?_
      obtain ⟨x8, gx8, h⟩ := d_rd h
      refine x_iald 498 hX gx8 dL_law_498 ?_
      refine w_aload_n 3 499 hX rfl rfl dL_law_499 ?_
      obtain ⟨x9, gx9, h⟩ := d_rd h
      refine x_getRN 500 hX CI_12 gx9 rfl fl_L_136 rfl dL_law_500 ?_
      refine w_iload 9 503 hX rfl dL_law_503 ?_
      obtain ⟨x10, gx10, h⟩ := d_rd h
      refine x_aald 505 hX gx10 dL_law_505 ?_
      refine w_iconst 0 506 hX ic_0 dL_law_506 ?_
      obtain ⟨x11, gx11, h⟩ := d_rd h
      refine x_iald 507 hX gx11 dL_law_507 ?_
      refine w_icmp_ne (tgt := 577) 508 hX dL_law_508 (by decide) (fun c12 => ?_) (fun c12 => ?_)
      · have h := die h c12
        refine w_iconst 0 577 hX ic_0 dL_law_577 ?_
        exact w_sub [1, 2, 3, 4, 5, 6, 8, 9, 10, 0] rfl (bDL_law_578 hX hR hk41 l2 l3 l4 l5 l8 l9 l10 x1 0 _ h)
      · have h := dit h c12
        refine w_aload_n 3 511 hX rfl rfl dL_law_511 ?_
        obtain ⟨x13, gx13, h⟩ := d_rd h
        refine x_getRN 512 hX CI_12 gx13 rfl fl_L_136 rfl dL_law_512 ?_
        refine w_iload 8 515 hX rfl dL_law_515 ?_
        obtain ⟨x14, gx14, h⟩ := d_rd h
        refine x_aald 517 hX gx14 dL_law_517 ?_
        refine w_bipush 6 518 hX ib_6 dL_law_518 ?_
        obtain ⟨x15, gx15, h⟩ := d_rd h
        refine x_iald 520 hX gx15 dL_law_520 ?_
        refine w_if_ne (tgt := 577) 521 hX dL_law_521 (by decide) (fun c16 => ?_) (fun c16 => ?_)
        · have h := die h c16
          refine w_iconst 0 577 hX ic_0 dL_law_577 ?_
          exact w_sub [1, 2, 3, 4, 5, 6, 8, 9, 10, 0] rfl (bDL_law_578 hX hR hk41 l2 l3 l4 l5 l8 l9 l10 x1 0 _ h)
        · have h := dit h c16
          refine w_aload_n 3 524 hX rfl rfl dL_law_524 ?_
          obtain ⟨x17, gx17, h⟩ := d_rd h
          refine x_getRN 525 hX CI_12 gx17 rfl fl_L_136 rfl dL_law_525 ?_
          refine w_iload 9 528 hX rfl dL_law_528 ?_
          obtain ⟨x18, gx18, h⟩ := d_rd h
          refine x_aald 530 hX gx18 dL_law_530 ?_
          refine w_bipush 6 531 hX ib_6 dL_law_531 ?_
          obtain ⟨x19, gx19, h⟩ := d_rd h
          refine x_iald 533 hX gx19 dL_law_533 ?_
          refine w_iconst 1 534 hX ic_1 dL_law_534 ?_
          refine w_icmp_ne (tgt := 577) 535 hX dL_law_535 (by decide) (fun c20 => ?_) (fun c20 => ?_)
          · have h := die h c20
            refine w_iconst 0 577 hX ic_0 dL_law_577 ?_
            exact w_sub [1, 2, 3, 4, 5, 6, 8, 9, 10, 0] rfl (bDL_law_578 hX hR hk41 l2 l3 l4 l5 l8 l9 l10 x1 0 _ h)
          · have h := dit h c20
            refine w_aload_n 3 538 hX rfl rfl dL_law_538 ?_
            obtain ⟨x21, gx21, h⟩ := d_rd h
            refine x_getRN 539 hX CI_12 gx21 rfl fl_L_136 rfl dL_law_539 ?_
            refine w_iload 8 542 hX rfl dL_law_542 ?_
            obtain ⟨x22, gx22, h⟩ := d_rd h
            refine x_aald 544 hX gx22 dL_law_544 ?_
            refine w_iconst 1 545 hX ic_1 dL_law_545 ?_
            obtain ⟨x23, gx23, h⟩ := d_rd h
            refine x_iald 546 hX gx23 dL_law_546 ?_
            refine w_aload_n 3 547 hX rfl rfl dL_law_547 ?_
            obtain ⟨x24, gx24, h⟩ := d_rd h
            refine x_getRN 548 hX CI_12 gx24 rfl fl_L_136 rfl dL_law_548 ?_
            refine w_iload 9 551 hX rfl dL_law_551 ?_
            obtain ⟨x25, gx25, h⟩ := d_rd h
            refine x_aald 553 hX gx25 dL_law_553 ?_
            refine w_iconst 1 554 hX ic_1 dL_law_554 ?_
            obtain ⟨x26, gx26, h⟩ := d_rd h
            refine x_iald 555 hX gx26 dL_law_555 ?_
            refine w_icmp_le (tgt := 577) 556 hX dL_law_556 (by decide) (fun c27 => ?_) (fun c27 => ?_)
            · have h := dit h c27
              refine w_iconst 0 577 hX ic_0 dL_law_577 ?_
              exact w_sub [1, 2, 3, 4, 5, 6, 8, 9, 10, 0] rfl (bDL_law_578 hX hR hk41 l2 l3 l4 l5 l8 l9 l10 x1 0 _ h)
            · have h := die h c27
              refine w_iload 0 559 hX rfl dL_law_559 ?_
              refine w_aload_n 3 561 hX rfl rfl dL_law_561 ?_
              obtain ⟨x28, gx28, h⟩ := d_rd h
              refine x_getRN 562 hX CI_12 gx28 rfl fl_L_136 rfl dL_law_562 ?_
              refine w_iload 9 565 hX rfl dL_law_565 ?_
              obtain ⟨x29, gx29, h⟩ := d_rd h
              refine x_aald 567 hX gx29 dL_law_567 ?_
              refine w_iconst 5 568 hX ic_5 dL_law_568 ?_
              obtain ⟨x30, gx30, h⟩ := d_rd h
              refine x_iald 569 hX gx30 dL_law_569 ?_
              refine w_icmp_gt (tgt := 577) 570 hX dL_law_570 (by decide) (fun c31 => ?_) (fun c31 => ?_)
              · have h := dit h c31
                refine w_iconst 0 577 hX ic_0 dL_law_577 ?_
                exact w_sub [1, 2, 3, 4, 5, 6, 8, 9, 10, 0] rfl (bDL_law_578 hX hR hk41 l2 l3 l4 l5 l8 l9 l10 x1 0 _ h)
              · have h := die h c31
                refine w_iconst 1 573 hX ic_1 dL_law_573 ?_
                refine w_goto (tgt := 578) 574 hX (by decide) dL_law_574 ?_
                exact w_sub [1, 2, 3, 4, 5, 6, 8, 9, 10, 0] rfl (bDL_law_578 hX hR hk41 l2 l3 l4 l5 l8 l9 l10 x1 1 _ h)
noncomputable def DL_law_b410 (sl : Nat) (sv : Nat → Int32) (k41 : Nat → Nat → Int32 → Int32 → Dm Int32) (k410 : Nat → Nat → Int32 → Int32 → Int32 → Int32 → Int32 → Nat → Int32 → Dm Int32) (l2 : Nat) (l3 : Nat) (l4 : Int32) (l5 : Int32) (l6 : Int32) (l8 : Int32) (l9 : Int32) (l10 : Nat) (l12 : Int32) : Dm Int32 :=
  dbind (dread (gfI l2 12 6)) fun x1 => (if x1 ≤ l12 then (DL_law_b459 sl sv k41 l2 l3 l4 l5 l6 l8 l9 l10) else (dbind (dread (gfI l2 12 6)) fun x3 => (if x3 ≤ l9 then (DL_law_b459 sl sv k41 l2 l3 l4 l5 l6 l8 l9 l10) else (dbind (dread (gfR l2 12 16)) fun x5 => dbind (dread (aald x5 l9)) fun x6 => dbind (dread (iald x6 6)) fun x7 => (if x7 = 1 then (DL_law_b459 sl sv k41 l2 l3 l4 l5 l6 l8 l9 l10) else (dbind (dread (gfI l2 12 6)) fun x9 => dbind (dlift (rmI (l9 + 1) x9)) fun x10 => k410 l2 l3 l4 l5 l6 l8 x10 l10 (l12 + 1)))))))
theorem bDL_law_410 {G : Gt} {X : Xt} {w' : Wd} {v : Int32} (hX : CxOk G X cL_law 17 RL (some (.int v), w'.1, w'.2.1, w'.2.2) 1000) (hR : LwR G X v w') {k41 : Nat → Nat → Int32 → Int32 → Dm Int32} (hk41 : ∀ (l2 : Nat) (l3 : Nat) (l4 : Int32) (l5 : Int32) (w : Wd), (k41 l2 l3 l4 l5).1 w = some (v, w') → WM G X 41 [(0, .ref 1999999), (1, .ref 0), (2, .ref l2), (3, .ref l3), (4, .int l4), (5, .int l5)] [] w.1 w.2.1 w.2.2) {k410 : Nat → Nat → Int32 → Int32 → Int32 → Int32 → Int32 → Nat → Int32 → Dm Int32} (hk410 : ∀ (l2 : Nat) (l3 : Nat) (l4 : Int32) (l5 : Int32) (l6 : Int32) (l8 : Int32) (l9 : Int32) (l10 : Nat) (l12 : Int32) (w : Wd), (k410 l2 l3 l4 l5 l6 l8 l9 l10 l12).1 w = some (v, w') → WM G X 410 [(0, .ref 1999999), (1, .ref 0), (2, .ref l2), (3, .ref l3), (4, .int l4), (5, .int l5), (6, .int l6), (8, .int l8), (9, .int l9), (10, .ref l10), (12, .int l12)] [] w.1 w.2.1 w.2.2) (l2 : Nat) (l3 : Nat) (l4 : Int32) (l5 : Int32) (l6 : Int32) (l8 : Int32) (l9 : Int32) (l10 : Nat) (l12 : Int32) (w : Wd) (h : (DL_law_b410 (gS G).2.1 (gS G).2.2 k41 k410 l2 l3 l4 l5 l6 l8 l9 l10 l12).1 w = some (v, w')) : WM G X 410 [(0, .ref 1999999), (1, .ref 0), (2, .ref l2), (3, .ref l3), (4, .int l4), (5, .int l5), (6, .int l6), (8, .int l8), (9, .int l9), (10, .ref l10), (12, .int l12)] [] w.1 w.2.1 w.2.2 := by
  unfold DL_law_b410 at h
  refine w_iload 10 410 hX rfl dL_law_410 ?_
  refine w_aload_n 2 412 hX rfl rfl dL_law_412 ?_
  obtain ⟨x1, gx1, h⟩ := d_rd h
  refine x_getIN 413 hX CI_12 gx1 rfl fl_L_37 rfl dL_law_413 ?_
  refine w_icmp_ge (tgt := 459) 416 hX dL_law_416 (by decide) (fun c2 => ?_) (fun c2 => ?_)
  · have h := dit h c2
    exact w_sub [0, 1, 2, 3, 4, 5, 6, 7, 8, 9] rfl (bDL_law_459 hX hR hk41 l2 l3 l4 l5 l6 l8 l9 l10 _ h)
  · have h := die h c2
    refine w_iload 8 419 hX rfl dL_law_419 ?_
    refine w_aload_n 2 421 hX rfl rfl dL_law_421 ?_
    obtain ⟨x3, gx3, h⟩ := d_rd h
    refine x_getIN 422 hX CI_12 gx3 rfl fl_L_37 rfl dL_law_422 ?_
    refine w_icmp_ge (tgt := 459) 425 hX dL_law_425 (by decide) (fun c4 => ?_) (fun c4 => ?_)
    · have h := dit h c4
      exact w_sub [0, 1, 2, 3, 4, 5, 6, 7, 8, 9] rfl (bDL_law_459 hX hR hk41 l2 l3 l4 l5 l6 l8 l9 l10 _ h)
    · have h := die h c4
      refine w_aload_n 2 428 hX rfl rfl dL_law_428 ?_
      obtain ⟨x5, gx5, h⟩ := d_rd h
      refine x_getRN 429 hX CI_12 gx5 rfl fl_L_136 rfl dL_law_429 ?_
      refine w_iload 8 432 hX rfl dL_law_432 ?_
      obtain ⟨x6, gx6, h⟩ := d_rd h
      refine x_aald 434 hX gx6 dL_law_434 ?_
      refine w_bipush 6 435 hX ib_6 dL_law_435 ?_
      obtain ⟨x7, gx7, h⟩ := d_rd h
      refine x_iald 437 hX gx7 dL_law_437 ?_
      refine w_iconst 1 438 hX ic_1 dL_law_438 ?_
      refine w_icmp_eq (tgt := 459) 439 hX dL_law_439 (by decide) (fun c8 => ?_) (fun c8 => ?_)
      · have h := dit h c8
        exact w_sub [0, 1, 2, 3, 4, 5, 6, 7, 8, 9] rfl (bDL_law_459 hX hR hk41 l2 l3 l4 l5 l6 l8 l9 l10 _ h)
      · have h := die h c8
        refine w_iload 8 442 hX rfl dL_law_442 ?_
        refine w_iconst 1 444 hX ic_1 dL_law_444 ?_
        refine w_iadd 445 hX dL_law_445 ?_
        refine w_aload_n 2 446 hX rfl rfl dL_law_446 ?_
        obtain ⟨x9, gx9, h⟩ := d_rd h
        refine x_getIN 447 hX CI_12 gx9 rfl fl_L_37 rfl dL_law_447 ?_
        obtain ⟨x10, gx10, h⟩ := d_lf h
        obtain ⟨qx10, jx10⟩ := rmI_ok gx10
        refine w_irem 450 hX qx10 dL_law_450 ?_
        rw [jx10]
        refine w_istore (lv' := [(9, .int x10), (0, .ref 1999999), (1, .ref 0), (2, .ref l2), (3, .ref l3), (4, .int l4), (5, .int l5), (6, .int l6), (8, .int l8), (10, .ref l10), (12, .int l12)]) 451 hX dL_law_451 (by decide) rfl ?_
        refine w_iinc (lv' := [(12, .int (l12 + 1)), (9, .int x10), (0, .ref 1999999), (1, .ref 0), (2, .ref l2), (3, .ref l3), (4, .int l4), (5, .int l5), (6, .int l6), (8, .int l8), (10, .ref l10)]) 453 10 hX dL_law_453 rfl (inc_1 _) (by decide) rfl ?_
        refine w_goto (tgt := 410) 456 hX (by decide) dL_law_456 ?_
        exact w_sub [2, 3, 4, 5, 6, 7, 8, 9, 1, 10, 0] rfl (hk410 l2 l3 l4 l5 l6 l8 x10 l10 (l12 + 1) _ h)
noncomputable def DL_law_L410 (sl : Nat) (sv : Nat → Int32) (k41 : Nat → Nat → Int32 → Int32 → Dm Int32) : Nat → Nat → Nat → Int32 → Int32 → Int32 → Int32 → Int32 → Nat → Int32 → Dm Int32
  | 0, _, _, _, _, _, _, _, _, _ => dno
  | n + 1, l2, l3, l4, l5, l6, l8, l9, l10, l12 => DL_law_b410 sl sv k41 (DL_law_L410 sl sv k41 n) l2 l3 l4 l5 l6 l8 l9 l10 l12
theorem lDL_law_410 {G : Gt} {X : Xt} {w' : Wd} {v : Int32} (hX : CxOk G X cL_law 17 RL (some (.int v), w'.1, w'.2.1, w'.2.2) 1000) (hR : LwR G X v w') {k41 : Nat → Nat → Int32 → Int32 → Dm Int32} (hk41 : ∀ (l2 : Nat) (l3 : Nat) (l4 : Int32) (l5 : Int32) (w : Wd), (k41 l2 l3 l4 l5).1 w = some (v, w') → WM G X 41 [(0, .ref 1999999), (1, .ref 0), (2, .ref l2), (3, .ref l3), (4, .int l4), (5, .int l5)] [] w.1 w.2.1 w.2.2) : ∀ (n : Nat) (l2 : Nat) (l3 : Nat) (l4 : Int32) (l5 : Int32) (l6 : Int32) (l8 : Int32) (l9 : Int32) (l10 : Nat) (l12 : Int32) (w : Wd), (DL_law_L410 (gS G).2.1 (gS G).2.2 k41 n l2 l3 l4 l5 l6 l8 l9 l10 l12).1 w = some (v, w') → WM G X 410 [(0, .ref 1999999), (1, .ref 0), (2, .ref l2), (3, .ref l3), (4, .int l4), (5, .int l5), (6, .int l6), (8, .int l8), (9, .int l9), (10, .ref l10), (12, .int l12)] [] w.1 w.2.1 w.2.2 := by
  intro n
  induction n with
  | zero =>
    intro l2 l3 l4 l5 l6 l8 l9 l10 l12 w h
    exact dn_ h
  | succ n ih =>
    intro l2 l3 l4 l5 l6 l8 l9 l10 l12 w h
    exact bDL_law_410 hX hR hk41 ih l2 l3 l4 l5 l6 l8 l9 l10 l12 w h
noncomputable def DL_law_b407 (sl : Nat) (sv : Nat → Int32) (k41 : Nat → Nat → Int32 → Int32 → Dm Int32) (l2 : Nat) (l3 : Nat) (l4 : Int32) (l5 : Int32) (l6 : Int32) (l8 : Int32) (l9 : Int32) (l10 : Nat) : Dm Int32 :=
  DL_law_L410 sl sv k41 FU l2 l3 l4 l5 l6 l8 l9 l10 0
theorem bDL_law_407 {G : Gt} {X : Xt} {w' : Wd} {v : Int32} (hX : CxOk G X cL_law 17 RL (some (.int v), w'.1, w'.2.1, w'.2.2) 1000) (hR : LwR G X v w') {k41 : Nat → Nat → Int32 → Int32 → Dm Int32} (hk41 : ∀ (l2 : Nat) (l3 : Nat) (l4 : Int32) (l5 : Int32) (w : Wd), (k41 l2 l3 l4 l5).1 w = some (v, w') → WM G X 41 [(0, .ref 1999999), (1, .ref 0), (2, .ref l2), (3, .ref l3), (4, .int l4), (5, .int l5)] [] w.1 w.2.1 w.2.2) (l2 : Nat) (l3 : Nat) (l4 : Int32) (l5 : Int32) (l6 : Int32) (l8 : Int32) (l9 : Int32) (l10 : Nat) (w : Wd) (h : (DL_law_b407 (gS G).2.1 (gS G).2.2 k41 l2 l3 l4 l5 l6 l8 l9 l10).1 w = some (v, w')) : WM G X 407 [(0, .ref 1999999), (1, .ref 0), (2, .ref l2), (3, .ref l3), (4, .int l4), (5, .int l5), (6, .int l6), (8, .int l8), (9, .int l9), (10, .ref l10)] [] w.1 w.2.1 w.2.2 := by
  unfold DL_law_b407 at h
  refine w_iconst 0 407 hX ic_0 dL_law_407 ?_
  refine w_istore (lv' := [(12, .int 0), (0, .ref 1999999), (1, .ref 0), (2, .ref l2), (3, .ref l3), (4, .int l4), (5, .int l5), (6, .int l6), (8, .int l8), (9, .int l9), (10, .ref l10)]) 408 hX dL_law_408 (by decide) rfl ?_
  exact w_sub [1, 2, 3, 4, 5, 6, 7, 8, 9, 10, 0] rfl (lDL_law_410 hX hR hk41 FU l2 l3 l4 l5 l6 l8 l9 l10 0 _ h)
noncomputable def DL_law_b359 (sl : Nat) (sv : Nat → Int32) (k41 : Nat → Nat → Int32 → Int32 → Dm Int32) (k359 : Nat → Nat → Int32 → Int32 → Int32 → Int32 → Int32 → Nat → Int32 → Dm Int32) (l2 : Nat) (l3 : Nat) (l4 : Int32) (l5 : Int32) (l6 : Int32) (l8 : Int32) (l9 : Int32) (l10 : Nat) (l12 : Int32) : Dm Int32 :=
  dbind (dread (gfI l2 12 6)) fun x1 => (if x1 ≤ l12 then (DL_law_b407 sl sv k41 l2 l3 l4 l5 l6 l8 l9 l10) else (dbind (dread (gfI l2 12 6)) fun x3 => (if x3 ≤ l8 then (DL_law_b407 sl sv k41 l2 l3 l4 l5 l6 l8 l9 l10) else (dbind (dread (gfR l2 12 16)) fun x5 => dbind (dread (aald x5 l8)) fun x6 => dbind (dread (iald x6 6)) fun x7 => (if x7 = 0 then (DL_law_b407 sl sv k41 l2 l3 l4 l5 l6 l8 l9 l10) else (dbind (dread (gfI l2 12 6)) fun x9 => dbind (dlift (rmI (l8 + 1) x9)) fun x10 => k359 l2 l3 l4 l5 l6 x10 l9 l10 (l12 + 1)))))))
theorem bDL_law_359 {G : Gt} {X : Xt} {w' : Wd} {v : Int32} (hX : CxOk G X cL_law 17 RL (some (.int v), w'.1, w'.2.1, w'.2.2) 1000) (hR : LwR G X v w') {k41 : Nat → Nat → Int32 → Int32 → Dm Int32} (hk41 : ∀ (l2 : Nat) (l3 : Nat) (l4 : Int32) (l5 : Int32) (w : Wd), (k41 l2 l3 l4 l5).1 w = some (v, w') → WM G X 41 [(0, .ref 1999999), (1, .ref 0), (2, .ref l2), (3, .ref l3), (4, .int l4), (5, .int l5)] [] w.1 w.2.1 w.2.2) {k359 : Nat → Nat → Int32 → Int32 → Int32 → Int32 → Int32 → Nat → Int32 → Dm Int32} (hk359 : ∀ (l2 : Nat) (l3 : Nat) (l4 : Int32) (l5 : Int32) (l6 : Int32) (l8 : Int32) (l9 : Int32) (l10 : Nat) (l12 : Int32) (w : Wd), (k359 l2 l3 l4 l5 l6 l8 l9 l10 l12).1 w = some (v, w') → WM G X 359 [(0, .ref 1999999), (1, .ref 0), (2, .ref l2), (3, .ref l3), (4, .int l4), (5, .int l5), (6, .int l6), (8, .int l8), (9, .int l9), (10, .ref l10), (12, .int l12)] [] w.1 w.2.1 w.2.2) (l2 : Nat) (l3 : Nat) (l4 : Int32) (l5 : Int32) (l6 : Int32) (l8 : Int32) (l9 : Int32) (l10 : Nat) (l12 : Int32) (w : Wd) (h : (DL_law_b359 (gS G).2.1 (gS G).2.2 k41 k359 l2 l3 l4 l5 l6 l8 l9 l10 l12).1 w = some (v, w')) : WM G X 359 [(0, .ref 1999999), (1, .ref 0), (2, .ref l2), (3, .ref l3), (4, .int l4), (5, .int l5), (6, .int l6), (8, .int l8), (9, .int l9), (10, .ref l10), (12, .int l12)] [] w.1 w.2.1 w.2.2 := by
  unfold DL_law_b359 at h
  refine w_iload 10 359 hX rfl dL_law_359 ?_
  refine w_aload_n 2 361 hX rfl rfl dL_law_361 ?_
  obtain ⟨x1, gx1, h⟩ := d_rd h
  refine x_getIN 362 hX CI_12 gx1 rfl fl_L_37 rfl dL_law_362 ?_
  refine w_icmp_ge (tgt := 407) 365 hX dL_law_365 (by decide) (fun c2 => ?_) (fun c2 => ?_)
  · have h := dit h c2
    exact w_sub [0, 1, 2, 3, 4, 5, 6, 7, 8, 9] rfl (bDL_law_407 hX hR hk41 l2 l3 l4 l5 l6 l8 l9 l10 _ h)
  · have h := die h c2
    refine w_iload 7 368 hX rfl dL_law_368 ?_
    refine w_aload_n 2 370 hX rfl rfl dL_law_370 ?_
    obtain ⟨x3, gx3, h⟩ := d_rd h
    refine x_getIN 371 hX CI_12 gx3 rfl fl_L_37 rfl dL_law_371 ?_
    refine w_icmp_ge (tgt := 407) 374 hX dL_law_374 (by decide) (fun c4 => ?_) (fun c4 => ?_)
    · have h := dit h c4
      exact w_sub [0, 1, 2, 3, 4, 5, 6, 7, 8, 9] rfl (bDL_law_407 hX hR hk41 l2 l3 l4 l5 l6 l8 l9 l10 _ h)
    · have h := die h c4
      refine w_aload_n 2 377 hX rfl rfl dL_law_377 ?_
      obtain ⟨x5, gx5, h⟩ := d_rd h
      refine x_getRN 378 hX CI_12 gx5 rfl fl_L_136 rfl dL_law_378 ?_
      refine w_iload 7 381 hX rfl dL_law_381 ?_
      obtain ⟨x6, gx6, h⟩ := d_rd h
      refine x_aald 383 hX gx6 dL_law_383 ?_
      refine w_bipush 6 384 hX ib_6 dL_law_384 ?_
      obtain ⟨x7, gx7, h⟩ := d_rd h
      refine x_iald 386 hX gx7 dL_law_386 ?_
      refine w_if_eq (tgt := 407) 387 hX dL_law_387 (by decide) (fun c8 => ?_) (fun c8 => ?_)
      · have h := dit h c8
        exact w_sub [0, 1, 2, 3, 4, 5, 6, 7, 8, 9] rfl (bDL_law_407 hX hR hk41 l2 l3 l4 l5 l6 l8 l9 l10 _ h)
      · have h := die h c8
        refine w_iload 7 390 hX rfl dL_law_390 ?_
        refine w_iconst 1 392 hX ic_1 dL_law_392 ?_
        refine w_iadd 393 hX dL_law_393 ?_
        refine w_aload_n 2 394 hX rfl rfl dL_law_394 ?_
        obtain ⟨x9, gx9, h⟩ := d_rd h
        refine x_getIN 395 hX CI_12 gx9 rfl fl_L_37 rfl dL_law_395 ?_
        obtain ⟨x10, gx10, h⟩ := d_lf h
        obtain ⟨qx10, jx10⟩ := rmI_ok gx10
        refine w_irem 398 hX qx10 dL_law_398 ?_
        rw [jx10]
        refine w_istore (lv' := [(8, .int x10), (0, .ref 1999999), (1, .ref 0), (2, .ref l2), (3, .ref l3), (4, .int l4), (5, .int l5), (6, .int l6), (9, .int l9), (10, .ref l10), (12, .int l12)]) 399 hX dL_law_399 (by decide) rfl ?_
        refine w_iinc (lv' := [(12, .int (l12 + 1)), (8, .int x10), (0, .ref 1999999), (1, .ref 0), (2, .ref l2), (3, .ref l3), (4, .int l4), (5, .int l5), (6, .int l6), (9, .int l9), (10, .ref l10)]) 401 10 hX dL_law_401 rfl (inc_1 _) (by decide) rfl ?_
        refine w_goto (tgt := 359) 404 hX (by decide) dL_law_404 ?_
        exact w_sub [2, 3, 4, 5, 6, 7, 8, 1, 9, 10, 0] rfl (hk359 l2 l3 l4 l5 l6 x10 l9 l10 (l12 + 1) _ h)
noncomputable def DL_law_L359 (sl : Nat) (sv : Nat → Int32) (k41 : Nat → Nat → Int32 → Int32 → Dm Int32) : Nat → Nat → Nat → Int32 → Int32 → Int32 → Int32 → Int32 → Nat → Int32 → Dm Int32
  | 0, _, _, _, _, _, _, _, _, _ => dno
  | n + 1, l2, l3, l4, l5, l6, l8, l9, l10, l12 => DL_law_b359 sl sv k41 (DL_law_L359 sl sv k41 n) l2 l3 l4 l5 l6 l8 l9 l10 l12
theorem lDL_law_359 {G : Gt} {X : Xt} {w' : Wd} {v : Int32} (hX : CxOk G X cL_law 17 RL (some (.int v), w'.1, w'.2.1, w'.2.2) 1000) (hR : LwR G X v w') {k41 : Nat → Nat → Int32 → Int32 → Dm Int32} (hk41 : ∀ (l2 : Nat) (l3 : Nat) (l4 : Int32) (l5 : Int32) (w : Wd), (k41 l2 l3 l4 l5).1 w = some (v, w') → WM G X 41 [(0, .ref 1999999), (1, .ref 0), (2, .ref l2), (3, .ref l3), (4, .int l4), (5, .int l5)] [] w.1 w.2.1 w.2.2) : ∀ (n : Nat) (l2 : Nat) (l3 : Nat) (l4 : Int32) (l5 : Int32) (l6 : Int32) (l8 : Int32) (l9 : Int32) (l10 : Nat) (l12 : Int32) (w : Wd), (DL_law_L359 (gS G).2.1 (gS G).2.2 k41 n l2 l3 l4 l5 l6 l8 l9 l10 l12).1 w = some (v, w') → WM G X 359 [(0, .ref 1999999), (1, .ref 0), (2, .ref l2), (3, .ref l3), (4, .int l4), (5, .int l5), (6, .int l6), (8, .int l8), (9, .int l9), (10, .ref l10), (12, .int l12)] [] w.1 w.2.1 w.2.2 := by
  intro n
  induction n with
  | zero =>
    intro l2 l3 l4 l5 l6 l8 l9 l10 l12 w h
    exact dn_ h
  | succ n ih =>
    intro l2 l3 l4 l5 l6 l8 l9 l10 l12 w h
    exact bDL_law_359 hX hR hk41 ih l2 l3 l4 l5 l6 l8 l9 l10 l12 w h
noncomputable def DL_law_b308 (sl : Nat) (sv : Nat → Int32) (k41 : Nat → Nat → Int32 → Int32 → Dm Int32) (l2 : Nat) (l3 : Nat) (l4 : Int32) (l5 : Int32) (l8 : Int32) (l10 : Nat) (l12 : Int32) (t0 : Int32) : Dm Int32 :=
  dbind (dclW (fun u => FX11_teach_0 l8 l12 u)) fun x1 => (if x1 = t0 then ((if t0 = 0 then (DL_law_b1082 sl sv k41 l2 l3 l4 l5 l10 t0) else (dbind (dread (gfR l2 12 16)) fun x4 => dbind (dread (aald x4 l8)) fun x5 => dbind (dread (iald x5 4)) fun x6 => dbind (dput (iast x5 4 (x6 ||| ((1 : Int32) <<< (l12 &&& 31))))) fun _ => DL_law_b1082 sl sv k41 l2 l3 l4 l5 l10 t0))) else (dret 0))
theorem bDL_law_308 {G : Gt} {X : Xt} {w' : Wd} {v : Int32} (hX : CxOk G X cL_law 17 RL (some (.int v), w'.1, w'.2.1, w'.2.2) 1000) (hR : LwR G X v w') {k41 : Nat → Nat → Int32 → Int32 → Dm Int32} (hk41 : ∀ (l2 : Nat) (l3 : Nat) (l4 : Int32) (l5 : Int32) (w : Wd), (k41 l2 l3 l4 l5).1 w = some (v, w') → WM G X 41 [(0, .ref 1999999), (1, .ref 0), (2, .ref l2), (3, .ref l3), (4, .int l4), (5, .int l5)] [] w.1 w.2.1 w.2.2) (l2 : Nat) (l3 : Nat) (l4 : Int32) (l5 : Int32) (l8 : Int32) (l10 : Nat) (l12 : Int32) (t0 : Int32) (w : Wd) (h : (DL_law_b308 (gS G).2.1 (gS G).2.2 k41 l2 l3 l4 l5 l8 l10 l12 t0).1 w = some (v, w')) : WM G X 308 [(0, .ref 1999999), (1, .ref 0), (2, .ref l2), (3, .ref l3), (4, .int l4), (5, .int l5), (8, .int l8), (10, .ref l10), (12, .int l12)] [.int t0] w.1 w.2.1 w.2.2 := by
  unfold DL_law_b308 at h
  refine w_istore (lv' := [(11, .int t0), (0, .ref 1999999), (1, .ref 0), (2, .ref l2), (3, .ref l3), (4, .int l4), (5, .int l5), (8, .int l8), (10, .ref l10), (12, .int l12)]) 308 hX dL_law_308 (by decide) rfl ?_
  refine w_aload_n 2 310 hX rfl rfl dL_law_310 ?_
  refine w_iload 7 311 hX rfl dL_law_311 ?_
  refine w_iload 9 313 hX rfl dL_law_313 ?_
  obtain ⟨x1, wx1, gx1, h⟩ := d_bind h
  refine w_invVi (av := [.int l8, .int l12]) (st := []) 315 hX CI_11 (oks_0 (dcl_ok gx1).1) rfl mv_yX11_teach mi_yX11_teach ml_L_144 (cs_W (fun G u g => CX11_teach_0 (G := G) l8 l12 _ g) gx1) rfl (by decide) (Nat.le_of_ble_eq_true rfl) (d_le h).1 (d_le h).2 dL_law_315 ?_
  refine w_iload 0 318 hX rfl dL_law_318 ?_
  refine w_icmp_eq (tgt := 325) 320 hX dL_law_320 (by decide) (fun c2 => ?_) (fun c2 => ?_)
  · have h := dit h c2
    refine w_iload 0 325 hX rfl dL_law_325 ?_
    refine w_if_eq (tgt := 346) 327 hX dL_law_327 (by decide) (fun c3 => ?_) (fun c3 => ?_)
    · have h := dit h c3
      refine w_goto (tgt := 1082) 346 hX (by decide) dL_law_346 ?_
      exact w_sub [1, 2, 3, 4, 5, 6, 8, 0] rfl (bDL_law_1082 hX hR hk41 l2 l3 l4 l5 l10 t0 _ h)
    · have h := die h c3
      refine w_aload_n 3 330 hX rfl rfl dL_law_330 ?_
      obtain ⟨x4, gx4, h⟩ := d_rd h
      refine x_getRN 331 hX CI_12 gx4 rfl fl_L_136 rfl dL_law_331 ?_
      refine w_iload 7 334 hX rfl dL_law_334 ?_
      obtain ⟨x5, gx5, h⟩ := d_rd h
      refine x_aald 336 hX gx5 dL_law_336 ?_
      refine w_iconst 4 337 hX ic_4 dL_law_337 ?_
      refine w_dup2 338 hX rfl rfl dL_law_338 ?_
      obtain ⟨x6, gx6, h⟩ := d_rd h
      refine x_iald 339 hX gx6 dL_law_339 ?_
      refine w_iconst 1 340 hX ic_1 dL_law_340 ?_
      refine w_iload 9 341 hX rfl dL_law_341 ?_
      refine w_ishl 343 hX dL_law_343 ?_
      refine w_ior 344 hX dL_law_344 ?_
      obtain ⟨x7, wx7, gx7, h⟩ := d_bind h
      refine x_iast 345 hX gx7 dL_law_345 ?_
      refine w_goto (tgt := 1082) 346 hX (by decide) dL_law_346 ?_
      exact w_sub [1, 2, 3, 4, 5, 6, 8, 0] rfl (bDL_law_1082 hX hR hk41 l2 l3 l4 l5 l10 t0 _ h)
  · have h := die h c2
    refine w_iconst 0 323 hX ic_0 dL_law_323 ?_
    obtain ⟨rfl, rfl⟩ := d_ret h
    exact hR 324 _ dL_law_324
noncomputable def DL_law_b205 (sl : Nat) (sv : Nat → Int32) (k162 : Nat → Nat → Int32 → Int32 → Nat → Int32 → Int32 → Int32 → Int32 → Dm Int32) (l2 : Nat) (l3 : Nat) (l4 : Int32) (l5 : Int32) (l10 : Nat) (l11 : Int32) (l12 : Int32) (l13 : Int32) (l14 : Int32) : Dm Int32 :=
  dbind (dread (isC l2 12)) fun x1 => dbind (DX12_copy l2) fun x2 => dbind (dput (aast l3 l4 x2)) fun _ => dbind (dread (gfI l2 12 2)) fun x4 => dbind (dread (isC l2 12)) fun x5 => dbind (DX12_passes l2 1) fun _ => k162 l2 l3 (l4 + 1) l5 l10 l11 l12 (l13 + x4) (l14 + 1)
theorem bDL_law_205 {G : Gt} {X : Xt} {w' : Wd} {v : Int32} (hX : CxOk G X cL_law 17 RL (some (.int v), w'.1, w'.2.1, w'.2.2) 1000) (hR : LwR G X v w') {k162 : Nat → Nat → Int32 → Int32 → Nat → Int32 → Int32 → Int32 → Int32 → Dm Int32} (hk162 : ∀ (l2 : Nat) (l3 : Nat) (l4 : Int32) (l5 : Int32) (l10 : Nat) (l11 : Int32) (l12 : Int32) (l13 : Int32) (l14 : Int32) (w : Wd), (k162 l2 l3 l4 l5 l10 l11 l12 l13 l14).1 w = some (v, w') → WM G X 162 [(0, .ref 1999999), (1, .ref 0), (2, .ref l2), (3, .ref l3), (4, .int l4), (5, .int l5), (10, .ref l10), (11, .int l11), (12, .int l12), (13, .int l13), (14, .int l14)] [] w.1 w.2.1 w.2.2) (l2 : Nat) (l3 : Nat) (l4 : Int32) (l5 : Int32) (l10 : Nat) (l11 : Int32) (l12 : Int32) (l13 : Int32) (l14 : Int32) (w : Wd) (h : (DL_law_b205 (gS G).2.1 (gS G).2.2 k162 l2 l3 l4 l5 l10 l11 l12 l13 l14).1 w = some (v, w')) : WM G X 205 [(0, .ref 1999999), (1, .ref 0), (2, .ref l2), (3, .ref l3), (4, .int l4), (5, .int l5), (10, .ref l10), (11, .int l11), (12, .int l12), (13, .int l13), (14, .int l14)] [] w.1 w.2.1 w.2.2 := by
  unfold DL_law_b205 at h
  refine w_aload_n 3 205 hX rfl rfl dL_law_205 ?_
  refine w_iload 4 206 hX rfl dL_law_206 ?_
  refine w_iinc (lv' := [(4, .int (l4 + 1)), (0, .ref 1999999), (1, .ref 0), (2, .ref l2), (3, .ref l3), (5, .int l5), (10, .ref l10), (11, .int l11), (12, .int l12), (13, .int l13), (14, .int l14)]) 208 4 hX dL_law_208 rfl (inc_1 _) (by decide) rfl ?_
  refine w_aload_n 3 211 hX rfl rfl dL_law_211 ?_
  obtain ⟨x1, gx1, h⟩ := d_rd h
  obtain ⟨x2, wx2, gx2, h⟩ := d_bind h
  refine w_invVr (av := []) (st := [.int l4, .ref l3]) 212 hX CI_12 (isC_ok gx1) rfl mv_yX12_copy mi_yX12_copy ml_L_186 (CDX12_copy l2 gx2) rfl (by decide) (Nat.le_of_ble_eq_true rfl) (d_le h).1 (d_le h).2 dL_law_212 ?_
  obtain ⟨x3, wx3, gx3, h⟩ := d_bind h
  refine x_aast 215 hX gx3 dL_law_215 ?_
  refine w_iload 9 216 hX rfl dL_law_216 ?_
  refine w_aload_n 3 218 hX rfl rfl dL_law_218 ?_
  obtain ⟨x4, gx4, h⟩ := d_rd h
  refine x_getIN 219 hX CI_12 gx4 rfl fl_L_190 rfl dL_law_219 ?_
  refine w_iadd 222 hX dL_law_222 ?_
  refine w_istore (lv' := [(13, .int (l13 + x4)), (4, .int (l4 + 1)), (0, .ref 1999999), (1, .ref 0), (2, .ref l2), (3, .ref l3), (5, .int l5), (10, .ref l10), (11, .int l11), (12, .int l12), (14, .int l14)]) 223 hX dL_law_223 (by decide) rfl ?_
  refine w_aload_n 4 225 hX rfl rfl dL_law_225 ?_
  refine w_iconst 1 226 hX ic_1 dL_law_226 ?_
  obtain ⟨x5, gx5, h⟩ := d_rd h
  obtain ⟨x6, wx6, gx6, h⟩ := d_bind h
  refine w_invVv (av := [.int 1]) (st := []) 227 hX CI_12 (isC_ok gx5) rfl mv_yX12_passes mi_yX12_passes ml_L_192 (CDX12_passes l2 1 gx6) rfl (by decide) (Nat.le_of_ble_eq_true rfl) (d_le h).1 (d_le h).2 dL_law_227 ?_
  refine w_iinc (lv' := [(14, .int (l14 + 1)), (13, .int (l13 + x4)), (4, .int (l4 + 1)), (0, .ref 1999999), (1, .ref 0), (2, .ref l2), (3, .ref l3), (5, .int l5), (10, .ref l10), (11, .int l11), (12, .int l12)]) 230 10 hX dL_law_230 rfl (inc_1 _) (by decide) rfl ?_
  refine w_goto (tgt := 162) 233 hX (by decide) dL_law_233 ?_
  exact w_sub [3, 4, 5, 6, 2, 7, 8, 9, 10, 1, 0] rfl (hk162 l2 l3 (l4 + 1) l5 l10 l11 l12 (l13 + x4) (l14 + 1) _ h)
noncomputable def DL_law_b179 (sl : Nat) (sv : Nat → Int32) (k162 : Nat → Nat → Int32 → Int32 → Nat → Int32 → Int32 → Int32 → Int32 → Dm Int32) (k179 : Nat → Nat → Int32 → Int32 → Nat → Int32 → Int32 → Int32 → Int32 → Int32 → Dm Int32) (l2 : Nat) (l3 : Nat) (l4 : Int32) (l5 : Int32) (l10 : Nat) (l11 : Int32) (l12 : Int32) (l13 : Int32) (l14 : Int32) (l15 : Int32) : Dm Int32 :=
  (if 6 ≤ l15 then (DL_law_b205 sl sv k162 l2 l3 (l4 + (-1)) l5 l10 l11 l12 l13 l14) else (dbind (dread (aald l3 l15)) fun x2 => dbind (dput (aast l3 (l15 - 1) x2)) fun _ => k179 l2 l3 l4 l5 l10 l11 l12 l13 l14 (l15 + 1)))
theorem bDL_law_179 {G : Gt} {X : Xt} {w' : Wd} {v : Int32} (hX : CxOk G X cL_law 17 RL (some (.int v), w'.1, w'.2.1, w'.2.2) 1000) (hR : LwR G X v w') {k162 : Nat → Nat → Int32 → Int32 → Nat → Int32 → Int32 → Int32 → Int32 → Dm Int32} (hk162 : ∀ (l2 : Nat) (l3 : Nat) (l4 : Int32) (l5 : Int32) (l10 : Nat) (l11 : Int32) (l12 : Int32) (l13 : Int32) (l14 : Int32) (w : Wd), (k162 l2 l3 l4 l5 l10 l11 l12 l13 l14).1 w = some (v, w') → WM G X 162 [(0, .ref 1999999), (1, .ref 0), (2, .ref l2), (3, .ref l3), (4, .int l4), (5, .int l5), (10, .ref l10), (11, .int l11), (12, .int l12), (13, .int l13), (14, .int l14)] [] w.1 w.2.1 w.2.2) {k179 : Nat → Nat → Int32 → Int32 → Nat → Int32 → Int32 → Int32 → Int32 → Int32 → Dm Int32} (hk179 : ∀ (l2 : Nat) (l3 : Nat) (l4 : Int32) (l5 : Int32) (l10 : Nat) (l11 : Int32) (l12 : Int32) (l13 : Int32) (l14 : Int32) (l15 : Int32) (w : Wd), (k179 l2 l3 l4 l5 l10 l11 l12 l13 l14 l15).1 w = some (v, w') → WM G X 179 [(0, .ref 1999999), (1, .ref 0), (2, .ref l2), (3, .ref l3), (4, .int l4), (5, .int l5), (10, .ref l10), (11, .int l11), (12, .int l12), (13, .int l13), (14, .int l14), (15, .int l15)] [] w.1 w.2.1 w.2.2) (l2 : Nat) (l3 : Nat) (l4 : Int32) (l5 : Int32) (l10 : Nat) (l11 : Int32) (l12 : Int32) (l13 : Int32) (l14 : Int32) (l15 : Int32) (w : Wd) (h : (DL_law_b179 (gS G).2.1 (gS G).2.2 k162 k179 l2 l3 l4 l5 l10 l11 l12 l13 l14 l15).1 w = some (v, w')) : WM G X 179 [(0, .ref 1999999), (1, .ref 0), (2, .ref l2), (3, .ref l3), (4, .int l4), (5, .int l5), (10, .ref l10), (11, .int l11), (12, .int l12), (13, .int l13), (14, .int l14), (15, .int l15)] [] w.1 w.2.1 w.2.2 := by
  unfold DL_law_b179 at h
  refine w_iload 11 179 hX rfl dL_law_179 ?_
  refine w_bipush 6 181 hX ib_6 dL_law_181 ?_
  refine w_icmp_ge (tgt := 202) 183 hX dL_law_183 (by decide) (fun c1 => ?_) (fun c1 => ?_)
  · have h := dit h c1
    refine w_iinc (lv' := [(4, .int (l4 + (-1))), (0, .ref 1999999), (1, .ref 0), (2, .ref l2), (3, .ref l3), (5, .int l5), (10, .ref l10), (11, .int l11), (12, .int l12), (13, .int l13), (14, .int l14), (15, .int l15)]) 202 4 hX dL_law_202 rfl (inc_m1 _) (by decide) rfl ?_
    exact w_sub [1, 2, 3, 4, 0, 5, 6, 7, 8, 9, 10] rfl (bDL_law_205 hX hR hk162 l2 l3 (l4 + (-1)) l5 l10 l11 l12 l13 l14 _ h)
  · have h := die h c1
    refine w_aload_n 3 186 hX rfl rfl dL_law_186 ?_
    refine w_iload 11 187 hX rfl dL_law_187 ?_
    refine w_iconst 1 189 hX ic_1 dL_law_189 ?_
    refine w_isub 190 hX dL_law_190 ?_
    refine w_aload_n 3 191 hX rfl rfl dL_law_191 ?_
    refine w_iload 11 192 hX rfl dL_law_192 ?_
    obtain ⟨x2, gx2, h⟩ := d_rd h
    refine x_aald 194 hX gx2 dL_law_194 ?_
    obtain ⟨x3, wx3, gx3, h⟩ := d_bind h
    refine x_aast 195 hX gx3 dL_law_195 ?_
    refine w_iinc (lv' := [(15, .int (l15 + 1)), (0, .ref 1999999), (1, .ref 0), (2, .ref l2), (3, .ref l3), (4, .int l4), (5, .int l5), (10, .ref l10), (11, .int l11), (12, .int l12), (13, .int l13), (14, .int l14)]) 196 11 hX dL_law_196 rfl (inc_1 _) (by decide) rfl ?_
    refine w_goto (tgt := 179) 199 hX (by decide) dL_law_199 ?_
    exact w_sub [1, 2, 3, 4, 5, 6, 7, 8, 9, 10, 11, 0] rfl (hk179 l2 l3 l4 l5 l10 l11 l12 l13 l14 (l15 + 1) _ h)
noncomputable def DL_law_L179 (sl : Nat) (sv : Nat → Int32) (k162 : Nat → Nat → Int32 → Int32 → Nat → Int32 → Int32 → Int32 → Int32 → Dm Int32) : Nat → Nat → Nat → Int32 → Int32 → Nat → Int32 → Int32 → Int32 → Int32 → Int32 → Dm Int32
  | 0, _, _, _, _, _, _, _, _, _, _ => dno
  | n + 1, l2, l3, l4, l5, l10, l11, l12, l13, l14, l15 => DL_law_b179 sl sv k162 (DL_law_L179 sl sv k162 n) l2 l3 l4 l5 l10 l11 l12 l13 l14 l15
theorem lDL_law_179 {G : Gt} {X : Xt} {w' : Wd} {v : Int32} (hX : CxOk G X cL_law 17 RL (some (.int v), w'.1, w'.2.1, w'.2.2) 1000) (hR : LwR G X v w') {k162 : Nat → Nat → Int32 → Int32 → Nat → Int32 → Int32 → Int32 → Int32 → Dm Int32} (hk162 : ∀ (l2 : Nat) (l3 : Nat) (l4 : Int32) (l5 : Int32) (l10 : Nat) (l11 : Int32) (l12 : Int32) (l13 : Int32) (l14 : Int32) (w : Wd), (k162 l2 l3 l4 l5 l10 l11 l12 l13 l14).1 w = some (v, w') → WM G X 162 [(0, .ref 1999999), (1, .ref 0), (2, .ref l2), (3, .ref l3), (4, .int l4), (5, .int l5), (10, .ref l10), (11, .int l11), (12, .int l12), (13, .int l13), (14, .int l14)] [] w.1 w.2.1 w.2.2) : ∀ (n : Nat) (l2 : Nat) (l3 : Nat) (l4 : Int32) (l5 : Int32) (l10 : Nat) (l11 : Int32) (l12 : Int32) (l13 : Int32) (l14 : Int32) (l15 : Int32) (w : Wd), (DL_law_L179 (gS G).2.1 (gS G).2.2 k162 n l2 l3 l4 l5 l10 l11 l12 l13 l14 l15).1 w = some (v, w') → WM G X 179 [(0, .ref 1999999), (1, .ref 0), (2, .ref l2), (3, .ref l3), (4, .int l4), (5, .int l5), (10, .ref l10), (11, .int l11), (12, .int l12), (13, .int l13), (14, .int l14), (15, .int l15)] [] w.1 w.2.1 w.2.2 := by
  intro n
  induction n with
  | zero =>
    intro l2 l3 l4 l5 l10 l11 l12 l13 l14 l15 w h
    exact dn_ h
  | succ n ih =>
    intro l2 l3 l4 l5 l10 l11 l12 l13 l14 l15 w h
    exact bDL_law_179 hX hR hk162 ih l2 l3 l4 l5 l10 l11 l12 l13 l14 l15 w h
noncomputable def DL_law_b162 (sl : Nat) (sv : Nat → Int32) (k41 : Nat → Nat → Int32 → Int32 → Dm Int32) (k162 : Nat → Nat → Int32 → Int32 → Nat → Int32 → Int32 → Int32 → Int32 → Dm Int32) (l2 : Nat) (l3 : Nat) (l4 : Int32) (l5 : Int32) (l10 : Nat) (l11 : Int32) (l12 : Int32) (l13 : Int32) (l14 : Int32) : Dm Int32 :=
  (if l12 ≤ l14 then (dbind (dclW (fun u => FX11_days_0 l12 u)) fun x2 => (if x2 = l13 then (DL_law_b1082 sl sv k41 l2 l3 l4 l5 l10 l11) else (dret 0))) else ((if l4 = 6 then (DL_law_L179 sl sv k162 FU l2 l3 l4 l5 l10 l11 l12 l13 l14 1) else (DL_law_b205 sl sv k162 l2 l3 l4 l5 l10 l11 l12 l13 l14))))
theorem bDL_law_162 {G : Gt} {X : Xt} {w' : Wd} {v : Int32} (hX : CxOk G X cL_law 17 RL (some (.int v), w'.1, w'.2.1, w'.2.2) 1000) (hR : LwR G X v w') {k41 : Nat → Nat → Int32 → Int32 → Dm Int32} (hk41 : ∀ (l2 : Nat) (l3 : Nat) (l4 : Int32) (l5 : Int32) (w : Wd), (k41 l2 l3 l4 l5).1 w = some (v, w') → WM G X 41 [(0, .ref 1999999), (1, .ref 0), (2, .ref l2), (3, .ref l3), (4, .int l4), (5, .int l5)] [] w.1 w.2.1 w.2.2) {k162 : Nat → Nat → Int32 → Int32 → Nat → Int32 → Int32 → Int32 → Int32 → Dm Int32} (hk162 : ∀ (l2 : Nat) (l3 : Nat) (l4 : Int32) (l5 : Int32) (l10 : Nat) (l11 : Int32) (l12 : Int32) (l13 : Int32) (l14 : Int32) (w : Wd), (k162 l2 l3 l4 l5 l10 l11 l12 l13 l14).1 w = some (v, w') → WM G X 162 [(0, .ref 1999999), (1, .ref 0), (2, .ref l2), (3, .ref l3), (4, .int l4), (5, .int l5), (10, .ref l10), (11, .int l11), (12, .int l12), (13, .int l13), (14, .int l14)] [] w.1 w.2.1 w.2.2) (l2 : Nat) (l3 : Nat) (l4 : Int32) (l5 : Int32) (l10 : Nat) (l11 : Int32) (l12 : Int32) (l13 : Int32) (l14 : Int32) (w : Wd) (h : (DL_law_b162 (gS G).2.1 (gS G).2.2 k41 k162 l2 l3 l4 l5 l10 l11 l12 l13 l14).1 w = some (v, w')) : WM G X 162 [(0, .ref 1999999), (1, .ref 0), (2, .ref l2), (3, .ref l3), (4, .int l4), (5, .int l5), (10, .ref l10), (11, .int l11), (12, .int l12), (13, .int l13), (14, .int l14)] [] w.1 w.2.1 w.2.2 := by
  unfold DL_law_b162 at h
  refine w_iload 10 162 hX rfl dL_law_162 ?_
  refine w_iload 8 164 hX rfl dL_law_164 ?_
  refine w_icmp_ge (tgt := 236) 166 hX dL_law_166 (by decide) (fun c1 => ?_) (fun c1 => ?_)
  · have h := dit h c1
    refine w_aload_n 1 236 hX rfl rfl dL_law_236 ?_
    refine w_iload 8 237 hX rfl dL_law_237 ?_
    obtain ⟨x2, wx2, gx2, h⟩ := d_bind h
    refine w_invVi (av := [.int l12]) (st := []) 239 hX CI_11 (oks_0 (dcl_ok gx2).1) rfl mv_yX11_days mi_yX11_days ml_L_196 (cs_W (fun G u g => CX11_days_0 (G := G) l12 _ g) gx2) rfl (by decide) (Nat.le_of_ble_eq_true rfl) (d_le h).1 (d_le h).2 dL_law_239 ?_
    refine w_iload 9 242 hX rfl dL_law_242 ?_
    refine w_icmp_eq (tgt := 249) 244 hX dL_law_244 (by decide) (fun c3 => ?_) (fun c3 => ?_)
    · have h := dit h c3
      refine w_goto (tgt := 1082) 249 hX (by decide) dL_law_249 ?_
      exact w_sub [0, 1, 2, 3, 4, 5, 6, 7] rfl (bDL_law_1082 hX hR hk41 l2 l3 l4 l5 l10 l11 _ h)
    · have h := die h c3
      refine w_iconst 0 247 hX ic_0 dL_law_247 ?_
      obtain ⟨rfl, rfl⟩ := d_ret h
      exact hR 248 _ dL_law_248
  · have h := die h c1
    refine w_iload 4 169 hX rfl dL_law_169 ?_
    refine w_bipush 6 171 hX ib_6 dL_law_171 ?_
    refine w_icmp_ne (tgt := 205) 173 hX dL_law_173 (by decide) (fun c4 => ?_) (fun c4 => ?_)
    · have h := die h c4
      exact bDL_law_205 hX hR hk162 l2 l3 l4 l5 l10 l11 l12 l13 l14 _ h
    · have h := dit h c4
      refine w_iconst 1 176 hX ic_1 dL_law_176 ?_
      refine w_istore (lv' := [(15, .int 1), (0, .ref 1999999), (1, .ref 0), (2, .ref l2), (3, .ref l3), (4, .int l4), (5, .int l5), (10, .ref l10), (11, .int l11), (12, .int l12), (13, .int l13), (14, .int l14)]) 177 hX dL_law_177 (by decide) rfl ?_
      exact w_sub [1, 2, 3, 4, 5, 6, 7, 8, 9, 10, 11, 0] rfl (lDL_law_179 hX hR hk162 FU l2 l3 l4 l5 l10 l11 l12 l13 l14 1 _ h)
noncomputable def DL_law_L162 (sl : Nat) (sv : Nat → Int32) (k41 : Nat → Nat → Int32 → Int32 → Dm Int32) : Nat → Nat → Nat → Int32 → Int32 → Nat → Int32 → Int32 → Int32 → Int32 → Dm Int32
  | 0, _, _, _, _, _, _, _, _, _ => dno
  | n + 1, l2, l3, l4, l5, l10, l11, l12, l13, l14 => DL_law_b162 sl sv k41 (DL_law_L162 sl sv k41 n) l2 l3 l4 l5 l10 l11 l12 l13 l14
theorem lDL_law_162 {G : Gt} {X : Xt} {w' : Wd} {v : Int32} (hX : CxOk G X cL_law 17 RL (some (.int v), w'.1, w'.2.1, w'.2.2) 1000) (hR : LwR G X v w') {k41 : Nat → Nat → Int32 → Int32 → Dm Int32} (hk41 : ∀ (l2 : Nat) (l3 : Nat) (l4 : Int32) (l5 : Int32) (w : Wd), (k41 l2 l3 l4 l5).1 w = some (v, w') → WM G X 41 [(0, .ref 1999999), (1, .ref 0), (2, .ref l2), (3, .ref l3), (4, .int l4), (5, .int l5)] [] w.1 w.2.1 w.2.2) : ∀ (n : Nat) (l2 : Nat) (l3 : Nat) (l4 : Int32) (l5 : Int32) (l10 : Nat) (l11 : Int32) (l12 : Int32) (l13 : Int32) (l14 : Int32) (w : Wd), (DL_law_L162 (gS G).2.1 (gS G).2.2 k41 n l2 l3 l4 l5 l10 l11 l12 l13 l14).1 w = some (v, w') → WM G X 162 [(0, .ref 1999999), (1, .ref 0), (2, .ref l2), (3, .ref l3), (4, .int l4), (5, .int l5), (10, .ref l10), (11, .int l11), (12, .int l12), (13, .int l13), (14, .int l14)] [] w.1 w.2.1 w.2.2 := by
  intro n
  induction n with
  | zero =>
    intro l2 l3 l4 l5 l10 l11 l12 l13 l14 w h
    exact dn_ h
  | succ n ih =>
    intro l2 l3 l4 l5 l10 l11 l12 l13 l14 w h
    exact bDL_law_162 hX hR hk41 ih l2 l3 l4 l5 l10 l11 l12 l13 l14 w h
noncomputable def DL_law_b151 (sl : Nat) (sv : Nat → Int32) (k41 : Nat → Nat → Int32 → Int32 → Dm Int32) (l2 : Nat) (l3 : Nat) (l4 : Int32) (l5 : Int32) (l10 : Nat) (l11 : Int32) (t0 : Int32) (t1 : Int32) (t2 : Int32) : Dm Int32 :=
  dbind (DL_between t0 t1 t2) fun x1 => DL_law_L162 sl sv k41 FU l2 l3 l4 l5 l10 l11 x1 0 0
theorem bDL_law_151 {G : Gt} {X : Xt} {w' : Wd} {v : Int32} (hX : CxOk G X cL_law 17 RL (some (.int v), w'.1, w'.2.1, w'.2.2) 1000) (hR : LwR G X v w') {k41 : Nat → Nat → Int32 → Int32 → Dm Int32} (hk41 : ∀ (l2 : Nat) (l3 : Nat) (l4 : Int32) (l5 : Int32) (w : Wd), (k41 l2 l3 l4 l5).1 w = some (v, w') → WM G X 41 [(0, .ref 1999999), (1, .ref 0), (2, .ref l2), (3, .ref l3), (4, .int l4), (5, .int l5)] [] w.1 w.2.1 w.2.2) (l2 : Nat) (l3 : Nat) (l4 : Int32) (l5 : Int32) (l10 : Nat) (l11 : Int32) (t0 : Int32) (t1 : Int32) (t2 : Int32) (w : Wd) (h : (DL_law_b151 (gS G).2.1 (gS G).2.2 k41 l2 l3 l4 l5 l10 l11 t0 t1 t2).1 w = some (v, w')) : WM G X 151 [(0, .ref 1999999), (1, .ref 0), (2, .ref l2), (3, .ref l3), (4, .int l4), (5, .int l5), (10, .ref l10), (11, .int l11)] [.int t2, .int t1, .int t0] w.1 w.2.1 w.2.2 := by
  unfold DL_law_b151 at h
  obtain ⟨x1, wx1, gx1, h⟩ := d_bind h
  refine w_invSi (av := [.int t0, .int t1, .int t2]) (st := []) 151 hX ms_yL_between mi_yL_between ml_L_43 (CDL_between t0 t1 t2 gx1) rfl (by decide) (Nat.le_of_ble_eq_true rfl) (d_le h).1 (d_le h).2 dL_law_151 ?_
  refine w_istore (lv' := [(12, .int x1), (0, .ref 1999999), (1, .ref 0), (2, .ref l2), (3, .ref l3), (4, .int l4), (5, .int l5), (10, .ref l10), (11, .int l11)]) 154 hX dL_law_154 (by decide) rfl ?_
  refine w_iconst 0 156 hX ic_0 dL_law_156 ?_
  refine w_istore (lv' := [(13, .int 0), (12, .int x1), (0, .ref 1999999), (1, .ref 0), (2, .ref l2), (3, .ref l3), (4, .int l4), (5, .int l5), (10, .ref l10), (11, .int l11)]) 157 hX dL_law_157 (by decide) rfl ?_
  refine w_iconst 0 159 hX ic_0 dL_law_159 ?_
  refine w_istore (lv' := [(14, .int 0), (13, .int 0), (12, .int x1), (0, .ref 1999999), (1, .ref 0), (2, .ref l2), (3, .ref l3), (4, .int l4), (5, .int l5), (10, .ref l10), (11, .int l11)]) 160 hX dL_law_160 (by decide) rfl ?_
  exact w_sub [3, 4, 5, 6, 7, 8, 9, 10, 2, 1, 0] rfl (lDL_law_162 hX hR hk41 FU l2 l3 l4 l5 l10 l11 x1 0 0 _ h)
noncomputable def DL_law_b41 (sl : Nat) (sv : Nat → Int32) (k41 : Nat → Nat → Int32 → Int32 → Dm Int32) (l2 : Nat) (l3 : Nat) (l4 : Int32) (l5 : Int32) : Dm Int32 :=
  (if 20 ≤ l5 then (dbind (dclW (fun u => FX11_days_0 0 u)) fun x2 => (if x2 = (-1) then (dbind (dclW (fun u => FX11_days_0 61 u)) fun x4 => (if x4 = (-1) then (dbind (dclW (fun u => FX11_man_0 2 0 1 u)) fun x6 => (if x6 = (-1) then (dbind (dclW (fun u => FX11_man_0 0 121 1 u)) fun x8 => (if x8 = (-1) then (dbind (dclW (fun u => FX11_man_0 0 0 0 u)) fun x10 => (if x10 = (-1) then (dbind (dclW (fun u => FX11_man_0 0 0 10 u)) fun x12 => (if x12 = (-1) then (dbind (dclW (fun u => FX11_set_0 0 0 100 u)) fun x14 => (if x14 = 0 then (dbind (dclW (fun u => FX11_set_0 1 0 10 u)) fun x16 => (if x16 = 0 then (dbind (dclW (fun u => FX11_set_0 3 2 0 u)) fun x18 => (if x18 = 0 then (dbind (dclW (fun u => FX11_set_0 4 16 0 u)) fun x20 => (if x20 = 0 then (dbind (dread (gfI l2 12 6)) fun x22 => dbind (dclW (fun u => FX11_set_0 5 x22 0 u)) fun x23 => (if x23 = 0 then (dbind (dclW (fun u => FX11_teach_0 (-1) 0 u)) fun x25 => (if x25 = 0 then (dbind (dclW (fun u => FX11_teach_0 0 (-1) u)) fun x27 => (if x27 = 0 then (dbind (dclW (fun u => FX11_send_0 0 0 0 u)) fun x29 => (if x29 = 0 then (dbind (dclR (fun u => FX11_weight_0 8 u)) fun x31 => (if x31 = (-1) then (dbind (dclR (fun u => FX11_country_0 2 0 u)) fun x33 => (if x33 = (-1) then (dbind (dclR (fun u => FX11_country_0 0 5 u)) fun x35 => (if x35 = (-1) then (dbind (dclR (fun u => FX11_book_0 0 4 u)) fun x37 => (if x37 = (-2) then (dbind (dclR (fun u => FX11_look_0 15 u)) fun x39 => (if x39 = (-1) then (dbind (dread (isC l2 12)) fun x41 => dbind (DX12_isSame l2) fun x42 => (if x42 = 0 then (dret 0) else (dret 1))) else (dret 0))) else (dret 0))) else (dret 0))) else (dret 0))) else (dret 0))) else (dret 0))) else (dret 0))) else (dret 0))) else (dret 0))) else (dret 0))) else (dret 0))) else (dret 0))) else (dret 0))) else (dret 0))) else (dret 0))) else (dret 0))) else (dret 0))) else (dret 0))) else (dret 0))) else (dbind (dlift (rmI l5 12)) fun x44 => dbind (DL_cell sl sv (8 + x44)) fun x45 => dbind (dlift (dvI l5 12)) fun x46 => dbind (DL_between ((x45 * (x46 + 1)) + (157 * l5)) 0 11) fun x47 => dbind (dread (gfI l2 12 6)) fun x48 => dbind (DL_between (((x45 * (x46 + 1)) + (157 * l5)) >>> ((3 : Int32) &&& 31)) 0 x48) fun x49 => dbind (dread (gfI l2 12 6)) fun x50 => dbind (DL_between (((x45 * (x46 + 1)) + (157 * l5)) >>> ((5 : Int32) &&& 31)) 0 x50) fun x51 => dbind (dread (isC l2 12)) fun x52 => dbind (DX12_copy l2) fun x53 => (if 5 ≤ x47 then ((if x47 = 5 then (dbind (DL_between (((x45 * (x46 + 1)) + (157 * l5)) >>> ((4 : Int32) &&& 31)) 0 8) fun x69 => dbind (dread (gfI l2 12 6)) fun x70 => (if x70 ≤ x49 then (DL_law_b308 sl sv k41 l2 l3 l4 l5 x49 x53 x69 0) else ((if 8 ≤ x69 then (DL_law_b308 sl sv k41 l2 l3 l4 l5 x49 x53 x69 0) else (dbind (dread (gfR l2 12 16)) fun x73 => dbind (dread (aald x73 x49)) fun x74 => dbind (dread (iald x74 4)) fun x75 => (if ((x75 >>> (x69 &&& 31)) &&& 1) = 0 then (DL_law_b308 sl sv k41 l2 l3 l4 l5 x49 x53 x69 1) else (DL_law_b308 sl sv k41 l2 l3 l4 l5 x49 x53 x69 0))))))) else ((if 8 ≤ x47 then ((if x47 = 8 then (dbind (DL_between (((x45 * (x46 + 1)) + (157 * l5)) >>> ((4 : Int32) &&& 31)) 0 7) fun x64 => (if x64 = 4 then (dbind (DL_between (((x45 * (x46 + 1)) + (157 * l5)) >>> ((7 : Int32) &&& 31)) 0 16) fun x68 => DL_law_b748 sl sv k41 l2 l3 l4 l5 ((x45 * (x46 + 1)) + (157 * l5)) x53 0 x64 x68) else ((if x64 = 3 then (dbind (DL_between (((x45 * (x46 + 1)) + (157 * l5)) >>> ((7 : Int32) &&& 31)) 0 2) fun x67 => DL_law_b748 sl sv k41 l2 l3 l4 l5 ((x45 * (x46 + 1)) + (157 * l5)) x53 0 x64 x67) else (DL_law_b748 sl sv k41 l2 l3 l4 l5 ((x45 * (x46 + 1)) + (157 * l5)) x53 0 x64 x49))))) else ((if x47 = 9 then ((if ((((x45 * (x46 + 1)) + (157 * l5)) >>> ((6 : Int32) &&& 31)) &&& 1) = 0 then (dbind (DL_texts l2 ((x45 * (x46 + 1)) + (157 * l5))) fun x62 => (if x62 = 0 then (dret 0) else (DL_law_b1082 sl sv k41 l2 l3 0 l5 x53 0))) else (DL_law_b1082 sl sv k41 l2 l3 l4 l5 x53 0))) else (dbind (dclW (fun u => FX11_undo_0  u)) fun x59 => (if l4 ≤ 0 then (DL_law_b1064 sl sv k41 l2 l3 l4 l5 x53 0 x59 0) else (DL_law_b1064 sl sv k41 l2 l3 l4 l5 x53 0 x59 1))))))) else (DL_law_L359 sl sv k41 FU l2 l3 l4 l5 ((x45 * (x46 + 1)) + (157 * l5)) x49 x51 x53 0))))) else ((if ((((x45 * (x46 + 1)) + (157 * l5)) >>> ((9 : Int32) &&& 31)) &&& 1) = 0 then (DL_law_b151 sl sv k41 l2 l3 l4 l5 x53 0 (((x45 * (x46 + 1)) + (157 * l5)) >>> ((5 : Int32) &&& 31)) 1 3) else (DL_law_b151 sl sv k41 l2 l3 l4 l5 x53 0 (((x45 * (x46 + 1)) + (157 * l5)) >>> ((5 : Int32) &&& 31)) 1 12))))))
theorem bDL_law_41 {G : Gt} {X : Xt} {w' : Wd} {v : Int32} (hX : CxOk G X cL_law 17 RL (some (.int v), w'.1, w'.2.1, w'.2.2) 1000) (hR : LwR G X v w') {k41 : Nat → Nat → Int32 → Int32 → Dm Int32} (hk41 : ∀ (l2 : Nat) (l3 : Nat) (l4 : Int32) (l5 : Int32) (w : Wd), (k41 l2 l3 l4 l5).1 w = some (v, w') → WM G X 41 [(0, .ref 1999999), (1, .ref 0), (2, .ref l2), (3, .ref l3), (4, .int l4), (5, .int l5)] [] w.1 w.2.1 w.2.2) (l2 : Nat) (l3 : Nat) (l4 : Int32) (l5 : Int32) (w : Wd) (h : (DL_law_b41 (gS G).2.1 (gS G).2.2 k41 l2 l3 l4 l5).1 w = some (v, w')) : WM G X 41 [(0, .ref 1999999), (1, .ref 0), (2, .ref l2), (3, .ref l3), (4, .int l4), (5, .int l5)] [] w.1 w.2.1 w.2.2 := by
  unfold DL_law_b41 at h
  refine w_iload 5 41 hX rfl dL_law_41 ?_
  refine w_bipush 20 43 hX ib_20 dL_law_43 ?_
  refine w_icmp_ge (tgt := 1159) 45 hX dL_law_45 (by decide) (fun c1 => ?_) (fun c1 => ?_)
  · have h := dit h c1
    refine w_aload_n 1 1159 hX rfl rfl dL_law_1159 ?_
    refine w_iconst 0 1160 hX ic_0 dL_law_1160 ?_
    obtain ⟨x2, wx2, gx2, h⟩ := d_bind h
    refine w_invVi (av := [.int 0]) (st := []) 1161 hX CI_11 (oks_0 (dcl_ok gx2).1) rfl mv_yX11_days mi_yX11_days ml_L_196 (cs_W (fun G u g => CX11_days_0 (G := G) 0 _ g) gx2) rfl (by decide) (Nat.le_of_ble_eq_true rfl) (d_le h).1 (d_le h).2 dL_law_1161 ?_
    refine w_iconst (-1) 1164 hX ic_m1 dL_law_1164 ?_
    refine w_icmp_ne (tgt := 1371) 1165 hX dL_law_1165 (by decide) (fun c3 => ?_) (fun c3 => ?_)
    · have h := die h c3
      refine w_iconst 0 1371 hX ic_0 dL_law_1371 ?_
      obtain ⟨rfl, rfl⟩ := d_ret h
      exact hR 1372 _ dL_law_1372
    · have h := dit h c3
      refine w_aload_n 1 1168 hX rfl rfl dL_law_1168 ?_
      refine w_bipush 61 1169 hX ib_61 dL_law_1169 ?_
      obtain ⟨x4, wx4, gx4, h⟩ := d_bind h
      refine w_invVi (av := [.int 61]) (st := []) 1171 hX CI_11 (oks_0 (dcl_ok gx4).1) rfl mv_yX11_days mi_yX11_days ml_L_196 (cs_W (fun G u g => CX11_days_0 (G := G) 61 _ g) gx4) rfl (by decide) (Nat.le_of_ble_eq_true rfl) (d_le h).1 (d_le h).2 dL_law_1171 ?_
      refine w_iconst (-1) 1174 hX ic_m1 dL_law_1174 ?_
      refine w_icmp_ne (tgt := 1371) 1175 hX dL_law_1175 (by decide) (fun c5 => ?_) (fun c5 => ?_)
      · have h := die h c5
        refine w_iconst 0 1371 hX ic_0 dL_law_1371 ?_
        obtain ⟨rfl, rfl⟩ := d_ret h
        exact hR 1372 _ dL_law_1372
      · have h := dit h c5
        refine w_aload_n 1 1178 hX rfl rfl dL_law_1178 ?_
        refine w_iconst 2 1179 hX ic_2 dL_law_1179 ?_
        refine w_iconst 0 1180 hX ic_0 dL_law_1180 ?_
        refine w_iconst 1 1181 hX ic_1 dL_law_1181 ?_
        obtain ⟨x6, wx6, gx6, h⟩ := d_bind h
        refine w_invVi (av := [.int 2, .int 0, .int 1]) (st := []) 1182 hX CI_11 (oks_0 (dcl_ok gx6).1) rfl mv_yX11_man mi_yX11_man ml_L_139 (cs_W (fun G u g => CX11_man_0 (G := G) 2 0 1 _ g) gx6) rfl (by decide) (Nat.le_of_ble_eq_true rfl) (d_le h).1 (d_le h).2 dL_law_1182 ?_
        refine w_iconst (-1) 1185 hX ic_m1 dL_law_1185 ?_
        refine w_icmp_ne (tgt := 1371) 1186 hX dL_law_1186 (by decide) (fun c7 => ?_) (fun c7 => ?_)
        · have h := die h c7
          refine w_iconst 0 1371 hX ic_0 dL_law_1371 ?_
          obtain ⟨rfl, rfl⟩ := d_ret h
          exact hR 1372 _ dL_law_1372
        · have h := dit h c7
          refine w_aload_n 1 1189 hX rfl rfl dL_law_1189 ?_
          refine w_iconst 0 1190 hX ic_0 dL_law_1190 ?_
          refine w_bipush 121 1191 hX ib_121 dL_law_1191 ?_
          refine w_iconst 1 1193 hX ic_1 dL_law_1193 ?_
          obtain ⟨x8, wx8, gx8, h⟩ := d_bind h
          refine w_invVi (av := [.int 0, .int 121, .int 1]) (st := []) 1194 hX CI_11 (oks_0 (dcl_ok gx8).1) rfl mv_yX11_man mi_yX11_man ml_L_139 (cs_W (fun G u g => CX11_man_0 (G := G) 0 121 1 _ g) gx8) rfl (by decide) (Nat.le_of_ble_eq_true rfl) (d_le h).1 (d_le h).2 dL_law_1194 ?_
          refine w_iconst (-1) 1197 hX ic_m1 dL_law_1197 ?_
          refine w_icmp_ne (tgt := 1371) 1198 hX dL_law_1198 (by decide) (fun c9 => ?_) (fun c9 => ?_)
          · have h := die h c9
            refine w_iconst 0 1371 hX ic_0 dL_law_1371 ?_
            obtain ⟨rfl, rfl⟩ := d_ret h
            exact hR 1372 _ dL_law_1372
          · have h := dit h c9
            refine w_aload_n 1 1201 hX rfl rfl dL_law_1201 ?_
            refine w_iconst 0 1202 hX ic_0 dL_law_1202 ?_
            refine w_iconst 0 1203 hX ic_0 dL_law_1203 ?_
            refine w_iconst 0 1204 hX ic_0 dL_law_1204 ?_
            obtain ⟨x10, wx10, gx10, h⟩ := d_bind h
            refine w_invVi (av := [.int 0, .int 0, .int 0]) (st := []) 1205 hX CI_11 (oks_0 (dcl_ok gx10).1) rfl mv_yX11_man mi_yX11_man ml_L_139 (cs_W (fun G u g => CX11_man_0 (G := G) 0 0 0 _ g) gx10) rfl (by decide) (Nat.le_of_ble_eq_true rfl) (d_le h).1 (d_le h).2 dL_law_1205 ?_
            refine w_iconst (-1) 1208 hX ic_m1 dL_law_1208 ?_
            refine w_icmp_ne (tgt := 1371) 1209 hX dL_law_1209 (by decide) (fun c11 => ?_) (fun c11 => ?_)
            · have h := die h c11
              refine w_iconst 0 1371 hX ic_0 dL_law_1371 ?_
              obtain ⟨rfl, rfl⟩ := d_ret h
              exact hR 1372 _ dL_law_1372
            · have h := dit h c11
              refine w_aload_n 1 1212 hX rfl rfl dL_law_1212 ?_
              refine w_iconst 0 1213 hX ic_0 dL_law_1213 ?_
              refine w_iconst 0 1214 hX ic_0 dL_law_1214 ?_
              refine w_bipush 10 1215 hX ib_10 dL_law_1215 ?_
              obtain ⟨x12, wx12, gx12, h⟩ := d_bind h
              refine w_invVi (av := [.int 0, .int 0, .int 10]) (st := []) 1217 hX CI_11 (oks_0 (dcl_ok gx12).1) rfl mv_yX11_man mi_yX11_man ml_L_139 (cs_W (fun G u g => CX11_man_0 (G := G) 0 0 10 _ g) gx12) rfl (by decide) (Nat.le_of_ble_eq_true rfl) (d_le h).1 (d_le h).2 dL_law_1217 ?_
              refine w_iconst (-1) 1220 hX ic_m1 dL_law_1220 ?_
              refine w_icmp_ne (tgt := 1371) 1221 hX dL_law_1221 (by decide) (fun c13 => ?_) (fun c13 => ?_)
              · have h := die h c13
                refine w_iconst 0 1371 hX ic_0 dL_law_1371 ?_
                obtain ⟨rfl, rfl⟩ := d_ret h
                exact hR 1372 _ dL_law_1372
              · have h := dit h c13
                refine w_aload_n 1 1224 hX rfl rfl dL_law_1224 ?_
                refine w_iconst 0 1225 hX ic_0 dL_law_1225 ?_
                refine w_iconst 0 1226 hX ic_0 dL_law_1226 ?_
                refine w_bipush 100 1227 hX ib_100 dL_law_1227 ?_
                obtain ⟨x14, wx14, gx14, h⟩ := d_bind h
                refine w_invVi (av := [.int 0, .int 0, .int 100]) (st := []) 1229 hX CI_11 (oks_0 (dcl_ok gx14).1) rfl mv_yX11_set mi_yX11_set ml_L_148 (cs_W (fun G u g => CX11_set_0 (G := G) 0 0 100 _ g) gx14) rfl (by decide) (Nat.le_of_ble_eq_true rfl) (d_le h).1 (d_le h).2 dL_law_1229 ?_
                refine w_if_ne (tgt := 1371) 1232 hX dL_law_1232 (by decide) (fun c15 => ?_) (fun c15 => ?_)
                · have h := die h c15
                  refine w_iconst 0 1371 hX ic_0 dL_law_1371 ?_
                  obtain ⟨rfl, rfl⟩ := d_ret h
                  exact hR 1372 _ dL_law_1372
                · have h := dit h c15
                  refine w_aload_n 1 1235 hX rfl rfl dL_law_1235 ?_
                  refine w_iconst 1 1236 hX ic_1 dL_law_1236 ?_
                  refine w_iconst 0 1237 hX ic_0 dL_law_1237 ?_
                  refine w_bipush 10 1238 hX ib_10 dL_law_1238 ?_
                  obtain ⟨x16, wx16, gx16, h⟩ := d_bind h
                  refine w_invVi (av := [.int 1, .int 0, .int 10]) (st := []) 1240 hX CI_11 (oks_0 (dcl_ok gx16).1) rfl mv_yX11_set mi_yX11_set ml_L_148 (cs_W (fun G u g => CX11_set_0 (G := G) 1 0 10 _ g) gx16) rfl (by decide) (Nat.le_of_ble_eq_true rfl) (d_le h).1 (d_le h).2 dL_law_1240 ?_
                  refine w_if_ne (tgt := 1371) 1243 hX dL_law_1243 (by decide) (fun c17 => ?_) (fun c17 => ?_)
                  · have h := die h c17
                    refine w_iconst 0 1371 hX ic_0 dL_law_1371 ?_
                    obtain ⟨rfl, rfl⟩ := d_ret h
                    exact hR 1372 _ dL_law_1372
                  · have h := dit h c17
                    refine w_aload_n 1 1246 hX rfl rfl dL_law_1246 ?_
                    refine w_iconst 3 1247 hX ic_3 dL_law_1247 ?_
                    refine w_iconst 2 1248 hX ic_2 dL_law_1248 ?_
                    refine w_iconst 0 1249 hX ic_0 dL_law_1249 ?_
                    obtain ⟨x18, wx18, gx18, h⟩ := d_bind h
                    refine w_invVi (av := [.int 3, .int 2, .int 0]) (st := []) 1250 hX CI_11 (oks_0 (dcl_ok gx18).1) rfl mv_yX11_set mi_yX11_set ml_L_148 (cs_W (fun G u g => CX11_set_0 (G := G) 3 2 0 _ g) gx18) rfl (by decide) (Nat.le_of_ble_eq_true rfl) (d_le h).1 (d_le h).2 dL_law_1250 ?_
                    refine w_if_ne (tgt := 1371) 1253 hX dL_law_1253 (by decide) (fun c19 => ?_) (fun c19 => ?_)
                    · have h := die h c19
                      refine w_iconst 0 1371 hX ic_0 dL_law_1371 ?_
                      obtain ⟨rfl, rfl⟩ := d_ret h
                      exact hR 1372 _ dL_law_1372
                    · have h := dit h c19
                      refine w_aload_n 1 1256 hX rfl rfl dL_law_1256 ?_
                      refine w_iconst 4 1257 hX ic_4 dL_law_1257 ?_
                      refine w_bipush 16 1258 hX ib_16 dL_law_1258 ?_
                      refine w_iconst 0 1260 hX ic_0 dL_law_1260 ?_
                      obtain ⟨x20, wx20, gx20, h⟩ := d_bind h
                      refine w_invVi (av := [.int 4, .int 16, .int 0]) (st := []) 1261 hX CI_11 (oks_0 (dcl_ok gx20).1) rfl mv_yX11_set mi_yX11_set ml_L_148 (cs_W (fun G u g => CX11_set_0 (G := G) 4 16 0 _ g) gx20) rfl (by decide) (Nat.le_of_ble_eq_true rfl) (d_le h).1 (d_le h).2 dL_law_1261 ?_
                      refine w_if_ne (tgt := 1371) 1264 hX dL_law_1264 (by decide) (fun c21 => ?_) (fun c21 => ?_)
                      · have h := die h c21
                        refine w_iconst 0 1371 hX ic_0 dL_law_1371 ?_
                        obtain ⟨rfl, rfl⟩ := d_ret h
                        exact hR 1372 _ dL_law_1372
                      · have h := dit h c21
                        refine w_aload_n 1 1267 hX rfl rfl dL_law_1267 ?_
                        refine w_iconst 5 1268 hX ic_5 dL_law_1268 ?_
                        refine w_aload_n 2 1269 hX rfl rfl dL_law_1269 ?_
                        obtain ⟨x22, gx22, h⟩ := d_rd h
                        refine x_getIN 1270 hX CI_12 gx22 rfl fl_L_37 rfl dL_law_1270 ?_
                        refine w_iconst 0 1273 hX ic_0 dL_law_1273 ?_
                        obtain ⟨x23, wx23, gx23, h⟩ := d_bind h
                        refine w_invVi (av := [.int 5, .int x22, .int 0]) (st := []) 1274 hX CI_11 (oks_0 (dcl_ok gx23).1) rfl mv_yX11_set mi_yX11_set ml_L_148 (cs_W (fun G u g => CX11_set_0 (G := G) 5 x22 0 _ g) gx23) rfl (by decide) (Nat.le_of_ble_eq_true rfl) (d_le h).1 (d_le h).2 dL_law_1274 ?_
                        refine w_if_ne (tgt := 1371) 1277 hX dL_law_1277 (by decide) (fun c24 => ?_) (fun c24 => ?_)
                        · have h := die h c24
                          refine w_iconst 0 1371 hX ic_0 dL_law_1371 ?_
                          obtain ⟨rfl, rfl⟩ := d_ret h
                          exact hR 1372 _ dL_law_1372
                        · have h := dit h c24
                          refine w_aload_n 1 1280 hX rfl rfl dL_law_1280 ?_
                          refine w_iconst (-1) 1281 hX ic_m1 dL_law_1281 ?_
                          refine w_iconst 0 1282 hX ic_0 dL_law_1282 ?_
                          obtain ⟨x25, wx25, gx25, h⟩ := d_bind h
                          refine w_invVi (av := [.int (-1), .int 0]) (st := []) 1283 hX CI_11 (oks_0 (dcl_ok gx25).1) rfl mv_yX11_teach mi_yX11_teach ml_L_144 (cs_W (fun G u g => CX11_teach_0 (G := G) (-1) 0 _ g) gx25) rfl (by decide) (Nat.le_of_ble_eq_true rfl) (d_le h).1 (d_le h).2 dL_law_1283 ?_
                          refine w_if_ne (tgt := 1371) 1286 hX dL_law_1286 (by decide) (fun c26 => ?_) (fun c26 => ?_)
                          · have h := die h c26
                            refine w_iconst 0 1371 hX ic_0 dL_law_1371 ?_
                            obtain ⟨rfl, rfl⟩ := d_ret h
                            exact hR 1372 _ dL_law_1372
                          · have h := dit h c26
                            refine w_aload_n 1 1289 hX rfl rfl dL_law_1289 ?_
                            refine w_iconst 0 1290 hX ic_0 dL_law_1290 ?_
                            refine w_iconst (-1) 1291 hX ic_m1 dL_law_1291 ?_
                            obtain ⟨x27, wx27, gx27, h⟩ := d_bind h
                            refine w_invVi (av := [.int 0, .int (-1)]) (st := []) 1292 hX CI_11 (oks_0 (dcl_ok gx27).1) rfl mv_yX11_teach mi_yX11_teach ml_L_144 (cs_W (fun G u g => CX11_teach_0 (G := G) 0 (-1) _ g) gx27) rfl (by decide) (Nat.le_of_ble_eq_true rfl) (d_le h).1 (d_le h).2 dL_law_1292 ?_
                            refine w_if_ne (tgt := 1371) 1295 hX dL_law_1295 (by decide) (fun c28 => ?_) (fun c28 => ?_)
                            · have h := die h c28
                              refine w_iconst 0 1371 hX ic_0 dL_law_1371 ?_
                              obtain ⟨rfl, rfl⟩ := d_ret h
                              exact hR 1372 _ dL_law_1372
                            · have h := dit h c28
                              refine w_aload_n 1 1298 hX rfl rfl dL_law_1298 ?_
                              refine w_iconst 0 1299 hX ic_0 dL_law_1299 ?_
                              refine w_iconst 0 1300 hX ic_0 dL_law_1300 ?_
                              refine w_iconst 0 1301 hX ic_0 dL_law_1301 ?_
                              obtain ⟨x29, wx29, gx29, h⟩ := d_bind h
                              refine w_invVi (av := [.int 0, .int 0, .int 0]) (st := []) 1302 hX CI_11 (oks_0 (dcl_ok gx29).1) rfl mv_yX11_send mi_yX11_send ml_L_199 (cs_W (fun G u g => CX11_send_0 (G := G) 0 0 0 _ g) gx29) rfl (by decide) (Nat.le_of_ble_eq_true rfl) (d_le h).1 (d_le h).2 dL_law_1302 ?_
                              refine w_if_ne (tgt := 1371) 1305 hX dL_law_1305 (by decide) (fun c30 => ?_) (fun c30 => ?_)
                              · have h := die h c30
                                refine w_iconst 0 1371 hX ic_0 dL_law_1371 ?_
                                obtain ⟨rfl, rfl⟩ := d_ret h
                                exact hR 1372 _ dL_law_1372
                              · have h := dit h c30
                                refine w_aload_n 1 1308 hX rfl rfl dL_law_1308 ?_
                                refine w_bipush 8 1309 hX ib_8 dL_law_1309 ?_
                                obtain ⟨x31, wx31, gx31, h⟩ := d_bind h
                                refine w_invVi (av := [.int 8]) (st := []) 1311 hX CI_11 (oks_0 (dcl_ok gx31).1) rfl mv_yX11_weight mi_yX11_weight ml_L_209 (cs_R (fun G g => CX11_weight_0 (G := G) 8 _ g) gx31) rfl (by decide) (Nat.le_of_ble_eq_true rfl) (d_le h).1 (d_le h).2 dL_law_1311 ?_
                                refine w_iconst (-1) 1314 hX ic_m1 dL_law_1314 ?_
                                refine w_icmp_ne (tgt := 1371) 1315 hX dL_law_1315 (by decide) (fun c32 => ?_) (fun c32 => ?_)
                                · have h := die h c32
                                  refine w_iconst 0 1371 hX ic_0 dL_law_1371 ?_
                                  obtain ⟨rfl, rfl⟩ := d_ret h
                                  exact hR 1372 _ dL_law_1372
                                · have h := dit h c32
                                  refine w_aload_n 1 1318 hX rfl rfl dL_law_1318 ?_
                                  refine w_iconst 2 1319 hX ic_2 dL_law_1319 ?_
                                  refine w_iconst 0 1320 hX ic_0 dL_law_1320 ?_
                                  obtain ⟨x33, wx33, gx33, h⟩ := d_bind h
                                  refine w_invVi (av := [.int 2, .int 0]) (st := []) 1321 hX CI_11 (oks_0 (dcl_ok gx33).1) rfl mv_yX11_country mi_yX11_country ml_L_211 (cs_R (fun G g => CX11_country_0 (G := G) 2 0 _ g) gx33) rfl (by decide) (Nat.le_of_ble_eq_true rfl) (d_le h).1 (d_le h).2 dL_law_1321 ?_
                                  refine w_iconst (-1) 1324 hX ic_m1 dL_law_1324 ?_
                                  refine w_icmp_ne (tgt := 1371) 1325 hX dL_law_1325 (by decide) (fun c34 => ?_) (fun c34 => ?_)
                                  · have h := die h c34
                                    refine w_iconst 0 1371 hX ic_0 dL_law_1371 ?_
                                    obtain ⟨rfl, rfl⟩ := d_ret h
                                    exact hR 1372 _ dL_law_1372
                                  · have h := dit h c34
                                    refine w_aload_n 1 1328 hX rfl rfl dL_law_1328 ?_
                                    refine w_iconst 0 1329 hX ic_0 dL_law_1329 ?_
                                    refine w_iconst 5 1330 hX ic_5 dL_law_1330 ?_
                                    obtain ⟨x35, wx35, gx35, h⟩ := d_bind h
                                    refine w_invVi (av := [.int 0, .int 5]) (st := []) 1331 hX CI_11 (oks_0 (dcl_ok gx35).1) rfl mv_yX11_country mi_yX11_country ml_L_211 (cs_R (fun G g => CX11_country_0 (G := G) 0 5 _ g) gx35) rfl (by decide) (Nat.le_of_ble_eq_true rfl) (d_le h).1 (d_le h).2 dL_law_1331 ?_
                                    refine w_iconst (-1) 1334 hX ic_m1 dL_law_1334 ?_
                                    refine w_icmp_ne (tgt := 1371) 1335 hX dL_law_1335 (by decide) (fun c36 => ?_) (fun c36 => ?_)
                                    · have h := die h c36
                                      refine w_iconst 0 1371 hX ic_0 dL_law_1371 ?_
                                      obtain ⟨rfl, rfl⟩ := d_ret h
                                      exact hR 1372 _ dL_law_1372
                                    · have h := dit h c36
                                      refine w_aload_n 1 1338 hX rfl rfl dL_law_1338 ?_
                                      refine w_iconst 0 1339 hX ic_0 dL_law_1339 ?_
                                      refine w_iconst 4 1340 hX ic_4 dL_law_1340 ?_
                                      obtain ⟨x37, wx37, gx37, h⟩ := d_bind h
                                      refine w_invVi (av := [.int 0, .int 4]) (st := []) 1341 hX CI_11 (oks_0 (dcl_ok gx37).1) rfl mv_yX11_book mi_yX11_book ml_L_214 (cs_R (fun G g => CX11_book_0 (G := G) 0 4 _ g) gx37) rfl (by decide) (Nat.le_of_ble_eq_true rfl) (d_le h).1 (d_le h).2 dL_law_1341 ?_
                                      refine w_bipush (-2) 1344 hX ib_m2 dL_law_1344 ?_
                                      refine w_icmp_ne (tgt := 1371) 1346 hX dL_law_1346 (by decide) (fun c38 => ?_) (fun c38 => ?_)
                                      · have h := die h c38
                                        refine w_iconst 0 1371 hX ic_0 dL_law_1371 ?_
                                        obtain ⟨rfl, rfl⟩ := d_ret h
                                        exact hR 1372 _ dL_law_1372
                                      · have h := dit h c38
                                        refine w_aload_n 1 1349 hX rfl rfl dL_law_1349 ?_
                                        refine w_bipush 15 1350 hX ib_15 dL_law_1350 ?_
                                        obtain ⟨x39, wx39, gx39, h⟩ := d_bind h
                                        refine w_invVi (av := [.int 15]) (st := []) 1352 hX CI_11 (oks_0 (dcl_ok gx39).1) rfl mv_yX11_look mi_yX11_look ml_L_206 (cs_R (fun G g => CX11_look_0 (G := G) 15 _ g) gx39) rfl (by decide) (Nat.le_of_ble_eq_true rfl) (d_le h).1 (d_le h).2 dL_law_1352 ?_
                                        refine w_iconst (-1) 1355 hX ic_m1 dL_law_1355 ?_
                                        refine w_icmp_ne (tgt := 1371) 1356 hX dL_law_1356 (by decide) (fun c40 => ?_) (fun c40 => ?_)
                                        · have h := die h c40
                                          refine w_iconst 0 1371 hX ic_0 dL_law_1371 ?_
                                          obtain ⟨rfl, rfl⟩ := d_ret h
                                          exact hR 1372 _ dL_law_1372
                                        · have h := dit h c40
                                          refine w_aload_n 2 1359 hX rfl rfl dL_law_1359 ?_
                                          refine w_aload_n 1 1360 hX rfl rfl dL_law_1360 ?_
                                          obtain ⟨x41, gx41, h⟩ := d_rd h
                                          obtain ⟨x42, wx42, gx42, h⟩ := d_bind h
                                          refine w_invVi (av := [.ref 0]) (st := []) 1361 hX CI_12 (isC_ok gx41) rfl mv_yX12_isSame mi_yX12_isSame ml_L_182 (CDX12_isSame l2 gx42) rfl (by decide) (Nat.le_of_ble_eq_true rfl) (d_le h).1 (d_le h).2 dL_law_1361 ?_
                                          refine w_if_eq (tgt := 1371) 1364 hX dL_law_1364 (by decide) (fun c43 => ?_) (fun c43 => ?_)
                                          · have h := dit h c43
                                            refine w_iconst 0 1371 hX ic_0 dL_law_1371 ?_
                                            obtain ⟨rfl, rfl⟩ := d_ret h
                                            exact hR 1372 _ dL_law_1372
                                          · have h := die h c43
                                            refine w_iconst 1 1367 hX ic_1 dL_law_1367 ?_
                                            refine w_goto (tgt := 1372) 1368 hX (by decide) dL_law_1368 ?_
                                            obtain ⟨rfl, rfl⟩ := d_ret h
                                            exact hR 1372 _ dL_law_1372
  · have h := die h c1
    refine w_aload_n 0 48 hX rfl rfl dL_law_48 ?_
    refine w_bipush 8 49 hX ib_8 dL_law_49 ?_
    refine w_iload 5 51 hX rfl dL_law_51 ?_
    refine w_bipush 12 53 hX ib_12 dL_law_53 ?_
    obtain ⟨x44, gx44, h⟩ := d_lf h
    obtain ⟨qx44, jx44⟩ := rmI_ok gx44
    refine w_irem 55 hX qx44 dL_law_55 ?_
    rw [jx44]
    refine w_iadd 56 hX dL_law_56 ?_
    obtain ⟨x45, wx45, gx45, h⟩ := d_bind h
    refine w_invSi (av := [.ref 1999999, .int (8 + x44)]) (st := []) 57 hX ms_yL_cell mi_yL_cell ml_L_111 (CDL_cell (8 + x44) gx45) rfl (by decide) (Nat.le_of_ble_eq_true rfl) (d_le h).1 (d_le h).2 dL_law_57 ?_
    refine w_iload 5 60 hX rfl dL_law_60 ?_
    refine w_bipush 12 62 hX ib_12 dL_law_62 ?_
    obtain ⟨x46, gx46, h⟩ := d_lf h
    obtain ⟨qx46, jx46⟩ := dvI_ok gx46
    refine w_idiv 64 hX qx46 dL_law_64 ?_
    rw [jx46]
    refine w_iconst 1 65 hX ic_1 dL_law_65 ?_
    refine w_iadd 66 hX dL_law_66 ?_
    refine w_imul 67 hX dL_law_67 ?_
    refine w_sipush 157 68 hX isp_157 dL_law_68 ?_
    refine w_iload 5 71 hX rfl dL_law_71 ?_
    refine w_imul 73 hX dL_law_73 ?_
    refine w_iadd 74 hX dL_law_74 ?_
    refine w_istore (lv' := [(6, .int ((x45 * (x46 + 1)) + (157 * l5))), (0, .ref 1999999), (1, .ref 0), (2, .ref l2), (3, .ref l3), (4, .int l4), (5, .int l5)]) 75 hX dL_law_75 (by decide) rfl ?_
    refine w_iload 0 77 hX rfl dL_law_77 ?_
    refine w_iconst 0 79 hX ic_0 dL_law_79 ?_
    refine w_bipush 11 80 hX ib_11 dL_law_80 ?_
    obtain ⟨x47, wx47, gx47, h⟩ := d_bind h
    refine w_invSi (av := [.int ((x45 * (x46 + 1)) + (157 * l5)), .int 0, .int 11]) (st := []) 82 hX ms_yL_between mi_yL_between ml_L_43 (CDL_between ((x45 * (x46 + 1)) + (157 * l5)) 0 11 gx47) rfl (by decide) (Nat.le_of_ble_eq_true rfl) (d_le h).1 (d_le h).2 dL_law_82 ?_
    refine w_istore (lv' := [(7, .int x47), (6, .int ((x45 * (x46 + 1)) + (157 * l5))), (0, .ref 1999999), (1, .ref 0), (2, .ref l2), (3, .ref l3), (4, .int l4), (5, .int l5)]) 85 hX dL_law_85 (by decide) rfl ?_
    refine w_iload 1 87 hX rfl dL_law_87 ?_
    refine w_iconst 3 89 hX ic_3 dL_law_89 ?_
    refine w_ishr 90 hX dL_law_90 ?_
    refine w_iconst 0 91 hX ic_0 dL_law_91 ?_
    refine w_aload_n 4 92 hX rfl rfl dL_law_92 ?_
    obtain ⟨x48, gx48, h⟩ := d_rd h
    refine x_getIN 93 hX CI_12 gx48 rfl fl_L_37 rfl dL_law_93 ?_
    obtain ⟨x49, wx49, gx49, h⟩ := d_bind h
    refine w_invSi (av := [.int (((x45 * (x46 + 1)) + (157 * l5)) >>> ((3 : Int32) &&& 31)), .int 0, .int x48]) (st := []) 96 hX ms_yL_between mi_yL_between ml_L_43 (CDL_between (((x45 * (x46 + 1)) + (157 * l5)) >>> ((3 : Int32) &&& 31)) 0 x48 gx49) rfl (by decide) (Nat.le_of_ble_eq_true rfl) (d_le h).1 (d_le h).2 dL_law_96 ?_
    refine w_istore (lv' := [(8, .int x49), (7, .int x47), (6, .int ((x45 * (x46 + 1)) + (157 * l5))), (0, .ref 1999999), (1, .ref 0), (2, .ref l2), (3, .ref l3), (4, .int l4), (5, .int l5)]) 99 hX dL_law_99 (by decide) rfl ?_
    refine w_iload 2 101 hX rfl dL_law_101 ?_
    refine w_iconst 5 103 hX ic_5 dL_law_103 ?_
    refine w_ishr 104 hX dL_law_104 ?_
    refine w_iconst 0 105 hX ic_0 dL_law_105 ?_
    refine w_aload_n 5 106 hX rfl rfl dL_law_106 ?_
    obtain ⟨x50, gx50, h⟩ := d_rd h
    refine x_getIN 107 hX CI_12 gx50 rfl fl_L_37 rfl dL_law_107 ?_
    obtain ⟨x51, wx51, gx51, h⟩ := d_bind h
    refine w_invSi (av := [.int (((x45 * (x46 + 1)) + (157 * l5)) >>> ((5 : Int32) &&& 31)), .int 0, .int x50]) (st := []) 110 hX ms_yL_between mi_yL_between ml_L_43 (CDL_between (((x45 * (x46 + 1)) + (157 * l5)) >>> ((5 : Int32) &&& 31)) 0 x50 gx51) rfl (by decide) (Nat.le_of_ble_eq_true rfl) (d_le h).1 (d_le h).2 dL_law_110 ?_
    refine w_istore (lv' := [(9, .int x51), (8, .int x49), (7, .int x47), (6, .int ((x45 * (x46 + 1)) + (157 * l5))), (0, .ref 1999999), (1, .ref 0), (2, .ref l2), (3, .ref l3), (4, .int l4), (5, .int l5)]) 113 hX dL_law_113 (by decide) rfl ?_
    refine w_aload_n 6 115 hX rfl rfl dL_law_115 ?_
    obtain ⟨x52, gx52, h⟩ := d_rd h
    obtain ⟨x53, wx53, gx53, h⟩ := d_bind h
    refine w_invVr (av := []) (st := []) 116 hX CI_12 (isC_ok gx52) rfl mv_yX12_copy mi_yX12_copy ml_L_186 (CDX12_copy l2 gx53) rfl (by decide) (Nat.le_of_ble_eq_true rfl) (d_le h).1 (d_le h).2 dL_law_116 ?_
    refine w_astore (lv' := [(10, .ref x53), (9, .int x51), (8, .int x49), (7, .int x47), (6, .int ((x45 * (x46 + 1)) + (157 * l5))), (0, .ref 1999999), (1, .ref 0), (2, .ref l2), (3, .ref l3), (4, .int l4), (5, .int l5)]) 119 hX dL_law_119 (by decide) rfl ?_
    refine w_iconst 0 121 hX ic_0 dL_law_121 ?_
    refine w_istore (lv' := [(11, .int 0), (10, .ref x53), (9, .int x51), (8, .int x49), (7, .int x47), (6, .int ((x45 * (x46 + 1)) + (157 * l5))), (0, .ref 1999999), (1, .ref 0), (2, .ref l2), (3, .ref l3), (4, .int l4), (5, .int l5)]) 122 hX dL_law_122 (by decide) rfl ?_
    refine w_iload 4 124 hX rfl dL_law_124 ?_
    refine w_iconst 5 126 hX ic_5 dL_law_126 ?_
    refine w_icmp_ge (tgt := 252) 127 hX dL_law_127 (by decide) (fun c54 => ?_) (fun c54 => ?_)
    · have h := dit h c54
      refine w_iload 4 252 hX rfl dL_law_252 ?_
      refine w_iconst 5 254 hX ic_5 dL_law_254 ?_
      refine w_icmp_ne (tgt := 349) 255 hX dL_law_255 (by decide) (fun c55 => ?_) (fun c55 => ?_)
      · have h := die h c55
        refine w_iload 4 349 hX rfl dL_law_349 ?_
        refine w_bipush 8 351 hX ib_8 dL_law_351 ?_
        refine w_icmp_ge (tgt := 688) 353 hX dL_law_353 (by decide) (fun c56 => ?_) (fun c56 => ?_)
        · have h := dit h c56
          refine w_iload 4 688 hX rfl dL_law_688 ?_
          refine w_bipush 8 690 hX ib_8 dL_law_690 ?_
          refine w_icmp_ne (tgt := 1015) 692 hX dL_law_692 (by decide) (fun c57 => ?_) (fun c57 => ?_)
          · have h := die h c57
            refine w_iload 4 1015 hX rfl dL_law_1015 ?_
            refine w_bipush 9 1017 hX ib_9 dL_law_1017 ?_
            refine w_icmp_ne (tgt := 1050) 1019 hX dL_law_1019 (by decide) (fun c58 => ?_) (fun c58 => ?_)
            · have h := die h c58
              refine w_aload_n 7 1050 hX rfl rfl dL_law_1050 ?_
              obtain ⟨x59, wx59, gx59, h⟩ := d_bind h
              refine w_invVi (av := []) (st := []) 1051 hX CI_11 (oks_0 (dcl_ok gx59).1) rfl mv_yX11_undo mi_yX11_undo ml_L_202 (cs_W (fun G u g => CX11_undo_0 (G := G)  _ g) gx59) rfl (by decide) (Nat.le_of_ble_eq_true rfl) (d_le h).1 (d_le h).2 dL_law_1051 ?_
              refine w_iload 10 1054 hX rfl dL_law_1054 ?_
              refine w_if_le (tgt := 1063) 1056 hX dL_law_1056 (by decide) (fun c60 => ?_) (fun c60 => ?_)
              · have h := dit h c60
                refine w_iconst 0 1063 hX ic_0 dL_law_1063 ?_
                exact w_sub [6, 7, 8, 9, 10, 11, 1, 0] rfl (bDL_law_1064 hX hR hk41 l2 l3 l4 l5 x53 0 x59 0 _ h)
              · have h := die h c60
                refine w_iconst 1 1059 hX ic_1 dL_law_1059 ?_
                refine w_goto (tgt := 1064) 1060 hX (by decide) dL_law_1060 ?_
                exact w_sub [6, 7, 8, 9, 10, 11, 1, 0] rfl (bDL_law_1064 hX hR hk41 l2 l3 l4 l5 x53 0 x59 1 _ h)
            · have h := dit h c58
              refine w_iload 5 1022 hX rfl dL_law_1022 ?_
              refine w_bipush 6 1024 hX ib_6 dL_law_1024 ?_
              refine w_ishr 1026 hX dL_law_1026 ?_
              refine w_iconst 1 1027 hX ic_1 dL_law_1027 ?_
              refine w_iand 1028 hX dL_law_1028 ?_
              refine w_if_ne (tgt := 1082) 1029 hX dL_law_1029 (by decide) (fun c61 => ?_) (fun c61 => ?_)
              · have h := die h c61
                exact w_sub [6, 7, 8, 9, 10, 11, 1, 0] rfl (bDL_law_1082 hX hR hk41 l2 l3 l4 l5 x53 0 _ h)
              · have h := dit h c61
                refine w_aload_n 7 1032 hX rfl rfl dL_law_1032 ?_
                refine w_aload_n 8 1033 hX rfl rfl dL_law_1033 ?_
                refine w_iload 5 1034 hX rfl dL_law_1034 ?_
                obtain ⟨x62, wx62, gx62, h⟩ := d_bind h
                refine w_invSi (av := [.ref 0, .ref l2, .int ((x45 * (x46 + 1)) + (157 * l5))]) (st := []) 1036 hX ms_yL_texts mi_yL_texts ml_L_168 (CDL_texts l2 ((x45 * (x46 + 1)) + (157 * l5)) gx62) rfl (by decide) (Nat.le_of_ble_eq_true rfl) (d_le h).1 (d_le h).2 dL_law_1036 ?_
                refine w_if_ne (tgt := 1044) 1039 hX dL_law_1039 (by decide) (fun c63 => ?_) (fun c63 => ?_)
                · have h := die h c63
                  refine w_iconst 0 1044 hX ic_0 dL_law_1044 ?_
                  refine w_istore (lv' := [(4, .int 0), (11, .int 0), (10, .ref x53), (9, .int x51), (8, .int x49), (7, .int x47), (6, .int ((x45 * (x46 + 1)) + (157 * l5))), (0, .ref 1999999), (1, .ref 0), (2, .ref l2), (3, .ref l3), (5, .int l5)]) 1045 hX dL_law_1045 (by decide) rfl ?_
                  refine w_goto (tgt := 1082) 1047 hX (by decide) dL_law_1047 ?_
                  exact w_sub [7, 8, 9, 10, 0, 11, 2, 1] rfl (bDL_law_1082 hX hR hk41 l2 l3 0 l5 x53 0 _ h)
                · have h := dit h c63
                  refine w_iconst 0 1042 hX ic_0 dL_law_1042 ?_
                  obtain ⟨rfl, rfl⟩ := d_ret h
                  exact hR 1043 _ dL_law_1043
          · have h := dit h c57
            refine w_iload 5 695 hX rfl dL_law_695 ?_
            refine w_iconst 4 697 hX ic_4 dL_law_697 ?_
            refine w_ishr 698 hX dL_law_698 ?_
            refine w_iconst 0 699 hX ic_0 dL_law_699 ?_
            refine w_bipush 7 700 hX ib_7 dL_law_700 ?_
            obtain ⟨x64, wx64, gx64, h⟩ := d_bind h
            refine w_invSi (av := [.int (((x45 * (x46 + 1)) + (157 * l5)) >>> ((4 : Int32) &&& 31)), .int 0, .int 7]) (st := []) 702 hX ms_yL_between mi_yL_between ml_L_43 (CDL_between (((x45 * (x46 + 1)) + (157 * l5)) >>> ((4 : Int32) &&& 31)) 0 7 gx64) rfl (by decide) (Nat.le_of_ble_eq_true rfl) (d_le h).1 (d_le h).2 dL_law_702 ?_
            refine w_istore (lv' := [(12, .int x64), (11, .int 0), (10, .ref x53), (9, .int x51), (8, .int x49), (7, .int x47), (6, .int ((x45 * (x46 + 1)) + (157 * l5))), (0, .ref 1999999), (1, .ref 0), (2, .ref l2), (3, .ref l3), (4, .int l4), (5, .int l5)]) 705 hX dL_law_705 (by decide) rfl ?_
            refine w_iload 0 707 hX rfl dL_law_707 ?_
            refine w_iconst 4 709 hX ic_4 dL_law_709 ?_
            refine w_icmp_ne (tgt := 727) 710 hX dL_law_710 (by decide) (fun c65 => ?_) (fun c65 => ?_)
            · have h := die h c65
              refine w_iload 0 727 hX rfl dL_law_727 ?_
              refine w_iconst 3 729 hX ic_3 dL_law_729 ?_
              refine w_icmp_ne (tgt := 746) 730 hX dL_law_730 (by decide) (fun c66 => ?_) (fun c66 => ?_)
              · have h := die h c66
                refine w_iload 4 746 hX rfl dL_law_746 ?_
                exact w_sub [7, 8, 9, 10, 11, 12, 6, 2, 1, 0] rfl (bDL_law_748 hX hR hk41 l2 l3 l4 l5 ((x45 * (x46 + 1)) + (157 * l5)) x53 0 x64 x49 _ h)
              · have h := dit h c66
                refine w_iload 6 733 hX rfl dL_law_733 ?_
                refine w_bipush 7 735 hX ib_7 dL_law_735 ?_
                refine w_ishr 737 hX dL_law_737 ?_
                refine w_iconst 0 738 hX ic_0 dL_law_738 ?_
                refine w_iconst 2 739 hX ic_2 dL_law_739 ?_
                obtain ⟨x67, wx67, gx67, h⟩ := d_bind h
                refine w_invSi (av := [.int (((x45 * (x46 + 1)) + (157 * l5)) >>> ((7 : Int32) &&& 31)), .int 0, .int 2]) (st := []) 740 hX ms_yL_between mi_yL_between ml_L_43 (CDL_between (((x45 * (x46 + 1)) + (157 * l5)) >>> ((7 : Int32) &&& 31)) 0 2 gx67) rfl (by decide) (Nat.le_of_ble_eq_true rfl) (d_le h).1 (d_le h).2 dL_law_740 ?_
                refine w_goto (tgt := 748) 743 hX (by decide) dL_law_743 ?_
                exact w_sub [7, 8, 9, 10, 11, 12, 6, 2, 1, 0] rfl (bDL_law_748 hX hR hk41 l2 l3 l4 l5 ((x45 * (x46 + 1)) + (157 * l5)) x53 0 x64 x67 _ h)
            · have h := dit h c65
              refine w_iload 6 713 hX rfl dL_law_713 ?_
              refine w_bipush 7 715 hX ib_7 dL_law_715 ?_
              refine w_ishr 717 hX dL_law_717 ?_
              refine w_iconst 0 718 hX ic_0 dL_law_718 ?_
              refine w_bipush 16 719 hX ib_16 dL_law_719 ?_
              obtain ⟨x68, wx68, gx68, h⟩ := d_bind h
              refine w_invSi (av := [.int (((x45 * (x46 + 1)) + (157 * l5)) >>> ((7 : Int32) &&& 31)), .int 0, .int 16]) (st := []) 721 hX ms_yL_between mi_yL_between ml_L_43 (CDL_between (((x45 * (x46 + 1)) + (157 * l5)) >>> ((7 : Int32) &&& 31)) 0 16 gx68) rfl (by decide) (Nat.le_of_ble_eq_true rfl) (d_le h).1 (d_le h).2 dL_law_721 ?_
              refine w_goto (tgt := 748) 724 hX (by decide) dL_law_724 ?_
              exact w_sub [7, 8, 9, 10, 11, 12, 6, 2, 1, 0] rfl (bDL_law_748 hX hR hk41 l2 l3 l4 l5 ((x45 * (x46 + 1)) + (157 * l5)) x53 0 x64 x68 _ h)
        · have h := die h c56
          refine w_iconst 0 356 hX ic_0 dL_law_356 ?_
          refine w_istore (lv' := [(12, .int 0), (11, .int 0), (10, .ref x53), (9, .int x51), (8, .int x49), (7, .int x47), (6, .int ((x45 * (x46 + 1)) + (157 * l5))), (0, .ref 1999999), (1, .ref 0), (2, .ref l2), (3, .ref l3), (4, .int l4), (5, .int l5)]) 357 hX dL_law_357 (by decide) rfl ?_
          exact w_sub [7, 8, 9, 10, 11, 12, 6, 4, 3, 2, 0] rfl (lDL_law_359 hX hR hk41 FU l2 l3 l4 l5 ((x45 * (x46 + 1)) + (157 * l5)) x49 x51 x53 0 _ h)
      · have h := dit h c55
        refine w_iload 5 258 hX rfl dL_law_258 ?_
        refine w_iconst 4 260 hX ic_4 dL_law_260 ?_
        refine w_ishr 261 hX dL_law_261 ?_
        refine w_iconst 0 262 hX ic_0 dL_law_262 ?_
        refine w_bipush 8 263 hX ib_8 dL_law_263 ?_
        obtain ⟨x69, wx69, gx69, h⟩ := d_bind h
        refine w_invSi (av := [.int (((x45 * (x46 + 1)) + (157 * l5)) >>> ((4 : Int32) &&& 31)), .int 0, .int 8]) (st := []) 265 hX ms_yL_between mi_yL_between ml_L_43 (CDL_between (((x45 * (x46 + 1)) + (157 * l5)) >>> ((4 : Int32) &&& 31)) 0 8 gx69) rfl (by decide) (Nat.le_of_ble_eq_true rfl) (d_le h).1 (d_le h).2 dL_law_265 ?_
        refine w_istore (lv' := [(12, .int x69), (11, .int 0), (10, .ref x53), (9, .int x51), (8, .int x49), (7, .int x47), (6, .int ((x45 * (x46 + 1)) + (157 * l5))), (0, .ref 1999999), (1, .ref 0), (2, .ref l2), (3, .ref l3), (4, .int l4), (5, .int l5)]) 268 hX dL_law_268 (by decide) rfl ?_
        refine w_iload 4 270 hX rfl dL_law_270 ?_
        refine w_aload_n 9 272 hX rfl rfl dL_law_272 ?_
        obtain ⟨x70, gx70, h⟩ := d_rd h
        refine x_getIN 273 hX CI_12 gx70 rfl fl_L_37 rfl dL_law_273 ?_
        refine w_icmp_ge (tgt := 307) 276 hX dL_law_276 (by decide) (fun c71 => ?_) (fun c71 => ?_)
        · have h := dit h c71
          refine w_iconst 0 307 hX ic_0 dL_law_307 ?_
          exact w_sub [7, 8, 9, 10, 11, 12, 4, 2, 0] rfl (bDL_law_308 hX hR hk41 l2 l3 l4 l5 x49 x53 x69 0 _ h)
        · have h := die h c71
          refine w_iload 0 279 hX rfl dL_law_279 ?_
          refine w_bipush 8 281 hX ib_8 dL_law_281 ?_
          refine w_icmp_ge (tgt := 307) 283 hX dL_law_283 (by decide) (fun c72 => ?_) (fun c72 => ?_)
          · have h := dit h c72
            refine w_iconst 0 307 hX ic_0 dL_law_307 ?_
            exact w_sub [7, 8, 9, 10, 11, 12, 4, 2, 0] rfl (bDL_law_308 hX hR hk41 l2 l3 l4 l5 x49 x53 x69 0 _ h)
          · have h := die h c72
            refine w_aload_n 9 286 hX rfl rfl dL_law_286 ?_
            obtain ⟨x73, gx73, h⟩ := d_rd h
            refine x_getRN 287 hX CI_12 gx73 rfl fl_L_136 rfl dL_law_287 ?_
            refine w_iload 4 290 hX rfl dL_law_290 ?_
            obtain ⟨x74, gx74, h⟩ := d_rd h
            refine x_aald 292 hX gx74 dL_law_292 ?_
            refine w_iconst 4 293 hX ic_4 dL_law_293 ?_
            obtain ⟨x75, gx75, h⟩ := d_rd h
            refine x_iald 294 hX gx75 dL_law_294 ?_
            refine w_iload 0 295 hX rfl dL_law_295 ?_
            refine w_ishr 297 hX dL_law_297 ?_
            refine w_iconst 1 298 hX ic_1 dL_law_298 ?_
            refine w_iand 299 hX dL_law_299 ?_
            refine w_if_ne (tgt := 307) 300 hX dL_law_300 (by decide) (fun c76 => ?_) (fun c76 => ?_)
            · have h := die h c76
              refine w_iconst 0 307 hX ic_0 dL_law_307 ?_
              exact w_sub [7, 8, 9, 10, 11, 12, 4, 2, 0] rfl (bDL_law_308 hX hR hk41 l2 l3 l4 l5 x49 x53 x69 0 _ h)
            · have h := dit h c76
              refine w_iconst 1 303 hX ic_1 dL_law_303 ?_
              refine w_goto (tgt := 308) 304 hX (by decide) dL_law_304 ?_
              exact w_sub [7, 8, 9, 10, 11, 12, 4, 2, 0] rfl (bDL_law_308 hX hR hk41 l2 l3 l4 l5 x49 x53 x69 1 _ h)
    · have h := die h c54
      refine w_iload 5 130 hX rfl dL_law_130 ?_
      refine w_iconst 5 132 hX ic_5 dL_law_132 ?_
      refine w_ishr 133 hX dL_law_133 ?_
      refine w_iconst 1 134 hX ic_1 dL_law_134 ?_
      refine w_iload 5 135 hX rfl dL_law_135 ?_
      refine w_bipush 9 137 hX ib_9 dL_law_137 ?_
      refine w_ishr 139 hX dL_law_139 ?_
      refine w_iconst 1 140 hX ic_1 dL_law_140 ?_
      refine w_iand 141 hX dL_law_141 ?_
      refine w_if_ne (tgt := 149) 142 hX dL_law_142 (by decide) (fun c77 => ?_) (fun c77 => ?_)
      · have h := die h c77
        refine w_bipush 12 149 hX ib_12 dL_law_149 ?_
        exact w_sub [6, 7, 8, 9, 10, 11, 1, 0] rfl (bDL_law_151 hX hR hk41 l2 l3 l4 l5 x53 0 (((x45 * (x46 + 1)) + (157 * l5)) >>> ((5 : Int32) &&& 31)) 1 12 _ h)
      · have h := dit h c77
        refine w_iconst 3 145 hX ic_3 dL_law_145 ?_
        refine w_goto (tgt := 151) 146 hX (by decide) dL_law_146 ?_
        exact w_sub [6, 7, 8, 9, 10, 11, 1, 0] rfl (bDL_law_151 hX hR hk41 l2 l3 l4 l5 x53 0 (((x45 * (x46 + 1)) + (157 * l5)) >>> ((5 : Int32) &&& 31)) 1 3 _ h)
noncomputable def DL_law_L41 (sl : Nat) (sv : Nat → Int32) : Nat → Nat → Nat → Int32 → Int32 → Dm Int32
  | 0, _, _, _, _ => dno
  | n + 1, l2, l3, l4, l5 => DL_law_b41 sl sv (DL_law_L41 sl sv n) l2 l3 l4 l5
theorem lDL_law_41 {G : Gt} {X : Xt} {w' : Wd} {v : Int32} (hX : CxOk G X cL_law 17 RL (some (.int v), w'.1, w'.2.1, w'.2.2) 1000) (hR : LwR G X v w') : ∀ (n : Nat) (l2 : Nat) (l3 : Nat) (l4 : Int32) (l5 : Int32) (w : Wd), (DL_law_L41 (gS G).2.1 (gS G).2.2 n l2 l3 l4 l5).1 w = some (v, w') → WM G X 41 [(0, .ref 1999999), (1, .ref 0), (2, .ref l2), (3, .ref l3), (4, .int l4), (5, .int l5)] [] w.1 w.2.1 w.2.2 := by
  intro n
  induction n with
  | zero =>
    intro l2 l3 l4 l5 w h
    exact dn_ h
  | succ n ih =>
    intro l2 l3 l4 l5 w h
    exact bDL_law_41 hX hR ih l2 l3 l4 l5 w h
noncomputable def DL_law (sl : Nat) (sv : Nat → Int32) : Dm Int32 :=
  dbind (DL_war sl sv 0) fun x1 => dopt x1 (dret 0) (fun r2 => dbind (dread (isC r2 12)) fun x3 => dbind (DX12_isSame r2) fun x4 => (if x4 = 0 then (dret 0) else (dbind (dnew (nwA 1 6)) fun x6 => DL_law_L41 sl sv FU r2 x6 0 0)))
theorem eDL_law {G : Gt} {X : Xt} {w' : Wd} {v : Int32} (hX : CxOk G X cL_law 17 RL (some (.int v), w'.1, w'.2.1, w'.2.2) 1000) (hR : LwR G X v w') (w : Wd) (h : (DL_law (gS G).2.1 (gS G).2.2 ).1 w = some (v, w')) : WM G X 8 [(0, .ref 1999999), (1, .ref 0)] [] w.1 w.2.1 w.2.2 := by
  unfold DL_law at h
  refine w_aload_n 1 8 hX rfl rfl dL_law_8 ?_
  refine w_aload_n 0 9 hX rfl rfl dL_law_9 ?_
  refine w_iconst 0 10 hX ic_0 dL_law_10 ?_
  obtain ⟨x1, wx1, gx1, h⟩ := d_bind h
  refine w_invS (av := [.ref 0, .ref 1999999, .int 0]) (st := []) 11 hX ms_yL_war mi_yL_war ml_L_178 (CDL_war 0 gx1) rfl (by decide) (Nat.le_of_ble_eq_true rfl) (d_le h).1 (d_le h).2 dL_law_11 ?_
  rcases x1 with _ | r2
  · have h := dopt_n h
    refine w_astore_nN (lv' := [(2, .null), (0, .ref 1999999), (1, .ref 0)]) 14 hX rfl dL_law_14 (by decide) rfl ?_
    refine w_aload_nN 0 15 hX rfl rfl dL_law_15 ?_
    refine w_ifnullN (tgt := 27) 16 hX (by decide) dL_law_16 ?_
    refine w_iconst 0 27 hX ic_0 dL_law_27 ?_
    obtain ⟨rfl, rfl⟩ := d_ret h
    exact hR 28 _ dL_law_28
  · have h := dopt_s h
    refine w_astore_n (lv' := [(2, .ref r2), (0, .ref 1999999), (1, .ref 0)]) 14 hX rfl dL_law_14 (by decide) rfl ?_
    refine w_aload_n 0 15 hX rfl rfl dL_law_15 ?_
    refine w_ifnull 16 hX dL_law_16 ?_
    refine w_aload_n 0 19 hX rfl rfl dL_law_19 ?_
    refine w_aload_n 2 20 hX rfl rfl dL_law_20 ?_
    obtain ⟨x3, gx3, h⟩ := d_rd h
    obtain ⟨x4, wx4, gx4, h⟩ := d_bind h
    refine w_invVi (av := [.ref 0]) (st := []) 21 hX CI_12 (isC_ok gx3) rfl mv_yX12_isSame mi_yX12_isSame ml_L_182 (CDX12_isSame r2 gx4) rfl (by decide) (Nat.le_of_ble_eq_true rfl) (d_le h).1 (d_le h).2 dL_law_21 ?_
    refine w_if_ne (tgt := 29) 24 hX dL_law_24 (by decide) (fun c5 => ?_) (fun c5 => ?_)
    · have h := die h c5
      refine w_bipush 6 29 hX ib_6 dL_law_29 ?_
      obtain ⟨x6, wx6, gx6, h⟩ := d_bind h
      refine x_newW 31 hX gx6 cl_L_38 (d_le h) dL_law_31 ?_
      refine w_astore_n (lv' := [(3, .ref x6), (2, .ref r2), (0, .ref 1999999), (1, .ref 0)]) 34 hX rfl dL_law_34 (by decide) rfl ?_
      refine w_iconst 0 35 hX ic_0 dL_law_35 ?_
      refine w_istore (lv' := [(4, .int 0), (3, .ref x6), (2, .ref r2), (0, .ref 1999999), (1, .ref 0)]) 36 hX dL_law_36 (by decide) rfl ?_
      refine w_iconst 0 38 hX ic_0 dL_law_38 ?_
      refine w_istore (lv' := [(5, .int 0), (4, .int 0), (3, .ref x6), (2, .ref r2), (0, .ref 1999999), (1, .ref 0)]) 39 hX dL_law_39 (by decide) rfl ?_
      exact w_sub [4, 5, 3, 2, 1, 0] rfl (lDL_law_41 hX hR FU r2 x6 0 0 _ h)
    · have h := dit h c5
      refine w_iconst 0 27 hX ic_0 dL_law_27 ?_
      obtain ⟨rfl, rfl⟩ := d_ret h
      exact hR 28 _ dL_law_28
