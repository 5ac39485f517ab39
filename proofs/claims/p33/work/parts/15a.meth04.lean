def FX6_same_34_2000002_b38 (k3 : Int32 → Int32 → Int32 → Int32 → Mem → Option Int32) (l2 l3 l4 l5 t0 : Int32) (u : Mem) : Option Int32 :=
  (if t0 = 0 then (some 0) else ((S_chr 2 (l2 + l5)).bind fun x2 => (rdA u 35 400 (l3 + l5)).bind fun x3 => (if x2 = x3 then (k3 l2 l3 l4 (l5 + 1) u) else (some 0))))
theorem bX6_same_34_2000002_38 {G : Gt} {X : Xt} {v : Int32} {u : Mem} (hX : CxOk G X cX6_same 7 RX6 (some (.int v), (SHg G), (RHg G), u) 7) (hR : CxRet G X (some .boolean) (some (.int v), (SHg G), (RHg G), u)) {k3 : Int32 → Int32 → Int32 → Int32 → Mem → Option Int32} (hk3 : ∀ (l2 l3 l4 l5 : Int32), k3 l2 l3 l4 l5 u = some v → WM G X 3 [(0, .ref 34), (1, .ref 2000002), (2, .int l2), (3, .int l3), (4, .int l4), (5, .int l5)] [] (SHg G) (RHg G) u) (l2 l3 l4 l5 t0 : Int32) (h : FX6_same_34_2000002_b38 k3 l2 l3 l4 l5 t0 u = some v) : WM G X 38 [(0, .ref 34), (1, .ref 2000002), (2, .int l2), (3, .int l3), (4, .int l4), (5, .int l5)] [.int t0] (SHg G) (RHg G) u := by
  unfold FX6_same_34_2000002_b38 at h
  refine w_istore (lv' := [(6, .int t0), (0, .ref 34), (1, .ref 2000002), (2, .int l2), (3, .int l3), (4, .int l4), (5, .int l5)]) 38 hX dX6_same_38 (by decide) rfl ?_
  refine w_iload 0 40 hX rfl dX6_same_40 ?_
  refine w_if_eq (tgt := 65) 42 hX dX6_same_42 (by decide) (fun c1 => ?_) (fun c1 => ?_)
  · have h := it h c1
    refine w_iconst 0 65 hX ic_0 dX6_same_65 ?_
    exact w_zret 66 hX hR (by decide) dX6_same_66 (by cases h; rfl)
  · have h := ie h c1
    refine w_aload_n 2 45 hX rfl rfl dX6_same_45 ?_
    refine w_iload_n 3 46 hX rfl rfl dX6_same_46 ?_
    refine w_iload 6 47 hX rfl dX6_same_47 ?_
    refine w_iadd 49 hX dX6_same_49 ?_
    obtain ⟨x2, gx2, h⟩ := o_bind h
    refine w_S_chr (i := 2) (st := []) 50 hX ml_X6_180 gx2 (by decide) (by decide) (Nat.le_of_ble_eq_true rfl) dX6_same_50 ?_
    refine w_aload_n 1 53 hX rfl rfl dX6_same_53 ?_
    refine w_getR 54 hX CI_6 s_34 rfl r_34_0 fl_X6_11 rfl dX6_same_54 ?_
    refine w_iload_n 4 57 hX rfl rfl dX6_same_57 ?_
    refine w_iload 6 58 hX rfl dX6_same_58 ?_
    refine w_iadd 60 hX dX6_same_60 ?_
    obtain ⟨x3, gx3, h⟩ := o_bind h
    refine w_iald 61 hX s_35 gx3 dX6_same_61 ?_
    refine w_icmp_eq (tgt := 67) 62 hX dX6_same_62 (by decide) (fun c4 => ?_) (fun c4 => ?_)
    · have h := it h c4
      refine w_iinc (lv' := [(5, .int (l5 + 1)), (6, .int t0), (0, .ref 34), (1, .ref 2000002), (2, .int l2), (3, .int l3), (4, .int l4)]) 67 6 hX dX6_same_67 rfl (inc_1 _) (by decide) rfl ?_
      refine w_goto (tgt := 3) 70 hX (by decide) dX6_same_70 ?_
      exact w_sub [2, 3, 4, 5, 6, 0] rfl (hk3 l2 l3 l4 (l5 + 1) h)
    · have h := ie h c4
      refine w_iconst 0 65 hX ic_0 dX6_same_65 ?_
      exact w_zret 66 hX hR (by decide) dX6_same_66 (by cases h; rfl)
def FX6_same_34_2000002_b3 (k3 : Int32 → Int32 → Int32 → Int32 → Mem → Option Int32) (l2 l3 l4 l5 : Int32) (u : Mem) : Option Int32 :=
  (if l4 ≤ (l3 + l5) then (some 1) else ((S_len 2).bind fun x2 => (if x2 ≤ (l2 + l5) then (FX6_same_34_2000002_b38 k3 l2 l3 l4 l5 0 u) else ((if 400 ≤ (l3 + l5) then (FX6_same_34_2000002_b38 k3 l2 l3 l4 l5 0 u) else (FX6_same_34_2000002_b38 k3 l2 l3 l4 l5 1 u))))))
theorem bX6_same_34_2000002_3 {G : Gt} {X : Xt} {v : Int32} {u : Mem} (hX : CxOk G X cX6_same 7 RX6 (some (.int v), (SHg G), (RHg G), u) 7) (hR : CxRet G X (some .boolean) (some (.int v), (SHg G), (RHg G), u)) {k3 : Int32 → Int32 → Int32 → Int32 → Mem → Option Int32} (hk3 : ∀ (l2 l3 l4 l5 : Int32), k3 l2 l3 l4 l5 u = some v → WM G X 3 [(0, .ref 34), (1, .ref 2000002), (2, .int l2), (3, .int l3), (4, .int l4), (5, .int l5)] [] (SHg G) (RHg G) u) (l2 l3 l4 l5 : Int32) (h : FX6_same_34_2000002_b3 k3 l2 l3 l4 l5 u = some v) : WM G X 3 [(0, .ref 34), (1, .ref 2000002), (2, .int l2), (3, .int l3), (4, .int l4), (5, .int l5)] [] (SHg G) (RHg G) u := by
  unfold FX6_same_34_2000002_b3 at h
  refine w_iload_n 3 3 hX rfl rfl dX6_same_3 ?_
  refine w_iload 5 4 hX rfl dX6_same_4 ?_
  refine w_iadd 6 hX dX6_same_6 ?_
  refine w_iload 4 7 hX rfl dX6_same_7 ?_
  refine w_icmp_ge (tgt := 73) 9 hX dX6_same_9 (by decide) (fun c1 => ?_) (fun c1 => ?_)
  · have h := it h c1
    refine w_iconst 1 73 hX ic_1 dX6_same_73 ?_
    exact w_zret 74 hX hR (by decide) dX6_same_74 (by cases h; rfl)
  · have h := ie h c1
    refine w_iload_n 2 12 hX rfl rfl dX6_same_12 ?_
    refine w_iload 5 13 hX rfl dX6_same_13 ?_
    refine w_iadd 15 hX dX6_same_15 ?_
    refine w_aload_n 1 16 hX rfl rfl dX6_same_16 ?_
    obtain ⟨x2, gx2, h⟩ := o_bind h
    refine w_S_len (i := 2) (st := [.int (l2 + l5)]) 17 hX ml_X6_177 gx2 (by decide) (by decide) (Nat.le_of_ble_eq_true rfl) dX6_same_17 ?_
    refine w_icmp_ge (tgt := 37) 20 hX dX6_same_20 (by decide) (fun c3 => ?_) (fun c3 => ?_)
    · have h := it h c3
      refine w_iconst 0 37 hX ic_0 dX6_same_37 ?_
      exact bX6_same_34_2000002_38 hX hR hk3 l2 l3 l4 l5 0 h
    · have h := ie h c3
      refine w_iload_n 3 23 hX rfl rfl dX6_same_23 ?_
      refine w_iload 5 24 hX rfl dX6_same_24 ?_
      refine w_iadd 26 hX dX6_same_26 ?_
      refine w_sipush 400 27 hX isp_400 dX6_same_27 ?_
      refine w_icmp_ge (tgt := 37) 30 hX dX6_same_30 (by decide) (fun c4 => ?_) (fun c4 => ?_)
      · have h := it h c4
        refine w_iconst 0 37 hX ic_0 dX6_same_37 ?_
        exact bX6_same_34_2000002_38 hX hR hk3 l2 l3 l4 l5 0 h
      · have h := ie h c4
        refine w_iconst 1 33 hX ic_1 dX6_same_33 ?_
        refine w_goto (tgt := 38) 34 hX (by decide) dX6_same_34 ?_
        exact bX6_same_34_2000002_38 hX hR hk3 l2 l3 l4 l5 1 h
def FX6_same_34_2000002_L3 : Nat → Int32 → Int32 → Int32 → Int32 → Mem → Option Int32
  | 0, _, _, _, _, _ => none
  | n + 1, l2, l3, l4, l5, u => FX6_same_34_2000002_b3 (FX6_same_34_2000002_L3 n) l2 l3 l4 l5 u
theorem lX6_same_34_2000002_3 {G : Gt} {X : Xt} {v : Int32} {u : Mem} (hX : CxOk G X cX6_same 7 RX6 (some (.int v), (SHg G), (RHg G), u) 7) (hR : CxRet G X (some .boolean) (some (.int v), (SHg G), (RHg G), u)) : ∀ (n : Nat) (l2 l3 l4 l5 : Int32), FX6_same_34_2000002_L3 n l2 l3 l4 l5 u = some v → WM G X 3 [(0, .ref 34), (1, .ref 2000002), (2, .int l2), (3, .int l3), (4, .int l4), (5, .int l5)] [] (SHg G) (RHg G) u := by
  intro n
  induction n with
  | zero =>
    intro l2 l3 l4 l5 h
    exact nn_ h
  | succ n ih =>
    intro l2 l3 l4 l5 h
    exact bX6_same_34_2000002_3 hX hR ih l2 l3 l4 l5 h
def FX6_same_34_2000002 (p2 p3 p4 : Int32) (u : Mem) : Option Int32 :=
  FX6_same_34_2000002_L3 FU p2 p3 p4 0 u
theorem CX6_same_34_2000002 {G : Gt} (p2 p3 p4 : Int32) (u : Mem) {v : Int32} (h : FX6_same_34_2000002 p2 p3 p4 u = some v) : CT G yX6_same cX6_same 7 (some .boolean) 7 [.ref 34, .ref 2000002, .int p2, .int p3, .int p4] (SHg G) (RHg G) u (some (.int v), (SHg G), (RHg G), u) :=
  ct_of (by decide) rfl (Nat.le_of_ble_eq_true rfl) (Nat.le_refl _) (Nat.le_refl _) (fun X hX hR => by
  unfold FX6_same_34_2000002 at h
  refine w_iconst 0 0 hX ic_0 dX6_same_0 ?_
  refine w_istore (lv' := [(5, .int 0), (0, .ref 34), (1, .ref 2000002), (2, .int p2), (3, .int p3), (4, .int p4)]) 1 hX dX6_same_1 (by decide) rfl ?_
  exact w_sub [1, 2, 3, 4, 5, 0] rfl (lX6_same_34_2000002_3 hX hR FU p2 p3 p4 0 h))
def FX6_keyword_34_2000002_b73 (k9 : Int32 → Int32 → Int32 → Int32 → Int32 → Mem → Option Int32) (l2 l3 l4 l5 l6 : Int32) (u : Mem) : Option Int32 :=
  k9 l2 l3 l4 l5 (l6 + 1) u
theorem bX6_keyword_34_2000002_73 {G : Gt} {X : Xt} {v : Int32} {u : Mem} (hX : CxOk G X cX6_keyword 7 RX6 (some (.int v), (SHg G), (RHg G), u) 8) (hR : CxRet G X (some .int) (some (.int v), (SHg G), (RHg G), u)) {k9 : Int32 → Int32 → Int32 → Int32 → Int32 → Mem → Option Int32} (hk9 : ∀ (l2 l3 l4 l5 l6 : Int32), k9 l2 l3 l4 l5 l6 u = some v → WM G X 9 [(0, .ref 34), (1, .ref 2000002), (2, .int l2), (3, .int l3), (4, .int l4), (5, .int l5), (6, .int l6)] [] (SHg G) (RHg G) u) (l2 l3 l4 l5 l6 : Int32) (h : FX6_keyword_34_2000002_b73 k9 l2 l3 l4 l5 l6 u = some v) : WM G X 73 [(0, .ref 34), (1, .ref 2000002), (2, .int l2), (3, .int l3), (4, .int l4), (5, .int l5), (6, .int l6)] [] (SHg G) (RHg G) u := by
  unfold FX6_keyword_34_2000002_b73 at h
  refine w_iinc (lv' := [(6, .int (l6 + 1)), (0, .ref 34), (1, .ref 2000002), (2, .int l2), (3, .int l3), (4, .int l4), (5, .int l5)]) 73 6 hX dX6_keyword_73 rfl (inc_1 _) (by decide) rfl ?_
  refine w_goto (tgt := 9) 76 hX (by decide) dX6_keyword_76 ?_
  exact w_sub [1, 2, 3, 4, 5, 6, 0] rfl (hk9 l2 l3 l4 l5 (l6 + 1) h)
def FX6_keyword_34_2000002_b64 (k9 : Int32 → Int32 → Int32 → Int32 → Int32 → Mem → Option Int32) (l2 l3 l4 l6 : Int32) (u : Mem) : Option Int32 :=
  FX6_keyword_34_2000002_b73 k9 l2 l3 (l4 + 1) (l6 + 1) l6 u
theorem bX6_keyword_34_2000002_64 {G : Gt} {X : Xt} {v : Int32} {u : Mem} (hX : CxOk G X cX6_keyword 7 RX6 (some (.int v), (SHg G), (RHg G), u) 8) (hR : CxRet G X (some .int) (some (.int v), (SHg G), (RHg G), u)) {k9 : Int32 → Int32 → Int32 → Int32 → Int32 → Mem → Option Int32} (hk9 : ∀ (l2 l3 l4 l5 l6 : Int32), k9 l2 l3 l4 l5 l6 u = some v → WM G X 9 [(0, .ref 34), (1, .ref 2000002), (2, .int l2), (3, .int l3), (4, .int l4), (5, .int l5), (6, .int l6)] [] (SHg G) (RHg G) u) (l2 l3 l4 l6 : Int32) (h : FX6_keyword_34_2000002_b64 k9 l2 l3 l4 l6 u = some v) : WM G X 64 [(0, .ref 34), (1, .ref 2000002), (2, .int l2), (3, .int l3), (4, .int l4), (6, .int l6)] [] (SHg G) (RHg G) u := by
  unfold FX6_keyword_34_2000002_b64 at h
  refine w_iinc (lv' := [(4, .int (l4 + 1)), (0, .ref 34), (1, .ref 2000002), (2, .int l2), (3, .int l3), (6, .int l6)]) 64 4 hX dX6_keyword_64 rfl (inc_1 _) (by decide) rfl ?_
  refine w_iload 5 67 hX rfl dX6_keyword_67 ?_
  refine w_iconst 1 69 hX ic_1 dX6_keyword_69 ?_
  refine w_iadd 70 hX dX6_keyword_70 ?_
  refine w_istore (lv' := [(5, .int (l6 + 1)), (4, .int (l4 + 1)), (0, .ref 34), (1, .ref 2000002), (2, .int l2), (3, .int l3), (6, .int l6)]) 71 hX dX6_keyword_71 (by decide) rfl ?_
  exact w_sub [2, 3, 4, 5, 1, 0, 6] rfl (bX6_keyword_34_2000002_73 hX hR hk9 l2 l3 (l4 + 1) (l6 + 1) l6 h)
def FX6_keyword_34_2000002_b38 (k9 : Int32 → Int32 → Int32 → Int32 → Int32 → Mem → Option Int32) (l2 l3 l4 l5 l6 : Int32) (u : Mem) : Option Int32 :=
  (if (l6 - l5) = (l3 - l2) then ((FX6_same_34_2000002 l5 l2 l3 u).bind fun x2 => (if x2 = 0 then (FX6_keyword_34_2000002_b64 k9 l2 l3 l4 l6 u) else (some l4))) else (FX6_keyword_34_2000002_b64 k9 l2 l3 l4 l6 u))
theorem bX6_keyword_34_2000002_38 {G : Gt} {X : Xt} {v : Int32} {u : Mem} (hX : CxOk G X cX6_keyword 7 RX6 (some (.int v), (SHg G), (RHg G), u) 8) (hR : CxRet G X (some .int) (some (.int v), (SHg G), (RHg G), u)) {k9 : Int32 → Int32 → Int32 → Int32 → Int32 → Mem → Option Int32} (hk9 : ∀ (l2 l3 l4 l5 l6 : Int32), k9 l2 l3 l4 l5 l6 u = some v → WM G X 9 [(0, .ref 34), (1, .ref 2000002), (2, .int l2), (3, .int l3), (4, .int l4), (5, .int l5), (6, .int l6)] [] (SHg G) (RHg G) u) (l2 l3 l4 l5 l6 : Int32) (h : FX6_keyword_34_2000002_b38 k9 l2 l3 l4 l5 l6 u = some v) : WM G X 38 [(0, .ref 34), (1, .ref 2000002), (2, .int l2), (3, .int l3), (4, .int l4), (5, .int l5), (6, .int l6)] [] (SHg G) (RHg G) u := by
  unfold FX6_keyword_34_2000002_b38 at h
  refine w_iload 6 38 hX rfl dX6_keyword_38 ?_
  refine w_iload 5 40 hX rfl dX6_keyword_40 ?_
  refine w_isub 42 hX dX6_keyword_42 ?_
  refine w_iload_n 3 43 hX rfl rfl dX6_keyword_43 ?_
  refine w_iload_n 2 44 hX rfl rfl dX6_keyword_44 ?_
  refine w_isub 45 hX dX6_keyword_45 ?_
  refine w_icmp_ne (tgt := 64) 46 hX dX6_keyword_46 (by decide) (fun c1 => ?_) (fun c1 => ?_)
  · have h := ie h c1
    exact w_sub [0, 1, 2, 3, 4, 6] rfl (bX6_keyword_34_2000002_64 hX hR hk9 l2 l3 l4 l6 h)
  · have h := it h c1
    refine w_aload_n 0 49 hX rfl rfl dX6_keyword_49 ?_
    refine w_aload_n 1 50 hX rfl rfl dX6_keyword_50 ?_
    refine w_iload 5 51 hX rfl dX6_keyword_51 ?_
    refine w_iload_n 2 53 hX rfl rfl dX6_keyword_53 ?_
    refine w_iload_n 3 54 hX rfl rfl dX6_keyword_54 ?_
    obtain ⟨x2, gx2, h⟩ := o_bind h
    refine w_invVi (av := [.ref 2000002, .int l5, .int l2, .int l3]) (st := []) 55 hX CI_6 s_34 rfl mv_yX6_same mi_yX6_same ml_X6_184 (CX6_same_34_2000002 l5 l2 l3 u gx2) rfl (by decide) (Nat.le_of_ble_eq_true rfl) (Nat.le_refl _) (Nat.le_refl _) dX6_keyword_55 ?_
    refine w_if_eq (tgt := 64) 58 hX dX6_keyword_58 (by decide) (fun c3 => ?_) (fun c3 => ?_)
    · have h := it h c3
      exact w_sub [0, 1, 2, 3, 4, 6] rfl (bX6_keyword_34_2000002_64 hX hR hk9 l2 l3 l4 l6 h)
    · have h := ie h c3
      refine w_iload 4 61 hX rfl dX6_keyword_61 ?_
      exact w_iret 63 hX hR dX6_keyword_63 (by cases h; rfl)
def FX6_keyword_34_2000002_b9 (k9 : Int32 → Int32 → Int32 → Int32 → Int32 → Mem → Option Int32) (l2 l3 l4 l5 l6 : Int32) (u : Mem) : Option Int32 :=
  (S_len 2).bind fun x1 => (if x1 < l6 then (some (-1)) else ((S_len 2).bind fun x3 => (if l6 = x3 then (FX6_keyword_34_2000002_b38 k9 l2 l3 l4 l5 l6 u) else ((S_chr 2 l6).bind fun x5 => (if x5 = 32 then (FX6_keyword_34_2000002_b38 k9 l2 l3 l4 l5 l6 u) else (FX6_keyword_34_2000002_b73 k9 l2 l3 l4 l5 l6 u))))))
theorem bX6_keyword_34_2000002_9 {G : Gt} {X : Xt} {v : Int32} {u : Mem} (hX : CxOk G X cX6_keyword 7 RX6 (some (.int v), (SHg G), (RHg G), u) 8) (hR : CxRet G X (some .int) (some (.int v), (SHg G), (RHg G), u)) {k9 : Int32 → Int32 → Int32 → Int32 → Int32 → Mem → Option Int32} (hk9 : ∀ (l2 l3 l4 l5 l6 : Int32), k9 l2 l3 l4 l5 l6 u = some v → WM G X 9 [(0, .ref 34), (1, .ref 2000002), (2, .int l2), (3, .int l3), (4, .int l4), (5, .int l5), (6, .int l6)] [] (SHg G) (RHg G) u) (l2 l3 l4 l5 l6 : Int32) (h : FX6_keyword_34_2000002_b9 k9 l2 l3 l4 l5 l6 u = some v) : WM G X 9 [(0, .ref 34), (1, .ref 2000002), (2, .int l2), (3, .int l3), (4, .int l4), (5, .int l5), (6, .int l6)] [] (SHg G) (RHg G) u := by
  unfold FX6_keyword_34_2000002_b9 at h
  refine w_iload 6 9 hX rfl dX6_keyword_9 ?_
  refine w_aload_n 1 11 hX rfl rfl dX6_keyword_11 ?_
  obtain ⟨x1, gx1, h⟩ := o_bind h
  refine w_S_len (i := 2) (st := [.int l6]) 12 hX ml_X6_177 gx1 (by decide) (by decide) (Nat.le_of_ble_eq_true rfl) dX6_keyword_12 ?_
  refine w_icmp_gt (tgt := 79) 15 hX dX6_keyword_15 (by decide) (fun c2 => ?_) (fun c2 => ?_)
  · have h := it h c2
    refine w_iconst (-1) 79 hX ic_m1 dX6_keyword_79 ?_
    exact w_iret 80 hX hR dX6_keyword_80 (by cases h; rfl)
  · have h := ie h c2
    refine w_iload 6 18 hX rfl dX6_keyword_18 ?_
    refine w_aload_n 1 20 hX rfl rfl dX6_keyword_20 ?_
    obtain ⟨x3, gx3, h⟩ := o_bind h
    refine w_S_len (i := 2) (st := [.int l6]) 21 hX ml_X6_177 gx3 (by decide) (by decide) (Nat.le_of_ble_eq_true rfl) dX6_keyword_21 ?_
    refine w_icmp_eq (tgt := 38) 24 hX dX6_keyword_24 (by decide) (fun c4 => ?_) (fun c4 => ?_)
    · have h := it h c4
      exact bX6_keyword_34_2000002_38 hX hR hk9 l2 l3 l4 l5 l6 h
    · have h := ie h c4
      refine w_aload_n 1 27 hX rfl rfl dX6_keyword_27 ?_
      refine w_iload 6 28 hX rfl dX6_keyword_28 ?_
      obtain ⟨x5, gx5, h⟩ := o_bind h
      refine w_S_chr (i := 2) (st := []) 30 hX ml_X6_180 gx5 (by decide) (by decide) (Nat.le_of_ble_eq_true rfl) dX6_keyword_30 ?_
      refine w_bipush 32 33 hX ib_32 dX6_keyword_33 ?_
      refine w_icmp_ne (tgt := 73) 35 hX dX6_keyword_35 (by decide) (fun c6 => ?_) (fun c6 => ?_)
      · have h := ie h c6
        exact bX6_keyword_34_2000002_73 hX hR hk9 l2 l3 l4 l5 l6 h
      · have h := it h c6
        exact bX6_keyword_34_2000002_38 hX hR hk9 l2 l3 l4 l5 l6 h
def FX6_keyword_34_2000002_L9 : Nat → Int32 → Int32 → Int32 → Int32 → Int32 → Mem → Option Int32
  | 0, _, _, _, _, _, _ => none
  | n + 1, l2, l3, l4, l5, l6, u => FX6_keyword_34_2000002_b9 (FX6_keyword_34_2000002_L9 n) l2 l3 l4 l5 l6 u
theorem lX6_keyword_34_2000002_9 {G : Gt} {X : Xt} {v : Int32} {u : Mem} (hX : CxOk G X cX6_keyword 7 RX6 (some (.int v), (SHg G), (RHg G), u) 8) (hR : CxRet G X (some .int) (some (.int v), (SHg G), (RHg G), u)) : ∀ (n : Nat) (l2 l3 l4 l5 l6 : Int32), FX6_keyword_34_2000002_L9 n l2 l3 l4 l5 l6 u = some v → WM G X 9 [(0, .ref 34), (1, .ref 2000002), (2, .int l2), (3, .int l3), (4, .int l4), (5, .int l5), (6, .int l6)] [] (SHg G) (RHg G) u := by
  intro n
  induction n with
  | zero =>
    intro l2 l3 l4 l5 l6 h
    exact nn_ h
  | succ n ih =>
    intro l2 l3 l4 l5 l6 h
    exact bX6_keyword_34_2000002_9 hX hR ih l2 l3 l4 l5 l6 h
def FX6_keyword_34_2000002 (p2 p3 : Int32) (u : Mem) : Option Int32 :=
  FX6_keyword_34_2000002_L9 FU p2 p3 0 0 0 u
theorem CX6_keyword_34_2000002 {G : Gt} (p2 p3 : Int32) (u : Mem) {v : Int32} (h : FX6_keyword_34_2000002 p2 p3 u = some v) : CT G yX6_keyword cX6_keyword 7 (some .int) 8 [.ref 34, .ref 2000002, .int p2, .int p3] (SHg G) (RHg G) u (some (.int v), (SHg G), (RHg G), u) :=
  ct_of (by decide) rfl (Nat.le_of_ble_eq_true rfl) (Nat.le_refl _) (Nat.le_refl _) (fun X hX hR => by
  unfold FX6_keyword_34_2000002 at h
  refine w_iconst 0 0 hX ic_0 dX6_keyword_0 ?_
  refine w_istore (lv' := [(4, .int 0), (0, .ref 34), (1, .ref 2000002), (2, .int p2), (3, .int p3)]) 1 hX dX6_keyword_1 (by decide) rfl ?_
  refine w_iconst 0 3 hX ic_0 dX6_keyword_3 ?_
  refine w_istore (lv' := [(5, .int 0), (4, .int 0), (0, .ref 34), (1, .ref 2000002), (2, .int p2), (3, .int p3)]) 4 hX dX6_keyword_4 (by decide) rfl ?_
  refine w_iconst 0 6 hX ic_0 dX6_keyword_6 ?_
  refine w_istore (lv' := [(6, .int 0), (5, .int 0), (4, .int 0), (0, .ref 34), (1, .ref 2000002), (2, .int p2), (3, .int p3)]) 7 hX dX6_keyword_7 (by decide) rfl ?_
  exact w_sub [3, 4, 5, 6, 2, 1, 0] rfl (lX6_keyword_34_2000002_9 hX hR FU p2 p3 0 0 0 h))
def FX6_same_34_2000003_b38 (k3 : Int32 → Int32 → Int32 → Int32 → Mem → Option Int32) (l2 l3 l4 l5 t0 : Int32) (u : Mem) : Option Int32 :=
  (if t0 = 0 then (some 0) else ((S_chr 3 (l2 + l5)).bind fun x2 => (rdA u 35 400 (l3 + l5)).bind fun x3 => (if x2 = x3 then (k3 l2 l3 l4 (l5 + 1) u) else (some 0))))
theorem bX6_same_34_2000003_38 {G : Gt} {X : Xt} {v : Int32} {u : Mem} (hX : CxOk G X cX6_same 7 RX6 (some (.int v), (SHg G), (RHg G), u) 7) (hR : CxRet G X (some .boolean) (some (.int v), (SHg G), (RHg G), u)) {k3 : Int32 → Int32 → Int32 → Int32 → Mem → Option Int32} (hk3 : ∀ (l2 l3 l4 l5 : Int32), k3 l2 l3 l4 l5 u = some v → WM G X 3 [(0, .ref 34), (1, .ref 2000003), (2, .int l2), (3, .int l3), (4, .int l4), (5, .int l5)] [] (SHg G) (RHg G) u) (l2 l3 l4 l5 t0 : Int32) (h : FX6_same_34_2000003_b38 k3 l2 l3 l4 l5 t0 u = some v) : WM G X 38 [(0, .ref 34), (1, .ref 2000003), (2, .int l2), (3, .int l3), (4, .int l4), (5, .int l5)] [.int t0] (SHg G) (RHg G) u := by
  unfold FX6_same_34_2000003_b38 at h
  refine w_istore (lv' := [(6, .int t0), (0, .ref 34), (1, .ref 2000003), (2, .int l2), (3, .int l3), (4, .int l4), (5, .int l5)]) 38 hX dX6_same_38 (by decide) rfl ?_
  refine w_iload 0 40 hX rfl dX6_same_40 ?_
  refine w_if_eq (tgt := 65) 42 hX dX6_same_42 (by decide) (fun c1 => ?_) (fun c1 => ?_)
  · have h := it h c1
    refine w_iconst 0 65 hX ic_0 dX6_same_65 ?_
    exact w_zret 66 hX hR (by decide) dX6_same_66 (by cases h; rfl)
  · have h := ie h c1
    refine w_aload_n 2 45 hX rfl rfl dX6_same_45 ?_
    refine w_iload_n 3 46 hX rfl rfl dX6_same_46 ?_
    refine w_iload 6 47 hX rfl dX6_same_47 ?_
    refine w_iadd 49 hX dX6_same_49 ?_
    obtain ⟨x2, gx2, h⟩ := o_bind h
    refine w_S_chr (i := 3) (st := []) 50 hX ml_X6_180 gx2 (by decide) (by decide) (Nat.le_of_ble_eq_true rfl) dX6_same_50 ?_
    refine w_aload_n 1 53 hX rfl rfl dX6_same_53 ?_
    refine w_getR 54 hX CI_6 s_34 rfl r_34_0 fl_X6_11 rfl dX6_same_54 ?_
    refine w_iload_n 4 57 hX rfl rfl dX6_same_57 ?_
    refine w_iload 6 58 hX rfl dX6_same_58 ?_
    refine w_iadd 60 hX dX6_same_60 ?_
    obtain ⟨x3, gx3, h⟩ := o_bind h
    refine w_iald 61 hX s_35 gx3 dX6_same_61 ?_
    refine w_icmp_eq (tgt := 67) 62 hX dX6_same_62 (by decide) (fun c4 => ?_) (fun c4 => ?_)
    · have h := it h c4
      refine w_iinc (lv' := [(5, .int (l5 + 1)), (6, .int t0), (0, .ref 34), (1, .ref 2000003), (2, .int l2), (3, .int l3), (4, .int l4)]) 67 6 hX dX6_same_67 rfl (inc_1 _) (by decide) rfl ?_
      refine w_goto (tgt := 3) 70 hX (by decide) dX6_same_70 ?_
      exact w_sub [2, 3, 4, 5, 6, 0] rfl (hk3 l2 l3 l4 (l5 + 1) h)
    · have h := ie h c4
      refine w_iconst 0 65 hX ic_0 dX6_same_65 ?_
      exact w_zret 66 hX hR (by decide) dX6_same_66 (by cases h; rfl)
def FX6_same_34_2000003_b3 (k3 : Int32 → Int32 → Int32 → Int32 → Mem → Option Int32) (l2 l3 l4 l5 : Int32) (u : Mem) : Option Int32 :=
  (if l4 ≤ (l3 + l5) then (some 1) else ((S_len 3).bind fun x2 => (if x2 ≤ (l2 + l5) then (FX6_same_34_2000003_b38 k3 l2 l3 l4 l5 0 u) else ((if 400 ≤ (l3 + l5) then (FX6_same_34_2000003_b38 k3 l2 l3 l4 l5 0 u) else (FX6_same_34_2000003_b38 k3 l2 l3 l4 l5 1 u))))))
theorem bX6_same_34_2000003_3 {G : Gt} {X : Xt} {v : Int32} {u : Mem} (hX : CxOk G X cX6_same 7 RX6 (some (.int v), (SHg G), (RHg G), u) 7) (hR : CxRet G X (some .boolean) (some (.int v), (SHg G), (RHg G), u)) {k3 : Int32 → Int32 → Int32 → Int32 → Mem → Option Int32} (hk3 : ∀ (l2 l3 l4 l5 : Int32), k3 l2 l3 l4 l5 u = some v → WM G X 3 [(0, .ref 34), (1, .ref 2000003), (2, .int l2), (3, .int l3), (4, .int l4), (5, .int l5)] [] (SHg G) (RHg G) u) (l2 l3 l4 l5 : Int32) (h : FX6_same_34_2000003_b3 k3 l2 l3 l4 l5 u = some v) : WM G X 3 [(0, .ref 34), (1, .ref 2000003), (2, .int l2), (3, .int l3), (4, .int l4), (5, .int l5)] [] (SHg G) (RHg G) u := by
  unfold FX6_same_34_2000003_b3 at h
  refine w_iload_n 3 3 hX rfl rfl dX6_same_3 ?_
  refine w_iload 5 4 hX rfl dX6_same_4 ?_
  refine w_iadd 6 hX dX6_same_6 ?_
  refine w_iload 4 7 hX rfl dX6_same_7 ?_
  refine w_icmp_ge (tgt := 73) 9 hX dX6_same_9 (by decide) (fun c1 => ?_) (fun c1 => ?_)
  · have h := it h c1
    refine w_iconst 1 73 hX ic_1 dX6_same_73 ?_
    exact w_zret 74 hX hR (by decide) dX6_same_74 (by cases h; rfl)
  · have h := ie h c1
    refine w_iload_n 2 12 hX rfl rfl dX6_same_12 ?_
    refine w_iload 5 13 hX rfl dX6_same_13 ?_
    refine w_iadd 15 hX dX6_same_15 ?_
    refine w_aload_n 1 16 hX rfl rfl dX6_same_16 ?_
    obtain ⟨x2, gx2, h⟩ := o_bind h
    refine w_S_len (i := 3) (st := [.int (l2 + l5)]) 17 hX ml_X6_177 gx2 (by decide) (by decide) (Nat.le_of_ble_eq_true rfl) dX6_same_17 ?_
    refine w_icmp_ge (tgt := 37) 20 hX dX6_same_20 (by decide) (fun c3 => ?_) (fun c3 => ?_)
    · have h := it h c3
      refine w_iconst 0 37 hX ic_0 dX6_same_37 ?_
      exact bX6_same_34_2000003_38 hX hR hk3 l2 l3 l4 l5 0 h
    · have h := ie h c3
      refine w_iload_n 3 23 hX rfl rfl dX6_same_23 ?_
      refine w_iload 5 24 hX rfl dX6_same_24 ?_
      refine w_iadd 26 hX dX6_same_26 ?_
      refine w_sipush 400 27 hX isp_400 dX6_same_27 ?_
      refine w_icmp_ge (tgt := 37) 30 hX dX6_same_30 (by decide) (fun c4 => ?_) (fun c4 => ?_)
      · have h := it h c4
        refine w_iconst 0 37 hX ic_0 dX6_same_37 ?_
        exact bX6_same_34_2000003_38 hX hR hk3 l2 l3 l4 l5 0 h
      · have h := ie h c4
        refine w_iconst 1 33 hX ic_1 dX6_same_33 ?_
        refine w_goto (tgt := 38) 34 hX (by decide) dX6_same_34 ?_
        exact bX6_same_34_2000003_38 hX hR hk3 l2 l3 l4 l5 1 h
def FX6_same_34_2000003_L3 : Nat → Int32 → Int32 → Int32 → Int32 → Mem → Option Int32
  | 0, _, _, _, _, _ => none
  | n + 1, l2, l3, l4, l5, u => FX6_same_34_2000003_b3 (FX6_same_34_2000003_L3 n) l2 l3 l4 l5 u
theorem lX6_same_34_2000003_3 {G : Gt} {X : Xt} {v : Int32} {u : Mem} (hX : CxOk G X cX6_same 7 RX6 (some (.int v), (SHg G), (RHg G), u) 7) (hR : CxRet G X (some .boolean) (some (.int v), (SHg G), (RHg G), u)) : ∀ (n : Nat) (l2 l3 l4 l5 : Int32), FX6_same_34_2000003_L3 n l2 l3 l4 l5 u = some v → WM G X 3 [(0, .ref 34), (1, .ref 2000003), (2, .int l2), (3, .int l3), (4, .int l4), (5, .int l5)] [] (SHg G) (RHg G) u := by
  intro n
  induction n with
  | zero =>
    intro l2 l3 l4 l5 h
    exact nn_ h
  | succ n ih =>
    intro l2 l3 l4 l5 h
    exact bX6_same_34_2000003_3 hX hR ih l2 l3 l4 l5 h
def FX6_same_34_2000003 (p2 p3 p4 : Int32) (u : Mem) : Option Int32 :=
  FX6_same_34_2000003_L3 FU p2 p3 p4 0 u
theorem CX6_same_34_2000003 {G : Gt} (p2 p3 p4 : Int32) (u : Mem) {v : Int32} (h : FX6_same_34_2000003 p2 p3 p4 u = some v) : CT G yX6_same cX6_same 7 (some .boolean) 7 [.ref 34, .ref 2000003, .int p2, .int p3, .int p4] (SHg G) (RHg G) u (some (.int v), (SHg G), (RHg G), u) :=
  ct_of (by decide) rfl (Nat.le_of_ble_eq_true rfl) (Nat.le_refl _) (Nat.le_refl _) (fun X hX hR => by
  unfold FX6_same_34_2000003 at h
  refine w_iconst 0 0 hX ic_0 dX6_same_0 ?_
  refine w_istore (lv' := [(5, .int 0), (0, .ref 34), (1, .ref 2000003), (2, .int p2), (3, .int p3), (4, .int p4)]) 1 hX dX6_same_1 (by decide) rfl ?_
  exact w_sub [1, 2, 3, 4, 5, 0] rfl (lX6_same_34_2000003_3 hX hR FU p2 p3 p4 0 h))
def FX6_keyword_34_2000003_b73 (k9 : Int32 → Int32 → Int32 → Int32 → Int32 → Mem → Option Int32) (l2 l3 l4 l5 l6 : Int32) (u : Mem) : Option Int32 :=
  k9 l2 l3 l4 l5 (l6 + 1) u
theorem bX6_keyword_34_2000003_73 {G : Gt} {X : Xt} {v : Int32} {u : Mem} (hX : CxOk G X cX6_keyword 7 RX6 (some (.int v), (SHg G), (RHg G), u) 8) (hR : CxRet G X (some .int) (some (.int v), (SHg G), (RHg G), u)) {k9 : Int32 → Int32 → Int32 → Int32 → Int32 → Mem → Option Int32} (hk9 : ∀ (l2 l3 l4 l5 l6 : Int32), k9 l2 l3 l4 l5 l6 u = some v → WM G X 9 [(0, .ref 34), (1, .ref 2000003), (2, .int l2), (3, .int l3), (4, .int l4), (5, .int l5), (6, .int l6)] [] (SHg G) (RHg G) u) (l2 l3 l4 l5 l6 : Int32) (h : FX6_keyword_34_2000003_b73 k9 l2 l3 l4 l5 l6 u = some v) : WM G X 73 [(0, .ref 34), (1, .ref 2000003), (2, .int l2), (3, .int l3), (4, .int l4), (5, .int l5), (6, .int l6)] [] (SHg G) (RHg G) u := by
  unfold FX6_keyword_34_2000003_b73 at h
  refine w_iinc (lv' := [(6, .int (l6 + 1)), (0, .ref 34), (1, .ref 2000003), (2, .int l2), (3, .int l3), (4, .int l4), (5, .int l5)]) 73 6 hX dX6_keyword_73 rfl (inc_1 _) (by decide) rfl ?_
  refine w_goto (tgt := 9) 76 hX (by decide) dX6_keyword_76 ?_
  exact w_sub [1, 2, 3, 4, 5, 6, 0] rfl (hk9 l2 l3 l4 l5 (l6 + 1) h)
def FX6_keyword_34_2000003_b64 (k9 : Int32 → Int32 → Int32 → Int32 → Int32 → Mem → Option Int32) (l2 l3 l4 l6 : Int32) (u : Mem) : Option Int32 :=
  FX6_keyword_34_2000003_b73 k9 l2 l3 (l4 + 1) (l6 + 1) l6 u
theorem bX6_keyword_34_2000003_64 {G : Gt} {X : Xt} {v : Int32} {u : Mem} (hX : CxOk G X cX6_keyword 7 RX6 (some (.int v), (SHg G), (RHg G), u) 8) (hR : CxRet G X (some .int) (some (.int v), (SHg G), (RHg G), u)) {k9 : Int32 → Int32 → Int32 → Int32 → Int32 → Mem → Option Int32} (hk9 : ∀ (l2 l3 l4 l5 l6 : Int32), k9 l2 l3 l4 l5 l6 u = some v → WM G X 9 [(0, .ref 34), (1, .ref 2000003), (2, .int l2), (3, .int l3), (4, .int l4), (5, .int l5), (6, .int l6)] [] (SHg G) (RHg G) u) (l2 l3 l4 l6 : Int32) (h : FX6_keyword_34_2000003_b64 k9 l2 l3 l4 l6 u = some v) : WM G X 64 [(0, .ref 34), (1, .ref 2000003), (2, .int l2), (3, .int l3), (4, .int l4), (6, .int l6)] [] (SHg G) (RHg G) u := by
  unfold FX6_keyword_34_2000003_b64 at h
  refine w_iinc (lv' := [(4, .int (l4 + 1)), (0, .ref 34), (1, .ref 2000003), (2, .int l2), (3, .int l3), (6, .int l6)]) 64 4 hX dX6_keyword_64 rfl (inc_1 _) (by decide) rfl ?_
  refine w_iload 5 67 hX rfl dX6_keyword_67 ?_
  refine w_iconst 1 69 hX ic_1 dX6_keyword_69 ?_
  refine w_iadd 70 hX dX6_keyword_70 ?_
  refine w_istore (lv' := [(5, .int (l6 + 1)), (4, .int (l4 + 1)), (0, .ref 34), (1, .ref 2000003), (2, .int l2), (3, .int l3), (6, .int l6)]) 71 hX dX6_keyword_71 (by decide) rfl ?_
  exact w_sub [2, 3, 4, 5, 1, 0, 6] rfl (bX6_keyword_34_2000003_73 hX hR hk9 l2 l3 (l4 + 1) (l6 + 1) l6 h)
def FX6_keyword_34_2000003_b38 (k9 : Int32 → Int32 → Int32 → Int32 → Int32 → Mem → Option Int32) (l2 l3 l4 l5 l6 : Int32) (u : Mem) : Option Int32 :=
  (if (l6 - l5) = (l3 - l2) then ((FX6_same_34_2000003 l5 l2 l3 u).bind fun x2 => (if x2 = 0 then (FX6_keyword_34_2000003_b64 k9 l2 l3 l4 l6 u) else (some l4))) else (FX6_keyword_34_2000003_b64 k9 l2 l3 l4 l6 u))
theorem bX6_keyword_34_2000003_38 {G : Gt} {X : Xt} {v : Int32} {u : Mem} (hX : CxOk G X cX6_keyword 7 RX6 (some (.int v), (SHg G), (RHg G), u) 8) (hR : CxRet G X (some .int) (some (.int v), (SHg G), (RHg G), u)) {k9 : Int32 → Int32 → Int32 → Int32 → Int32 → Mem → Option Int32} (hk9 : ∀ (l2 l3 l4 l5 l6 : Int32), k9 l2 l3 l4 l5 l6 u = some v → WM G X 9 [(0, .ref 34), (1, .ref 2000003), (2, .int l2), (3, .int l3), (4, .int l4), (5, .int l5), (6, .int l6)] [] (SHg G) (RHg G) u) (l2 l3 l4 l5 l6 : Int32) (h : FX6_keyword_34_2000003_b38 k9 l2 l3 l4 l5 l6 u = some v) : WM G X 38 [(0, .ref 34), (1, .ref 2000003), (2, .int l2), (3, .int l3), (4, .int l4), (5, .int l5), (6, .int l6)] [] (SHg G) (RHg G) u := by
  unfold FX6_keyword_34_2000003_b38 at h
  refine w_iload 6 38 hX rfl dX6_keyword_38 ?_
  refine w_iload 5 40 hX rfl dX6_keyword_40 ?_
  refine w_isub 42 hX dX6_keyword_42 ?_
  refine w_iload_n 3 43 hX rfl rfl dX6_keyword_43 ?_
  refine w_iload_n 2 44 hX rfl rfl dX6_keyword_44 ?_
  refine w_isub 45 hX dX6_keyword_45 ?_
  refine w_icmp_ne (tgt := 64) 46 hX dX6_keyword_46 (by decide) (fun c1 => ?_) (fun c1 => ?_)
  · have h := ie h c1
    exact w_sub [0, 1, 2, 3, 4, 6] rfl (bX6_keyword_34_2000003_64 hX hR hk9 l2 l3 l4 l6 h)
  · have h := it h c1
    refine w_aload_n 0 49 hX rfl rfl dX6_keyword_49 ?_
    refine w_aload_n 1 50 hX rfl rfl dX6_keyword_50 ?_
    refine w_iload 5 51 hX rfl dX6_keyword_51 ?_
    refine w_iload_n 2 53 hX rfl rfl dX6_keyword_53 ?_
    refine w_iload_n 3 54 hX rfl rfl dX6_keyword_54 ?_
    obtain ⟨x2, gx2, h⟩ := o_bind h
    refine w_invVi (av := [.ref 2000003, .int l5, .int l2, .int l3]) (st := []) 55 hX CI_6 s_34 rfl mv_yX6_same mi_yX6_same ml_X6_184 (CX6_same_34_2000003 l5 l2 l3 u gx2) rfl (by decide) (Nat.le_of_ble_eq_true rfl) (Nat.le_refl _) (Nat.le_refl _) dX6_keyword_55 ?_
    refine w_if_eq (tgt := 64) 58 hX dX6_keyword_58 (by decide) (fun c3 => ?_) (fun c3 => ?_)
    · have h := it h c3
      exact w_sub [0, 1, 2, 3, 4, 6] rfl (bX6_keyword_34_2000003_64 hX hR hk9 l2 l3 l4 l6 h)
    · have h := ie h c3
      refine w_iload 4 61 hX rfl dX6_keyword_61 ?_
      exact w_iret 63 hX hR dX6_keyword_63 (by cases h; rfl)
def FX6_keyword_34_2000003_b9 (k9 : Int32 → Int32 → Int32 → Int32 → Int32 → Mem → Option Int32) (l2 l3 l4 l5 l6 : Int32) (u : Mem) : Option Int32 :=
  (S_len 3).bind fun x1 => (if x1 < l6 then (some (-1)) else ((S_len 3).bind fun x3 => (if l6 = x3 then (FX6_keyword_34_2000003_b38 k9 l2 l3 l4 l5 l6 u) else ((S_chr 3 l6).bind fun x5 => (if x5 = 32 then (FX6_keyword_34_2000003_b38 k9 l2 l3 l4 l5 l6 u) else (FX6_keyword_34_2000003_b73 k9 l2 l3 l4 l5 l6 u))))))
theorem bX6_keyword_34_2000003_9 {G : Gt} {X : Xt} {v : Int32} {u : Mem} (hX : CxOk G X cX6_keyword 7 RX6 (some (.int v), (SHg G), (RHg G), u) 8) (hR : CxRet G X (some .int) (some (.int v), (SHg G), (RHg G), u)) {k9 : Int32 → Int32 → Int32 → Int32 → Int32 → Mem → Option Int32} (hk9 : ∀ (l2 l3 l4 l5 l6 : Int32), k9 l2 l3 l4 l5 l6 u = some v → WM G X 9 [(0, .ref 34), (1, .ref 2000003), (2, .int l2), (3, .int l3), (4, .int l4), (5, .int l5), (6, .int l6)] [] (SHg G) (RHg G) u) (l2 l3 l4 l5 l6 : Int32) (h : FX6_keyword_34_2000003_b9 k9 l2 l3 l4 l5 l6 u = some v) : WM G X 9 [(0, .ref 34), (1, .ref 2000003), (2, .int l2), (3, .int l3), (4, .int l4), (5, .int l5), (6, .int l6)] [] (SHg G) (RHg G) u := by
  unfold FX6_keyword_34_2000003_b9 at h
  refine w_iload 6 9 hX rfl dX6_keyword_9 ?_
  refine w_aload_n 1 11 hX rfl rfl dX6_keyword_11 ?_
  obtain ⟨x1, gx1, h⟩ := o_bind h
  refine w_S_len (i := 3) (st := [.int l6]) 12 hX ml_X6_177 gx1 (by decide) (by decide) (Nat.le_of_ble_eq_true rfl) dX6_keyword_12 ?_
  refine w_icmp_gt (tgt := 79) 15 hX dX6_keyword_15 (by decide) (fun c2 => ?_) (fun c2 => ?_)
  · have h := it h c2
    refine w_iconst (-1) 79 hX ic_m1 dX6_keyword_79 ?_
    exact w_iret 80 hX hR dX6_keyword_80 (by cases h; rfl)
  · have h := ie h c2
    refine w_iload 6 18 hX rfl dX6_keyword_18 ?_
    refine w_aload_n 1 20 hX rfl rfl dX6_keyword_20 ?_
    obtain ⟨x3, gx3, h⟩ := o_bind h
    refine w_S_len (i := 3) (st := [.int l6]) 21 hX ml_X6_177 gx3 (by decide) (by decide) (Nat.le_of_ble_eq_true rfl) dX6_keyword_21 ?_
    refine w_icmp_eq (tgt := 38) 24 hX dX6_keyword_24 (by decide) (fun c4 => ?_) (fun c4 => ?_)
    · have h := it h c4
      exact bX6_keyword_34_2000003_38 hX hR hk9 l2 l3 l4 l5 l6 h
    · have h := ie h c4
      refine w_aload_n 1 27 hX rfl rfl dX6_keyword_27 ?_
      refine w_iload 6 28 hX rfl dX6_keyword_28 ?_
      obtain ⟨x5, gx5, h⟩ := o_bind h
      refine w_S_chr (i := 3) (st := []) 30 hX ml_X6_180 gx5 (by decide) (by decide) (Nat.le_of_ble_eq_true rfl) dX6_keyword_30 ?_
      refine w_bipush 32 33 hX ib_32 dX6_keyword_33 ?_
      refine w_icmp_ne (tgt := 73) 35 hX dX6_keyword_35 (by decide) (fun c6 => ?_) (fun c6 => ?_)
      · have h := ie h c6
        exact bX6_keyword_34_2000003_73 hX hR hk9 l2 l3 l4 l5 l6 h
      · have h := it h c6
        exact bX6_keyword_34_2000003_38 hX hR hk9 l2 l3 l4 l5 l6 h
def FX6_keyword_34_2000003_L9 : Nat → Int32 → Int32 → Int32 → Int32 → Int32 → Mem → Option Int32
  | 0, _, _, _, _, _, _ => none
  | n + 1, l2, l3, l4, l5, l6, u => FX6_keyword_34_2000003_b9 (FX6_keyword_34_2000003_L9 n) l2 l3 l4 l5 l6 u
theorem lX6_keyword_34_2000003_9 {G : Gt} {X : Xt} {v : Int32} {u : Mem} (hX : CxOk G X cX6_keyword 7 RX6 (some (.int v), (SHg G), (RHg G), u) 8) (hR : CxRet G X (some .int) (some (.int v), (SHg G), (RHg G), u)) : ∀ (n : Nat) (l2 l3 l4 l5 l6 : Int32), FX6_keyword_34_2000003_L9 n l2 l3 l4 l5 l6 u = some v → WM G X 9 [(0, .ref 34), (1, .ref 2000003), (2, .int l2), (3, .int l3), (4, .int l4), (5, .int l5), (6, .int l6)] [] (SHg G) (RHg G) u := by
  intro n
  induction n with
  | zero =>
    intro l2 l3 l4 l5 l6 h
    exact nn_ h
  | succ n ih =>
    intro l2 l3 l4 l5 l6 h
    exact bX6_keyword_34_2000003_9 hX hR ih l2 l3 l4 l5 l6 h
def FX6_keyword_34_2000003 (p2 p3 : Int32) (u : Mem) : Option Int32 :=
  FX6_keyword_34_2000003_L9 FU p2 p3 0 0 0 u
theorem CX6_keyword_34_2000003 {G : Gt} (p2 p3 : Int32) (u : Mem) {v : Int32} (h : FX6_keyword_34_2000003 p2 p3 u = some v) : CT G yX6_keyword cX6_keyword 7 (some .int) 8 [.ref 34, .ref 2000003, .int p2, .int p3] (SHg G) (RHg G) u (some (.int v), (SHg G), (RHg G), u) :=
  ct_of (by decide) rfl (Nat.le_of_ble_eq_true rfl) (Nat.le_refl _) (Nat.le_refl _) (fun X hX hR => by
  unfold FX6_keyword_34_2000003 at h
  refine w_iconst 0 0 hX ic_0 dX6_keyword_0 ?_
  refine w_istore (lv' := [(4, .int 0), (0, .ref 34), (1, .ref 2000003), (2, .int p2), (3, .int p3)]) 1 hX dX6_keyword_1 (by decide) rfl ?_
  refine w_iconst 0 3 hX ic_0 dX6_keyword_3 ?_
  refine w_istore (lv' := [(5, .int 0), (4, .int 0), (0, .ref 34), (1, .ref 2000003), (2, .int p2), (3, .int p3)]) 4 hX dX6_keyword_4 (by decide) rfl ?_
  refine w_iconst 0 6 hX ic_0 dX6_keyword_6 ?_
  refine w_istore (lv' := [(6, .int 0), (5, .int 0), (4, .int 0), (0, .ref 34), (1, .ref 2000003), (2, .int p2), (3, .int p3)]) 7 hX dX6_keyword_7 (by decide) rfl ?_
  exact w_sub [3, 4, 5, 6, 2, 1, 0] rfl (lX6_keyword_34_2000003_9 hX hR FU p2 p3 0 0 0 h))
def FX6_value_34_b53 (l3 : Int32) (u : Mem) : Option Int32 :=
  some l3
theorem bX6_value_34_53 {G : Gt} {X : Xt} {v : Int32} {u : Mem} (hX : CxOk G X cX6_value 5 RX6 (some (.int v), (SHg G), (RHg G), u) 1) (hR : CxRet G X (some .int) (some (.int v), (SHg G), (RHg G), u)) (l3 : Int32) (h : FX6_value_34_b53 l3 u = some v) : WM G X 53 [(3, .int l3)] [] (SHg G) (RHg G) u := by
  unfold FX6_value_34_b53 at h
  refine w_iload_n 0 53 hX rfl rfl dX6_value_53 ?_
  exact w_iret 54 hX hR dX6_value_54 (by cases h; rfl)
def FX6_value_34_b9 (k9 : Int32 → Int32 → Int32 → Int32 → Mem → Option Int32) (l1 l2 l3 l4 : Int32) (u : Mem) : Option Int32 :=
  (if l2 ≤ l4 then (FX6_value_34_b53 l3 u) else ((if (l1 + 4) ≤ l4 then (FX6_value_34_b53 l3 u) else ((if 400 ≤ l4 then (FX6_value_34_b53 l3 u) else ((rdA u 35 400 l4).bind fun x4 => k9 l1 l2 (((l3 * 10) + x4) - 48) (l4 + 1) u))))))
theorem bX6_value_34_9 {G : Gt} {X : Xt} {v : Int32} {u : Mem} (hX : CxOk G X cX6_value 5 RX6 (some (.int v), (SHg G), (RHg G), u) 1) (hR : CxRet G X (some .int) (some (.int v), (SHg G), (RHg G), u)) {k9 : Int32 → Int32 → Int32 → Int32 → Mem → Option Int32} (hk9 : ∀ (l1 l2 l3 l4 : Int32), k9 l1 l2 l3 l4 u = some v → WM G X 9 [(0, .ref 34), (1, .int l1), (2, .int l2), (3, .int l3), (4, .int l4)] [] (SHg G) (RHg G) u) (l1 l2 l3 l4 : Int32) (h : FX6_value_34_b9 k9 l1 l2 l3 l4 u = some v) : WM G X 9 [(0, .ref 34), (1, .int l1), (2, .int l2), (3, .int l3), (4, .int l4)] [] (SHg G) (RHg G) u := by
  unfold FX6_value_34_b9 at h
  refine w_iload 4 9 hX rfl dX6_value_9 ?_
  refine w_iload_n 2 11 hX rfl rfl dX6_value_11 ?_
  refine w_icmp_ge (tgt := 53) 12 hX dX6_value_12 (by decide) (fun c1 => ?_) (fun c1 => ?_)
  · have h := it h c1
    exact w_sub [3] rfl (bX6_value_34_53 hX hR l3 h)
  · have h := ie h c1
    refine w_iload 4 15 hX rfl dX6_value_15 ?_
    refine w_iload_n 1 17 hX rfl rfl dX6_value_17 ?_
    refine w_iconst 4 18 hX ic_4 dX6_value_18 ?_
    refine w_iadd 19 hX dX6_value_19 ?_
    refine w_icmp_ge (tgt := 53) 20 hX dX6_value_20 (by decide) (fun c2 => ?_) (fun c2 => ?_)
    · have h := it h c2
      exact w_sub [3] rfl (bX6_value_34_53 hX hR l3 h)
    · have h := ie h c2
      refine w_iload 4 23 hX rfl dX6_value_23 ?_
      refine w_sipush 400 25 hX isp_400 dX6_value_25 ?_
      refine w_icmp_ge (tgt := 53) 28 hX dX6_value_28 (by decide) (fun c3 => ?_) (fun c3 => ?_)
      · have h := it h c3
        exact w_sub [3] rfl (bX6_value_34_53 hX hR l3 h)
      · have h := ie h c3
        refine w_iload_n 3 31 hX rfl rfl dX6_value_31 ?_
        refine w_bipush 10 32 hX ib_10 dX6_value_32 ?_
        refine w_imul 34 hX dX6_value_34 ?_
        refine w_aload_n 0 35 hX rfl rfl dX6_value_35 ?_
        refine w_getR 36 hX CI_6 s_34 rfl r_34_0 fl_X6_11 rfl dX6_value_36 ?_
        refine w_iload 4 39 hX rfl dX6_value_39 ?_
        obtain ⟨x4, gx4, h⟩ := o_bind h
        refine w_iald 41 hX s_35 gx4 dX6_value_41 ?_
        refine w_iadd 42 hX dX6_value_42 ?_
        refine w_bipush 48 43 hX ib_48 dX6_value_43 ?_
        refine w_isub 45 hX dX6_value_45 ?_
        refine w_istore_n (lv' := [(3, .int (((l3 * 10) + x4) - 48)), (0, .ref 34), (1, .int l1), (2, .int l2), (4, .int l4)]) 46 hX rfl dX6_value_46 (by decide) rfl ?_
        refine w_iinc (lv' := [(4, .int (l4 + 1)), (3, .int (((l3 * 10) + x4) - 48)), (0, .ref 34), (1, .int l1), (2, .int l2)]) 47 4 hX dX6_value_47 rfl (inc_1 _) (by decide) rfl ?_
        refine w_goto (tgt := 9) 50 hX (by decide) dX6_value_50 ?_
        exact w_sub [2, 3, 4, 1, 0] rfl (hk9 l1 l2 (((l3 * 10) + x4) - 48) (l4 + 1) h)
def FX6_value_34_L9 : Nat → Int32 → Int32 → Int32 → Int32 → Mem → Option Int32
  | 0, _, _, _, _, _ => none
  | n + 1, l1, l2, l3, l4, u => FX6_value_34_b9 (FX6_value_34_L9 n) l1 l2 l3 l4 u
theorem lX6_value_34_9 {G : Gt} {X : Xt} {v : Int32} {u : Mem} (hX : CxOk G X cX6_value 5 RX6 (some (.int v), (SHg G), (RHg G), u) 1) (hR : CxRet G X (some .int) (some (.int v), (SHg G), (RHg G), u)) : ∀ (n : Nat) (l1 l2 l3 l4 : Int32), FX6_value_34_L9 n l1 l2 l3 l4 u = some v → WM G X 9 [(0, .ref 34), (1, .int l1), (2, .int l2), (3, .int l3), (4, .int l4)] [] (SHg G) (RHg G) u := by
  intro n
  induction n with
  | zero =>
    intro l1 l2 l3 l4 h
    exact nn_ h
  | succ n ih =>
    intro l1 l2 l3 l4 h
    exact bX6_value_34_9 hX hR ih l1 l2 l3 l4 h
def FX6_value_34 (p1 p2 : Int32) (u : Mem) : Option Int32 :=
  FX6_value_34_L9 FU p1 p2 0 (if 0 < p1 then p1 else 0) u
theorem CX6_value_34 {G : Gt} (p1 p2 : Int32) (u : Mem) {v : Int32} (h : FX6_value_34 p1 p2 u = some v) : CT G yX6_value cX6_value 5 (some .int) 1 [.ref 34, .int p1, .int p2] (SHg G) (RHg G) u (some (.int v), (SHg G), (RHg G), u) :=
  ct_of (by decide) rfl (Nat.le_of_ble_eq_true rfl) (Nat.le_refl _) (Nat.le_refl _) (fun X hX hR => by
  unfold FX6_value_34 at h
  refine w_iconst 0 0 hX ic_0 dX6_value_0 ?_
  refine w_istore_n (lv' := [(3, .int 0), (0, .ref 34), (1, .int p1), (2, .int p2)]) 1 hX rfl dX6_value_1 (by decide) rfl ?_
  refine w_iconst 0 2 hX ic_0 dX6_value_2 ?_
  refine w_iload_n 2 3 hX rfl rfl dX6_value_3 ?_
  refine w_max 4 hX ml_X6_174 jm_max_s jm_i jm_max_c (by decide) (Nat.le_of_ble_eq_true rfl) (Nat.le_refl _) (Nat.le_refl _) dX6_value_4 ?_
  refine w_istore (lv' := [(4, .int (if 0 < p1 then p1 else 0)), (3, .int 0), (0, .ref 34), (1, .int p1), (2, .int p2)]) 7 hX dX6_value_7 (by decide) rfl ?_
  exact w_sub [2, 3, 4, 1, 0] rfl (lX6_value_34_9 hX hR FU p1 p2 0 (if 0 < p1 then p1 else 0) h))
def FX6_cut_34_b177 (l1 : Int32) (u : Mem) : Option Mem :=
  (FX6_token_34 0 l1 0 u).bind fun u2 => some u2
theorem bX6_cut_34_177 {G : Gt} {X : Xt} {u' : Mem} (hX : CxOk G X cX6_cut 7 RX6 (none, (SHg G), (RHg G), u') 9) (hR : CxRet G X none (none, (SHg G), (RHg G), u')) (l1 : Int32) (u : Mem) (h : FX6_cut_34_b177 l1 u = some u') : WM G X 177 [(0, .ref 34), (1, .int l1)] [] (SHg G) (RHg G) u := by
  unfold FX6_cut_34_b177 at h
  refine w_aload_n 0 177 hX rfl rfl dX6_cut_177 ?_
  refine w_iconst 0 178 hX ic_0 dX6_cut_178 ?_
  refine w_iload_n 1 179 hX rfl rfl dX6_cut_179 ?_
  refine w_iconst 0 180 hX ic_0 dX6_cut_180 ?_
  obtain ⟨u2, gu2, h⟩ := o_bind h
  refine w_invVv (av := [.int 0, .int l1, .int 0]) (st := []) 181 hX CI_6 s_34 rfl mv_yX6_token mi_yX6_token ml_X6_153 (CX6_token_34 0 l1 0 u gu2) rfl (by decide) (Nat.le_of_ble_eq_true rfl) (Nat.le_refl _) (Nat.le_refl _) dX6_cut_181 ?_
  exact w_vret 184 hX hR dX6_cut_184 (by cases h; rfl)
def FX6_cut_34_b168 (k10 : Int32 → Int32 → Int32 → Int32 → Mem → Option Mem) (l1 l2 l4 l6 : Int32) (u : Mem) : Option Mem :=
  k10 l1 l2 l6 (l4 + 1) u
theorem bX6_cut_34_168 {G : Gt} {X : Xt} {u' : Mem} (hX : CxOk G X cX6_cut 7 RX6 (none, (SHg G), (RHg G), u') 9) (hR : CxRet G X none (none, (SHg G), (RHg G), u')) {k10 : Int32 → Int32 → Int32 → Int32 → Mem → Option Mem} (hk10 : ∀ (l1 l2 l3 l4 : Int32) (u : Mem), k10 l1 l2 l3 l4 u = some u' → WM G X 10 [(0, .ref 34), (1, .int l1), (2, .int l2), (3, .int l3), (4, .int l4)] [] (SHg G) (RHg G) u) (l1 l2 l4 l6 : Int32) (u : Mem) (h : FX6_cut_34_b168 k10 l1 l2 l4 l6 u = some u') : WM G X 168 [(0, .ref 34), (1, .int l1), (2, .int l2), (4, .int l4), (6, .int l6)] [] (SHg G) (RHg G) u := by
  unfold FX6_cut_34_b168 at h
  refine w_iload 4 168 hX rfl dX6_cut_168 ?_
  refine w_istore_n (lv' := [(3, .int l6), (0, .ref 34), (1, .int l1), (2, .int l2), (4, .int l4), (6, .int l6)]) 170 hX rfl dX6_cut_170 (by decide) rfl ?_
  refine w_iinc (lv' := [(4, .int (l4 + 1)), (3, .int l6), (0, .ref 34), (1, .int l1), (2, .int l2), (6, .int l6)]) 171 4 hX dX6_cut_171 rfl (inc_1 _) (by decide) rfl ?_
  refine w_goto (tgt := 10) 174 hX (by decide) dX6_cut_174 ?_
  exact w_sub [2, 3, 4, 1, 0] rfl (hk10 l1 l2 l6 (l4 + 1) u h)
def FX6_cut_34_b163 (k10 : Int32 → Int32 → Int32 → Int32 → Mem → Option Mem) (l1 l2 l3 l4 l6 t1 : Int32) (u : Mem) : Option Mem :=
  (FX6_token_34 t1 l3 0 u).bind fun u2 => FX6_cut_34_b168 k10 l1 l2 l4 l6 u2
theorem bX6_cut_34_163 {G : Gt} {X : Xt} {u' : Mem} (hX : CxOk G X cX6_cut 7 RX6 (none, (SHg G), (RHg G), u') 9) (hR : CxRet G X none (none, (SHg G), (RHg G), u')) {k10 : Int32 → Int32 → Int32 → Int32 → Mem → Option Mem} (hk10 : ∀ (l1 l2 l3 l4 : Int32) (u : Mem), k10 l1 l2 l3 l4 u = some u' → WM G X 10 [(0, .ref 34), (1, .int l1), (2, .int l2), (3, .int l3), (4, .int l4)] [] (SHg G) (RHg G) u) (l1 l2 l3 l4 l6 t1 : Int32) (u : Mem) (h : FX6_cut_34_b163 k10 l1 l2 l3 l4 l6 t1 u = some u') : WM G X 163 [(0, .ref 34), (1, .int l1), (2, .int l2), (3, .int l3), (4, .int l4), (6, .int l6)] [.int t1, .ref 34] (SHg G) (RHg G) u := by
  unfold FX6_cut_34_b163 at h
  refine w_iload_n 3 163 hX rfl rfl dX6_cut_163 ?_
  refine w_iconst 0 164 hX ic_0 dX6_cut_164 ?_
  obtain ⟨u2, gu2, h⟩ := o_bind h
  refine w_invVv (av := [.int t1, .int l3, .int 0]) (st := []) 165 hX CI_6 s_34 rfl mv_yX6_token mi_yX6_token ml_X6_153 (CX6_token_34 t1 l3 0 u gu2) rfl (by decide) (Nat.le_of_ble_eq_true rfl) (Nat.le_refl _) (Nat.le_refl _) dX6_cut_165 ?_
  exact w_sub [0, 1, 2, 4, 5] rfl (bX6_cut_34_168 hX hR hk10 l1 l2 l4 l6 u2 h)
def FX6_cut_34_b117 (k10 : Int32 → Int32 → Int32 → Int32 → Mem → Option Mem) (l1 l2 l3 l4 l6 t1 : Int32) (u : Mem) : Option Mem :=
  (FX6_value_34 l3 l6 u).bind fun x1 => (FX6_token_34 t1 l3 x1 u).bind fun u3 => FX6_cut_34_b168 k10 l1 l2 l4 l6 u3
theorem bX6_cut_34_117 {G : Gt} {X : Xt} {u' : Mem} (hX : CxOk G X cX6_cut 7 RX6 (none, (SHg G), (RHg G), u') 9) (hR : CxRet G X none (none, (SHg G), (RHg G), u')) {k10 : Int32 → Int32 → Int32 → Int32 → Mem → Option Mem} (hk10 : ∀ (l1 l2 l3 l4 : Int32) (u : Mem), k10 l1 l2 l3 l4 u = some u' → WM G X 10 [(0, .ref 34), (1, .int l1), (2, .int l2), (3, .int l3), (4, .int l4)] [] (SHg G) (RHg G) u) (l1 l2 l3 l4 l6 t1 : Int32) (u : Mem) (h : FX6_cut_34_b117 k10 l1 l2 l3 l4 l6 t1 u = some u') : WM G X 117 [(0, .ref 34), (1, .int l1), (2, .int l2), (3, .int l3), (4, .int l4), (6, .int l6)] [.int t1, .ref 34] (SHg G) (RHg G) u := by
  unfold FX6_cut_34_b117 at h
  refine w_iload_n 3 117 hX rfl rfl dX6_cut_117 ?_
  refine w_aload_n 0 118 hX rfl rfl dX6_cut_118 ?_
  refine w_iload_n 3 119 hX rfl rfl dX6_cut_119 ?_
  refine w_iload 5 120 hX rfl dX6_cut_120 ?_
  obtain ⟨x1, gx1, h⟩ := o_bind h
  refine w_invVi (av := [.int l3, .int l6]) (st := [.int l3, .int t1, .ref 34]) 122 hX CI_6 s_34 rfl mv_yX6_value mi_yX6_value ml_X6_163 (CX6_value_34 l3 l6 u gx1) rfl (by decide) (Nat.le_of_ble_eq_true rfl) (Nat.le_refl _) (Nat.le_refl _) dX6_cut_122 ?_
  obtain ⟨u3, gu3, h⟩ := o_bind h
  refine w_invVv (av := [.int t1, .int l3, .int x1]) (st := []) 125 hX CI_6 s_34 rfl mv_yX6_token mi_yX6_token ml_X6_153 (CX6_token_34 t1 l3 x1 u gu3) rfl (by decide) (Nat.le_of_ble_eq_true rfl) (Nat.le_refl _) (Nat.le_refl _) dX6_cut_125 ?_
  refine w_goto (tgt := 168) 128 hX (by decide) dX6_cut_128 ?_
  exact w_sub [0, 1, 2, 4, 5] rfl (bX6_cut_34_168 hX hR hk10 l1 l2 l4 l6 u3 h)
def FX6_cut_34_b10 (k10 : Int32 → Int32 → Int32 → Int32 → Mem → Option Mem) (l1 l2 l3 l4 : Int32) (u : Mem) : Option Mem :=
  (if 400 ≤ l4 then (FX6_cut_34_b177 l1 u) else ((if l3 < 0 then (FX6_cut_34_b177 l1 u) else ((if l1 ≤ l3 then (FX6_cut_34_b177 l1 u) else ((if 400 ≤ l3 then (FX6_cut_34_b177 l1 u) else ((rdA u 35 400 l3).bind fun x5 => (FX6_isLetter x5).bind fun x6 => (if x6 = 0 then ((FX6_isDigit x5).bind fun x8 => (if x8 = 0 then ((if x5 = 32 then (FX6_cut_34_b168 k10 l1 l2 l4 (l3 + 1) u) else ((if x5 = 10 then (FX6_cut_34_b168 k10 l1 l2 l4 (l3 + 1) u) else ((S_idx 4 (((x5 : Int32).toUInt32 % 65536).toInt32)).bind fun x12 => (if x12 < 0 then (FX6_cut_34_b163 k10 l1 l2 l3 l4 (l3 + 1) 2 u) else (FX6_cut_34_b163 k10 l1 l2 l3 l4 (l3 + 1) x5 u))))))) else ((FX6_endOfDigits_34 l3 l1 u).bind fun x14 => (if 4 < (x14 - l3) then (FX6_cut_34_b117 k10 l1 l2 l3 l4 x14 2 u) else (FX6_cut_34_b117 k10 l1 l2 l3 l4 x14 1 u))))) else ((FX6_endOfWord_34 l3 l1 u).bind fun x16 => (FX6_keywords l2).bind fun x17 => (if x17 = 2000000 then ((FX6_keyword_34_2000000 l3 x16 u).bind fun x19 => (FX6_token_34 (256 + x19) l3 0 u).bind fun u21 => FX6_cut_34_b168 k10 l1 l2 l4 x16 u21) else ((if x17 = 2000001 then ((FX6_keyword_34_2000001 l3 x16 u).bind fun x23 => (FX6_token_34 (256 + x23) l3 0 u).bind fun u25 => FX6_cut_34_b168 k10 l1 l2 l4 x16 u25) else ((if x17 = 2000002 then ((FX6_keyword_34_2000002 l3 x16 u).bind fun x27 => (FX6_token_34 (256 + x27) l3 0 u).bind fun u29 => FX6_cut_34_b168 k10 l1 l2 l4 x16 u29) else ((if x17 = 2000003 then ((FX6_keyword_34_2000003 l3 x16 u).bind fun x31 => (FX6_token_34 (256 + x31) l3 0 u).bind fun u33 => FX6_cut_34_b168 k10 l1 l2 l4 x16 u33) else (none))))))))))))))))))
theorem bX6_cut_34_10 {G : Gt} {X : Xt} {u' : Mem} (hX : CxOk G X cX6_cut 7 RX6 (none, (SHg G), (RHg G), u') 9) (hR : CxRet G X none (none, (SHg G), (RHg G), u')) {k10 : Int32 → Int32 → Int32 → Int32 → Mem → Option Mem} (hk10 : ∀ (l1 l2 l3 l4 : Int32) (u : Mem), k10 l1 l2 l3 l4 u = some u' → WM G X 10 [(0, .ref 34), (1, .int l1), (2, .int l2), (3, .int l3), (4, .int l4)] [] (SHg G) (RHg G) u) (l1 l2 l3 l4 : Int32) (u : Mem) (h : FX6_cut_34_b10 k10 l1 l2 l3 l4 u = some u') : WM G X 10 [(0, .ref 34), (1, .int l1), (2, .int l2), (3, .int l3), (4, .int l4)] [] (SHg G) (RHg G) u := by
  unfold FX6_cut_34_b10 at h
  refine w_iload 4 10 hX rfl dX6_cut_10 ?_
  refine w_sipush 400 12 hX isp_400 dX6_cut_12 ?_
  refine w_icmp_ge (tgt := 177) 15 hX dX6_cut_15 (by decide) (fun c1 => ?_) (fun c1 => ?_)
  · have h := it h c1
    exact w_sub [0, 1] rfl (bX6_cut_34_177 hX hR l1 u h)
  · have h := ie h c1
    refine w_iload_n 3 18 hX rfl rfl dX6_cut_18 ?_
    refine w_if_lt (tgt := 177) 19 hX dX6_cut_19 (by decide) (fun c2 => ?_) (fun c2 => ?_)
    · have h := it h c2
      exact w_sub [0, 1] rfl (bX6_cut_34_177 hX hR l1 u h)
    · have h := ie h c2
      refine w_iload_n 3 22 hX rfl rfl dX6_cut_22 ?_
      refine w_iload_n 1 23 hX rfl rfl dX6_cut_23 ?_
      refine w_icmp_ge (tgt := 177) 24 hX dX6_cut_24 (by decide) (fun c3 => ?_) (fun c3 => ?_)
      · have h := it h c3
        exact w_sub [0, 1] rfl (bX6_cut_34_177 hX hR l1 u h)
      · have h := ie h c3
        refine w_iload_n 3 27 hX rfl rfl dX6_cut_27 ?_
        refine w_sipush 400 28 hX isp_400 dX6_cut_28 ?_
        refine w_icmp_ge (tgt := 177) 31 hX dX6_cut_31 (by decide) (fun c4 => ?_) (fun c4 => ?_)
        · have h := it h c4
          exact w_sub [0, 1] rfl (bX6_cut_34_177 hX hR l1 u h)
        · have h := ie h c4
          refine w_aload_n 0 34 hX rfl rfl dX6_cut_34 ?_
          refine w_getR 35 hX CI_6 s_34 rfl r_34_0 fl_X6_11 rfl dX6_cut_35 ?_
          refine w_iload_n 3 38 hX rfl rfl dX6_cut_38 ?_
          obtain ⟨x5, gx5, h⟩ := o_bind h
          refine w_iald 39 hX s_35 gx5 dX6_cut_39 ?_
          refine w_istore (lv' := [(5, .int x5), (0, .ref 34), (1, .int l1), (2, .int l2), (3, .int l3), (4, .int l4)]) 40 hX dX6_cut_40 (by decide) rfl ?_
          refine w_iload_n 4 42 hX rfl rfl dX6_cut_42 ?_
          refine w_iconst 1 43 hX ic_1 dX6_cut_43 ?_
          refine w_iadd 44 hX dX6_cut_44 ?_
          refine w_istore (lv' := [(6, .int (l3 + 1)), (5, .int x5), (0, .ref 34), (1, .int l1), (2, .int l2), (3, .int l3), (4, .int l4)]) 45 hX dX6_cut_45 (by decide) rfl ?_
          refine w_iload 1 47 hX rfl dX6_cut_47 ?_
          obtain ⟨x6, gx6, h⟩ := o_bind h
          refine w_invSi (av := [.int x5]) (st := []) 49 hX ms_yX6_isLetter mi_yX6_isLetter ml_X6_138 (CX6_isLetter x5 u gx6) rfl (by decide) (Nat.le_of_ble_eq_true rfl) (Nat.le_refl _) (Nat.le_refl _) dX6_cut_49 ?_
          refine w_if_eq (tgt := 87) 52 hX dX6_cut_52 (by decide) (fun c7 => ?_) (fun c7 => ?_)
          · have h := it h c7
            refine w_iload 1 87 hX rfl dX6_cut_87 ?_
            obtain ⟨x8, gx8, h⟩ := o_bind h
            refine w_invSi (av := [.int x5]) (st := []) 89 hX ms_yX6_isDigit mi_yX6_isDigit ml_X6_157 (CX6_isDigit x5 u gx8) rfl (by decide) (Nat.le_of_ble_eq_true rfl) (Nat.le_refl _) (Nat.le_refl _) dX6_cut_89 ?_
            refine w_if_eq (tgt := 131) 92 hX dX6_cut_92 (by decide) (fun c9 => ?_) (fun c9 => ?_)
            · have h := it h c9
              refine w_iload 1 131 hX rfl dX6_cut_131 ?_
              refine w_bipush 32 133 hX ib_32 dX6_cut_133 ?_
              refine w_icmp_eq (tgt := 168) 135 hX dX6_cut_135 (by decide) (fun c10 => ?_) (fun c10 => ?_)
              · have h := it h c10
                exact w_sub [2, 3, 4, 6, 0] rfl (bX6_cut_34_168 hX hR hk10 l1 l2 l4 (l3 + 1) u h)
              · have h := ie h c10
                refine w_iload 1 138 hX rfl dX6_cut_138 ?_
                refine w_bipush 10 140 hX ib_10 dX6_cut_140 ?_
                refine w_icmp_eq (tgt := 168) 142 hX dX6_cut_142 (by decide) (fun c11 => ?_) (fun c11 => ?_)
                · have h := it h c11
                  exact w_sub [2, 3, 4, 6, 0] rfl (bX6_cut_34_168 hX hR hk10 l1 l2 l4 (l3 + 1) u h)
                · have h := ie h c11
                  refine w_aload_n 2 145 hX rfl rfl dX6_cut_145 ?_
                  refine w_ldcs 4 146 hX (by decide) rfl rfl dX6_cut_146 ?_
                  refine w_iload 1 148 hX rfl dX6_cut_148 ?_
                  refine w_i2c 150 hX dX6_cut_150 ?_
                  obtain ⟨x12, gx12, h⟩ := o_bind h
                  refine w_S_idx (i := 4) (st := [.ref 34]) 151 hX ml_X6_168 gx12 (by decide) (by decide) (by decide) (Nat.le_of_ble_eq_true rfl) dX6_cut_151 ?_
                  refine w_if_lt (tgt := 162) 154 hX dX6_cut_154 (by decide) (fun c13 => ?_) (fun c13 => ?_)
                  · have h := it h c13
                    refine w_iconst 2 162 hX ic_2 dX6_cut_162 ?_
                    exact w_sub [2, 3, 4, 5, 6, 0] rfl (bX6_cut_34_163 hX hR hk10 l1 l2 l3 l4 (l3 + 1) 2 u h)
                  · have h := ie h c13
                    refine w_iload 1 157 hX rfl dX6_cut_157 ?_
                    refine w_goto (tgt := 163) 159 hX (by decide) dX6_cut_159 ?_
                    exact w_sub [2, 3, 4, 5, 6, 0] rfl (bX6_cut_34_163 hX hR hk10 l1 l2 l3 l4 (l3 + 1) x5 u h)
            · have h := ie h c9
              refine w_aload_n 2 95 hX rfl rfl dX6_cut_95 ?_
              refine w_iload_n 5 96 hX rfl rfl dX6_cut_96 ?_
              refine w_iload_n 3 97 hX rfl rfl dX6_cut_97 ?_
              obtain ⟨x14, gx14, h⟩ := o_bind h
              refine w_invVi (av := [.int l3, .int l1]) (st := []) 98 hX CI_6 s_34 rfl mv_yX6_endOfDigits mi_yX6_endOfDigits ml_X6_160 (CX6_endOfDigits_34 l3 l1 u gx14) rfl (by decide) (Nat.le_of_ble_eq_true rfl) (Nat.le_refl _) (Nat.le_refl _) dX6_cut_98 ?_
              refine w_istore (lv' := [(6, .int x14), (5, .int x5), (0, .ref 34), (1, .int l1), (2, .int l2), (3, .int l3), (4, .int l4)]) 101 hX dX6_cut_101 (by decide) rfl ?_
              refine w_aload_n 2 103 hX rfl rfl dX6_cut_103 ?_
              refine w_iload 0 104 hX rfl dX6_cut_104 ?_
              refine w_iload_n 5 106 hX rfl rfl dX6_cut_106 ?_
              refine w_isub 107 hX dX6_cut_107 ?_
              refine w_iconst 4 108 hX ic_4 dX6_cut_108 ?_
              refine w_icmp_gt (tgt := 116) 109 hX dX6_cut_109 (by decide) (fun c15 => ?_) (fun c15 => ?_)
              · have h := it h c15
                refine w_iconst 2 116 hX ic_2 dX6_cut_116 ?_
                exact w_sub [2, 3, 4, 5, 6, 0] rfl (bX6_cut_34_117 hX hR hk10 l1 l2 l3 l4 x14 2 u h)
              · have h := ie h c15
                refine w_iconst 1 112 hX ic_1 dX6_cut_112 ?_
                refine w_goto (tgt := 117) 113 hX (by decide) dX6_cut_113 ?_
                exact w_sub [2, 3, 4, 5, 6, 0] rfl (bX6_cut_34_117 hX hR hk10 l1 l2 l3 l4 x14 1 u h)
          · have h := ie h c7
            refine w_aload_n 2 55 hX rfl rfl dX6_cut_55 ?_
            refine w_iload_n 5 56 hX rfl rfl dX6_cut_56 ?_
            refine w_iload_n 3 57 hX rfl rfl dX6_cut_57 ?_
            obtain ⟨x16, gx16, h⟩ := o_bind h
            refine w_invVi (av := [.int l3, .int l1]) (st := []) 58 hX CI_6 s_34 rfl mv_yX6_endOfWord mi_yX6_endOfWord ml_X6_142 (CX6_endOfWord_34 l3 l1 u gx16) rfl (by decide) (Nat.le_of_ble_eq_true rfl) (Nat.le_refl _) (Nat.le_refl _) dX6_cut_58 ?_
            refine w_istore (lv' := [(6, .int x16), (5, .int x5), (0, .ref 34), (1, .int l1), (2, .int l2), (3, .int l3), (4, .int l4)]) 61 hX dX6_cut_61 (by decide) rfl ?_
            refine w_aload_n 2 63 hX rfl rfl dX6_cut_63 ?_
            refine w_sipush 256 64 hX isp_256 dX6_cut_64 ?_
            refine w_aload_n 2 67 hX rfl rfl dX6_cut_67 ?_
            refine w_iload_n 4 68 hX rfl rfl dX6_cut_68 ?_
            obtain ⟨x17, gx17, h⟩ := o_bind h
            refine w_invSr (av := [.int l2]) (st := [.ref 34, .int 256, .ref 34]) 69 hX ms_yX6_keywords mi_yX6_keywords ml_X6_145 (CX6_keywords l2 u gx17) rfl (by decide) (Nat.le_of_ble_eq_true rfl) (Nat.le_refl _) (Nat.le_refl _) dX6_cut_69 ?_
            by_cases c18 : x17 = 2000000
            · have h := it h c18
              subst c18
              refine w_iload_n 5 72 hX rfl rfl dX6_cut_72 ?_
              refine w_iload 0 73 hX rfl dX6_cut_73 ?_
              obtain ⟨x19, gx19, h⟩ := o_bind h
              refine w_invVi (av := [.ref 2000000, .int l3, .int x16]) (st := [.int 256, .ref 34]) 75 hX CI_6 s_34 rfl mv_yX6_keyword mi_yX6_keyword ml_X6_149 (CX6_keyword_34_2000000 l3 x16 u gx19) rfl (by decide) (Nat.le_of_ble_eq_true rfl) (Nat.le_refl _) (Nat.le_refl _) dX6_cut_75 ?_
              refine w_iadd 78 hX dX6_cut_78 ?_
              refine w_iload_n 5 79 hX rfl rfl dX6_cut_79 ?_
              refine w_iconst 0 80 hX ic_0 dX6_cut_80 ?_
              obtain ⟨u21, gu21, h⟩ := o_bind h
              refine w_invVv (av := [.int (256 + x19), .int l3, .int 0]) (st := []) 81 hX CI_6 s_34 rfl mv_yX6_token mi_yX6_token ml_X6_153 (CX6_token_34 (256 + x19) l3 0 u gu21) rfl (by decide) (Nat.le_of_ble_eq_true rfl) (Nat.le_refl _) (Nat.le_refl _) dX6_cut_81 ?_
              refine w_goto (tgt := 168) 84 hX (by decide) dX6_cut_84 ?_
              exact w_sub [2, 3, 4, 6, 0] rfl (bX6_cut_34_168 hX hR hk10 l1 l2 l4 x16 u21 h)
            · have h := ie h c18
              by_cases c22 : x17 = 2000001
              · have h := it h c22
                subst c22
                refine w_iload_n 5 72 hX rfl rfl dX6_cut_72 ?_
                refine w_iload 0 73 hX rfl dX6_cut_73 ?_
                obtain ⟨x23, gx23, h⟩ := o_bind h
                refine w_invVi (av := [.ref 2000001, .int l3, .int x16]) (st := [.int 256, .ref 34]) 75 hX CI_6 s_34 rfl mv_yX6_keyword mi_yX6_keyword ml_X6_149 (CX6_keyword_34_2000001 l3 x16 u gx23) rfl (by decide) (Nat.le_of_ble_eq_true rfl) (Nat.le_refl _) (Nat.le_refl _) dX6_cut_75 ?_
                refine w_iadd 78 hX dX6_cut_78 ?_
                refine w_iload_n 5 79 hX rfl rfl dX6_cut_79 ?_
                refine w_iconst 0 80 hX ic_0 dX6_cut_80 ?_
                obtain ⟨u25, gu25, h⟩ := o_bind h
                refine w_invVv (av := [.int (256 + x23), .int l3, .int 0]) (st := []) 81 hX CI_6 s_34 rfl mv_yX6_token mi_yX6_token ml_X6_153 (CX6_token_34 (256 + x23) l3 0 u gu25) rfl (by decide) (Nat.le_of_ble_eq_true rfl) (Nat.le_refl _) (Nat.le_refl _) dX6_cut_81 ?_
                refine w_goto (tgt := 168) 84 hX (by decide) dX6_cut_84 ?_
                exact w_sub [2, 3, 4, 6, 0] rfl (bX6_cut_34_168 hX hR hk10 l1 l2 l4 x16 u25 h)
              · have h := ie h c22
                by_cases c26 : x17 = 2000002
                · have h := it h c26
                  subst c26
                  refine w_iload_n 5 72 hX rfl rfl dX6_cut_72 ?_
                  refine w_iload 0 73 hX rfl dX6_cut_73 ?_
                  obtain ⟨x27, gx27, h⟩ := o_bind h
                  refine w_invVi (av := [.ref 2000002, .int l3, .int x16]) (st := [.int 256, .ref 34]) 75 hX CI_6 s_34 rfl mv_yX6_keyword mi_yX6_keyword ml_X6_149 (CX6_keyword_34_2000002 l3 x16 u gx27) rfl (by decide) (Nat.le_of_ble_eq_true rfl) (Nat.le_refl _) (Nat.le_refl _) dX6_cut_75 ?_
                  refine w_iadd 78 hX dX6_cut_78 ?_
                  refine w_iload_n 5 79 hX rfl rfl dX6_cut_79 ?_
                  refine w_iconst 0 80 hX ic_0 dX6_cut_80 ?_
                  obtain ⟨u29, gu29, h⟩ := o_bind h
                  refine w_invVv (av := [.int (256 + x27), .int l3, .int 0]) (st := []) 81 hX CI_6 s_34 rfl mv_yX6_token mi_yX6_token ml_X6_153 (CX6_token_34 (256 + x27) l3 0 u gu29) rfl (by decide) (Nat.le_of_ble_eq_true rfl) (Nat.le_refl _) (Nat.le_refl _) dX6_cut_81 ?_
                  refine w_goto (tgt := 168) 84 hX (by decide) dX6_cut_84 ?_
                  exact w_sub [2, 3, 4, 6, 0] rfl (bX6_cut_34_168 hX hR hk10 l1 l2 l4 x16 u29 h)
                · have h := ie h c26
                  by_cases c30 : x17 = 2000003
                  · have h := it h c30
                    subst c30
                    refine w_iload_n 5 72 hX rfl rfl dX6_cut_72 ?_
                    refine w_iload 0 73 hX rfl dX6_cut_73 ?_
                    obtain ⟨x31, gx31, h⟩ := o_bind h
                    refine w_invVi (av := [.ref 2000003, .int l3, .int x16]) (st := [.int 256, .ref 34]) 75 hX CI_6 s_34 rfl mv_yX6_keyword mi_yX6_keyword ml_X6_149 (CX6_keyword_34_2000003 l3 x16 u gx31) rfl (by decide) (Nat.le_of_ble_eq_true rfl) (Nat.le_refl _) (Nat.le_refl _) dX6_cut_75 ?_
                    refine w_iadd 78 hX dX6_cut_78 ?_
                    refine w_iload_n 5 79 hX rfl rfl dX6_cut_79 ?_
                    refine w_iconst 0 80 hX ic_0 dX6_cut_80 ?_
                    obtain ⟨u33, gu33, h⟩ := o_bind h
                    refine w_invVv (av := [.int (256 + x31), .int l3, .int 0]) (st := []) 81 hX CI_6 s_34 rfl mv_yX6_token mi_yX6_token ml_X6_153 (CX6_token_34 (256 + x31) l3 0 u gu33) rfl (by decide) (Nat.le_of_ble_eq_true rfl) (Nat.le_refl _) (Nat.le_refl _) dX6_cut_81 ?_
                    refine w_goto (tgt := 168) 84 hX (by decide) dX6_cut_84 ?_
                    exact w_sub [2, 3, 4, 6, 0] rfl (bX6_cut_34_168 hX hR hk10 l1 l2 l4 x16 u33 h)
                  · have h := ie h c30
                    cases h
def FX6_cut_34_L10 : Nat → Int32 → Int32 → Int32 → Int32 → Mem → Option Mem
  | 0, _, _, _, _, _ => none
  | n + 1, l1, l2, l3, l4, u => FX6_cut_34_b10 (FX6_cut_34_L10 n) l1 l2 l3 l4 u
theorem lX6_cut_34_10 {G : Gt} {X : Xt} {u' : Mem} (hX : CxOk G X cX6_cut 7 RX6 (none, (SHg G), (RHg G), u') 9) (hR : CxRet G X none (none, (SHg G), (RHg G), u')) : ∀ (n : Nat) (l1 l2 l3 l4 : Int32) (u : Mem), FX6_cut_34_L10 n l1 l2 l3 l4 u = some u' → WM G X 10 [(0, .ref 34), (1, .int l1), (2, .int l2), (3, .int l3), (4, .int l4)] [] (SHg G) (RHg G) u := by
  intro n
  induction n with
  | zero =>
    intro l1 l2 l3 l4 u h
    exact nn_ h
  | succ n ih =>
    intro l1 l2 l3 l4 u h
    exact bX6_cut_34_10 hX hR ih l1 l2 l3 l4 u h
def FX6_cut_34 (p1 p2 : Int32) (u : Mem) : Option Mem :=
  (some (mupd u 34 8 0)).bind fun u1 => FX6_cut_34_L10 FU p1 p2 0 0 u1
theorem CX6_cut_34 {G : Gt} (p1 p2 : Int32) (u : Mem) {u' : Mem} (h : FX6_cut_34 p1 p2 u = some u') : CT G yX6_cut cX6_cut 7 none 9 [.ref 34, .int p1, .int p2] (SHg G) (RHg G) u (none, (SHg G), (RHg G), u') :=
  ct_of (by decide) rfl (Nat.le_of_ble_eq_true rfl) (Nat.le_refl _) (Nat.le_refl _) (fun X hX hR => by
  unfold FX6_cut_34 at h
  refine w_aload_n 0 0 hX rfl rfl dX6_cut_0 ?_
  refine w_iconst 0 1 hX ic_0 dX6_cut_1 ?_
  obtain ⟨u1, gu1, h⟩ := o_bind h
  refine w_putI (j := 8) 2 hX CI_6 s_34 rfl fl_X6_135 rfl rfl rfl rfl dX6_cut_2 ?_
  rw [Option.some.inj gu1]
  refine w_iconst 0 5 hX ic_0 dX6_cut_5 ?_
  refine w_istore_n (lv' := [(3, .int 0), (0, .ref 34), (1, .int p1), (2, .int p2)]) 6 hX rfl dX6_cut_6 (by decide) rfl ?_
  refine w_iconst 0 7 hX ic_0 dX6_cut_7 ?_
  refine w_istore (lv' := [(4, .int 0), (3, .int 0), (0, .ref 34), (1, .int p1), (2, .int p2)]) 8 hX dX6_cut_8 (by decide) rfl ?_
  exact w_sub [2, 3, 4, 1, 0] rfl (lX6_cut_34_10 hX hR FU p1 p2 0 0 u1 h))
def FX6_go_34_b49 (t1 : Int32) (u : Mem) : Option Mem :=
  (some (mupd u 34 10 t1)).bind fun u1 => some u1
theorem bX6_go_34_49 {G : Gt} {X : Xt} {u' : Mem} (hX : CxOk G X cX6_go 2 RX6 (none, (SHg G), (RHg G), u') 1) (hR : CxRet G X none (none, (SHg G), (RHg G), u')) (t1 : Int32) (u : Mem) (h : FX6_go_34_b49 t1 u = some u') : WM G X 49 [] [.int t1, .ref 34] (SHg G) (RHg G) u := by
  unfold FX6_go_34_b49 at h
  obtain ⟨u1, gu1, h⟩ := o_bind h
  refine w_putI (j := 10) 49 hX CI_6 s_34 rfl fl_X6_67 rfl rfl rfl rfl dX6_go_49 ?_
  rw [Option.some.inj gu1]
  exact w_vret 52 hX hR dX6_go_52 (by cases h; rfl)
def FX6_go_34 (p1 : Int32) (u : Mem) : Option Mem :=
  (some (mupd u 34 9 p1)).bind fun u1 => (if (u1 34 9) < 0 then (FX6_go_34_b49 0 u1) else ((if (u1 34 8) ≤ (u1 34 9) then (FX6_go_34_b49 0 u1) else ((if 401 ≤ (u1 34 9) then (FX6_go_34_b49 0 u1) else ((rdA u1 36 401 (u1 34 9)).bind fun x5 => FX6_go_34_b49 x5 u1))))))
theorem CX6_go_34 {G : Gt} (p1 : Int32) (u : Mem) {u' : Mem} (h : FX6_go_34 p1 u = some u') : CT G yX6_go cX6_go 2 none 1 [.ref 34, .int p1] (SHg G) (RHg G) u (none, (SHg G), (RHg G), u') :=
  ct_of (by decide) rfl (Nat.le_of_ble_eq_true rfl) (Nat.le_refl _) (Nat.le_refl _) (fun X hX hR => by
  unfold FX6_go_34 at h
  refine w_aload_n 0 0 hX rfl rfl dX6_go_0 ?_
  refine w_iload_n 1 1 hX rfl rfl dX6_go_1 ?_
  obtain ⟨u1, gu1, h⟩ := o_bind h
  refine w_putI (j := 9) 2 hX CI_6 s_34 rfl fl_X6_188 rfl rfl rfl rfl dX6_go_2 ?_
  rw [Option.some.inj gu1]
  refine w_aload_n 0 5 hX rfl rfl dX6_go_5 ?_
  refine w_aload_n 0 6 hX rfl rfl dX6_go_6 ?_
  refine w_getI (j := 9) 7 hX CI_6 s_34 rfl fl_X6_188 rfl dX6_go_7 ?_
  refine w_if_lt (tgt := 48) 10 hX dX6_go_10 (by decide) (fun c2 => ?_) (fun c2 => ?_)
  · have h := it h c2
    refine w_iconst 0 48 hX ic_0 dX6_go_48 ?_
    exact w_sub [] rfl (bX6_go_34_49 hX hR 0 u1 h)
  · have h := ie h c2
    refine w_aload_n 0 13 hX rfl rfl dX6_go_13 ?_
    refine w_getI (j := 9) 14 hX CI_6 s_34 rfl fl_X6_188 rfl dX6_go_14 ?_
    refine w_aload_n 0 17 hX rfl rfl dX6_go_17 ?_
    refine w_getI (j := 8) 18 hX CI_6 s_34 rfl fl_X6_135 rfl dX6_go_18 ?_
    refine w_icmp_ge (tgt := 48) 21 hX dX6_go_21 (by decide) (fun c3 => ?_) (fun c3 => ?_)
    · have h := it h c3
      refine w_iconst 0 48 hX ic_0 dX6_go_48 ?_
      exact w_sub [] rfl (bX6_go_34_49 hX hR 0 u1 h)
    · have h := ie h c3
      refine w_aload_n 0 24 hX rfl rfl dX6_go_24 ?_
      refine w_getI (j := 9) 25 hX CI_6 s_34 rfl fl_X6_188 rfl dX6_go_25 ?_
      refine w_aload_n 0 28 hX rfl rfl dX6_go_28 ?_
      refine w_getR 29 hX CI_6 s_34 rfl r_34_1 fl_X6_15 rfl dX6_go_29 ?_
      refine w_alen 401 32 hX s_36 (by decide) dX6_go_32 ?_
      refine w_icmp_ge (tgt := 48) 33 hX dX6_go_33 (by decide) (fun c4 => ?_) (fun c4 => ?_)
      · have h := it h c4
        refine w_iconst 0 48 hX ic_0 dX6_go_48 ?_
        exact w_sub [] rfl (bX6_go_34_49 hX hR 0 u1 h)
      · have h := ie h c4
        refine w_aload_n 0 36 hX rfl rfl dX6_go_36 ?_
        refine w_getR 37 hX CI_6 s_34 rfl r_34_1 fl_X6_15 rfl dX6_go_37 ?_
        refine w_aload_n 0 40 hX rfl rfl dX6_go_40 ?_
        refine w_getI (j := 9) 41 hX CI_6 s_34 rfl fl_X6_188 rfl dX6_go_41 ?_
        obtain ⟨x5, gx5, h⟩ := o_bind h
        refine w_iald 44 hX s_36 gx5 dX6_go_44 ?_
        refine w_goto (tgt := 49) 45 hX (by decide) dX6_go_45 ?_
        exact w_sub [] rfl (bX6_go_34_49 hX hR x5 u1 h))
def FX4_clear_39 (u : Mem) : Option Mem :=
  (some (mupd u 39 6 0)).bind fun u1 => (some (mupd u1 39 7 0)).bind fun u2 => some u2
theorem CX4_clear_39 {G : Gt} (u : Mem) {u' : Mem} (h : FX4_clear_39 u = some u') : CT G yX4_clear cX4_clear 1 none 1 [.ref 39] (SHg G) (RHg G) u (none, (SHg G), (RHg G), u') :=
  ct_of (by decide) rfl (Nat.le_of_ble_eq_true rfl) (Nat.le_refl _) (Nat.le_refl _) (fun X hX hR => by
  unfold FX4_clear_39 at h
  refine w_aload_n 0 0 hX rfl rfl dX4_clear_0 ?_
  refine w_iconst 0 1 hX ic_0 dX4_clear_1 ?_
  obtain ⟨u1, gu1, h⟩ := o_bind h
  refine w_putI (j := 6) 2 hX CI_4 s_39 rfl fl_X4_34 rfl rfl rfl rfl dX4_clear_2 ?_
  rw [Option.some.inj gu1]
  refine w_aload_n 0 5 hX rfl rfl dX4_clear_5 ?_
  refine w_iconst 0 6 hX ic_0 dX4_clear_6 ?_
  obtain ⟨u2, gu2, h⟩ := o_bind h
  refine w_putI (j := 7) 7 hX CI_4 s_39 rfl fl_X4_38 rfl rfl rfl rfl dX4_clear_7 ?_
  rw [Option.some.inj gu2]
  exact w_vret 10 hX hR dX4_clear_10 (by cases h; rfl))
def FJ7_fill_53178_50_b5 (k5 : Int32 → Int32 → Int32 → Mem → Option Mem) (l1 l2 l3 : Int32) (u : Mem) : Option Mem :=
  (if l3 ≤ l2 then (some u) else ((wrA u 50 12 l2 l1).bind fun u2 => k5 l1 (l2 + 1) l3 u2))
theorem bJ7_fill_53178_50_5 {G : Gt} {X : Xt} {u' : Mem} (hX : CxOk G X cJ7_fill_53178 4 RJ7 (none, (SHg G), (RHg G), u') 1) (hR : CxRet G X none (none, (SHg G), (RHg G), u')) {k5 : Int32 → Int32 → Int32 → Mem → Option Mem} (hk5 : ∀ (l1 l2 l3 : Int32) (u : Mem), k5 l1 l2 l3 u = some u' → WM G X 5 [(0, .ref 50), (1, .int l1), (2, .int l2), (3, .int l3)] [] (SHg G) (RHg G) u) (l1 l2 l3 : Int32) (u : Mem) (h : FJ7_fill_53178_50_b5 k5 l1 l2 l3 u = some u') : WM G X 5 [(0, .ref 50), (1, .int l1), (2, .int l2), (3, .int l3)] [] (SHg G) (RHg G) u := by
  unfold FJ7_fill_53178_50_b5 at h
  refine w_iload_n 2 5 hX rfl rfl dJ7_fill_53178_5 ?_
  refine w_iload_n 3 6 hX rfl rfl dJ7_fill_53178_6 ?_
  refine w_icmp_ge (tgt := 20) 7 hX dJ7_fill_53178_7 (by decide) (fun c1 => ?_) (fun c1 => ?_)
  · have h := it h c1
    exact w_vret 20 hX hR dJ7_fill_53178_20 (by cases h; rfl)
  · have h := ie h c1
    refine w_aload_n 0 10 hX rfl rfl dJ7_fill_53178_10 ?_
    refine w_iload_n 2 11 hX rfl rfl dJ7_fill_53178_11 ?_
    refine w_iload_n 1 12 hX rfl rfl dJ7_fill_53178_12 ?_
    obtain ⟨u2, gu2, h⟩ := o_bind h
    refine w_iast 13 hX s_50 gu2 dJ7_fill_53178_13 ?_
    refine w_iinc (lv' := [(2, .int (l2 + 1)), (0, .ref 50), (1, .int l1), (3, .int l3)]) 14 2 hX dJ7_fill_53178_14 rfl (inc_1 _) (by decide) rfl ?_
    refine w_goto (tgt := 5) 17 hX (by decide) dJ7_fill_53178_17 ?_
    exact w_sub [1, 2, 0, 3] rfl (hk5 l1 (l2 + 1) l3 u2 h)
def FJ7_fill_53178_50_L5 : Nat → Int32 → Int32 → Int32 → Mem → Option Mem
  | 0, _, _, _, _ => none
  | n + 1, l1, l2, l3, u => FJ7_fill_53178_50_b5 (FJ7_fill_53178_50_L5 n) l1 l2 l3 u
theorem lJ7_fill_53178_50_5 {G : Gt} {X : Xt} {u' : Mem} (hX : CxOk G X cJ7_fill_53178 4 RJ7 (none, (SHg G), (RHg G), u') 1) (hR : CxRet G X none (none, (SHg G), (RHg G), u')) : ∀ (n : Nat) (l1 l2 l3 : Int32) (u : Mem), FJ7_fill_53178_50_L5 n l1 l2 l3 u = some u' → WM G X 5 [(0, .ref 50), (1, .int l1), (2, .int l2), (3, .int l3)] [] (SHg G) (RHg G) u := by
  intro n
  induction n with
  | zero =>
    intro l1 l2 l3 u h
    exact nn_ h
  | succ n ih =>
    intro l1 l2 l3 u h
    exact bJ7_fill_53178_50_5 hX hR ih l1 l2 l3 u h
def FJ7_fill_53178_50 (p1 : Int32) (u : Mem) : Option Mem :=
  FJ7_fill_53178_50_L5 FU p1 0 12 u
theorem CJ7_fill_53178_50 {G : Gt} (p1 : Int32) (u : Mem) {u' : Mem} (h : FJ7_fill_53178_50 p1 u = some u') : CT G yJ7_fill_53178 cJ7_fill_53178 4 none 1 [.ref 50, .int p1] (SHg G) (RHg G) u (none, (SHg G), (RHg G), u') :=
  ct_of (by decide) rfl (Nat.le_of_ble_eq_true rfl) (Nat.le_refl _) (Nat.le_refl _) (fun X hX hR => by
  unfold FJ7_fill_53178_50 at h
  refine w_iconst 0 0 hX ic_0 dJ7_fill_53178_0 ?_
  refine w_istore_n (lv' := [(2, .int 0), (0, .ref 50), (1, .int p1)]) 1 hX rfl dJ7_fill_53178_1 (by decide) rfl ?_
  refine w_aload_n 1 2 hX rfl rfl dJ7_fill_53178_2 ?_
  refine w_alen 12 3 hX s_50 (by decide) dJ7_fill_53178_3 ?_
  refine w_istore_n (lv' := [(3, .int 12), (2, .int 0), (0, .ref 50), (1, .int p1)]) 4 hX rfl dJ7_fill_53178_4 (by decide) rfl ?_
  exact w_sub [2, 3, 1, 0] rfl (lJ7_fill_53178_50_5 hX hR FU p1 0 12 u h))
def FJ7_fill_53178_51_b5 (k5 : Int32 → Int32 → Int32 → Mem → Option Mem) (l1 l2 l3 : Int32) (u : Mem) : Option Mem :=
  (if l3 ≤ l2 then (some u) else ((wrA u 51 8 l2 l1).bind fun u2 => k5 l1 (l2 + 1) l3 u2))
theorem bJ7_fill_53178_51_5 {G : Gt} {X : Xt} {u' : Mem} (hX : CxOk G X cJ7_fill_53178 4 RJ7 (none, (SHg G), (RHg G), u') 1) (hR : CxRet G X none (none, (SHg G), (RHg G), u')) {k5 : Int32 → Int32 → Int32 → Mem → Option Mem} (hk5 : ∀ (l1 l2 l3 : Int32) (u : Mem), k5 l1 l2 l3 u = some u' → WM G X 5 [(0, .ref 51), (1, .int l1), (2, .int l2), (3, .int l3)] [] (SHg G) (RHg G) u) (l1 l2 l3 : Int32) (u : Mem) (h : FJ7_fill_53178_51_b5 k5 l1 l2 l3 u = some u') : WM G X 5 [(0, .ref 51), (1, .int l1), (2, .int l2), (3, .int l3)] [] (SHg G) (RHg G) u := by
  unfold FJ7_fill_53178_51_b5 at h
  refine w_iload_n 2 5 hX rfl rfl dJ7_fill_53178_5 ?_
  refine w_iload_n 3 6 hX rfl rfl dJ7_fill_53178_6 ?_
  refine w_icmp_ge (tgt := 20) 7 hX dJ7_fill_53178_7 (by decide) (fun c1 => ?_) (fun c1 => ?_)
  · have h := it h c1
    exact w_vret 20 hX hR dJ7_fill_53178_20 (by cases h; rfl)
  · have h := ie h c1
    refine w_aload_n 0 10 hX rfl rfl dJ7_fill_53178_10 ?_
    refine w_iload_n 2 11 hX rfl rfl dJ7_fill_53178_11 ?_
    refine w_iload_n 1 12 hX rfl rfl dJ7_fill_53178_12 ?_
    obtain ⟨u2, gu2, h⟩ := o_bind h
    refine w_iast 13 hX s_51 gu2 dJ7_fill_53178_13 ?_
    refine w_iinc (lv' := [(2, .int (l2 + 1)), (0, .ref 51), (1, .int l1), (3, .int l3)]) 14 2 hX dJ7_fill_53178_14 rfl (inc_1 _) (by decide) rfl ?_
    refine w_goto (tgt := 5) 17 hX (by decide) dJ7_fill_53178_17 ?_
    exact w_sub [1, 2, 0, 3] rfl (hk5 l1 (l2 + 1) l3 u2 h)
def FJ7_fill_53178_51_L5 : Nat → Int32 → Int32 → Int32 → Mem → Option Mem
  | 0, _, _, _, _ => none
  | n + 1, l1, l2, l3, u => FJ7_fill_53178_51_b5 (FJ7_fill_53178_51_L5 n) l1 l2 l3 u
theorem lJ7_fill_53178_51_5 {G : Gt} {X : Xt} {u' : Mem} (hX : CxOk G X cJ7_fill_53178 4 RJ7 (none, (SHg G), (RHg G), u') 1) (hR : CxRet G X none (none, (SHg G), (RHg G), u')) : ∀ (n : Nat) (l1 l2 l3 : Int32) (u : Mem), FJ7_fill_53178_51_L5 n l1 l2 l3 u = some u' → WM G X 5 [(0, .ref 51), (1, .int l1), (2, .int l2), (3, .int l3)] [] (SHg G) (RHg G) u := by
  intro n
  induction n with
  | zero =>
    intro l1 l2 l3 u h
    exact nn_ h
  | succ n ih =>
    intro l1 l2 l3 u h
    exact bJ7_fill_53178_51_5 hX hR ih l1 l2 l3 u h
def FJ7_fill_53178_51 (p1 : Int32) (u : Mem) : Option Mem :=
  FJ7_fill_53178_51_L5 FU p1 0 8 u
theorem CJ7_fill_53178_51 {G : Gt} (p1 : Int32) (u : Mem) {u' : Mem} (h : FJ7_fill_53178_51 p1 u = some u') : CT G yJ7_fill_53178 cJ7_fill_53178 4 none 1 [.ref 51, .int p1] (SHg G) (RHg G) u (none, (SHg G), (RHg G), u') :=
  ct_of (by decide) rfl (Nat.le_of_ble_eq_true rfl) (Nat.le_refl _) (Nat.le_refl _) (fun X hX hR => by
  unfold FJ7_fill_53178_51 at h
  refine w_iconst 0 0 hX ic_0 dJ7_fill_53178_0 ?_
  refine w_istore_n (lv' := [(2, .int 0), (0, .ref 51), (1, .int p1)]) 1 hX rfl dJ7_fill_53178_1 (by decide) rfl ?_
  refine w_aload_n 1 2 hX rfl rfl dJ7_fill_53178_2 ?_
  refine w_alen 8 3 hX s_51 (by decide) dJ7_fill_53178_3 ?_
  refine w_istore_n (lv' := [(3, .int 8), (2, .int 0), (0, .ref 51), (1, .int p1)]) 4 hX rfl dJ7_fill_53178_4 (by decide) rfl ?_
  exact w_sub [2, 3, 1, 0] rfl (lJ7_fill_53178_51_5 hX hR FU p1 0 8 u h))
def FX6_clear_34 (u : Mem) : Option Mem :=
  (FX6_go_34 0 u).bind fun u2 => (some (mupd u2 34 11 0)).bind fun u3 => (FX4_clear_39 u3).bind fun u5 => (some (mupd u5 46 3 0)).bind fun u6 => (FJ7_fill_53178_50 0 u6).bind fun u8 => (FJ7_fill_53178_51 1 u8).bind fun u10 => some u10
theorem CX6_clear_34 {G : Gt} (u : Mem) {u' : Mem} (h : FX6_clear_34 u = some u') : CT G yX6_clear cX6_clear 1 none 2 [.ref 34] (SHg G) (RHg G) u (none, (SHg G), (RHg G), u') :=
  ct_of (by decide) rfl (Nat.le_of_ble_eq_true rfl) (Nat.le_refl _) (Nat.le_refl _) (fun X hX hR => by
  unfold FX6_clear_34 at h
  refine w_aload_n 0 0 hX rfl rfl dX6_clear_0 ?_
  refine w_iconst 0 1 hX ic_0 dX6_clear_1 ?_
  obtain ⟨u2, gu2, h⟩ := o_bind h
  refine w_invVv (av := [.int 0]) (st := []) 2 hX CI_6 s_34 rfl mv_yX6_go mi_yX6_go ml_X6_95 (CX6_go_34 0 u gu2) rfl (by decide) (Nat.le_of_ble_eq_true rfl) (Nat.le_refl _) (Nat.le_refl _) dX6_clear_2 ?_
  refine w_aload_n 0 5 hX rfl rfl dX6_clear_5 ?_
  refine w_iconst 0 6 hX ic_0 dX6_clear_6 ?_
  obtain ⟨u3, gu3, h⟩ := o_bind h
  refine w_putI (j := 11) 7 hX CI_6 s_34 rfl fl_X6_92 rfl rfl rfl rfl dX6_clear_7 ?_
  rw [Option.some.inj gu3]
  refine w_aload_n 0 10 hX rfl rfl dX6_clear_10 ?_
  refine w_getR 11 hX CI_6 s_34 rfl r_34_4 fl_X6_27 rfl dX6_clear_11 ?_
  obtain ⟨u5, gu5, h⟩ := o_bind h
  refine w_invVv (av := []) (st := []) 14 hX CI_4 s_39 rfl mv_yX4_clear mi_yX4_clear ml_X6_98 (CX4_clear_39 u3 gu5) rfl (by decide) (Nat.le_of_ble_eq_true rfl) (Nat.le_refl _) (Nat.le_refl _) dX6_clear_14 ?_
  refine w_aload_n 0 17 hX rfl rfl dX6_clear_17 ?_
  refine w_getR 18 hX CI_6 s_34 rfl r_34_5 fl_X6_34 rfl dX6_clear_18 ?_
  refine w_iconst 0 21 hX ic_0 dX6_clear_21 ?_
  obtain ⟨u6, gu6, h⟩ := o_bind h
  refine w_putI (j := 3) 22 hX CI_5 s_46 rfl fl_X6_99 rfl rfl rfl rfl dX6_clear_22 ?_
  rw [Option.some.inj gu6]
  refine w_aload_n 0 25 hX rfl rfl dX6_clear_25 ?_
  refine w_getR 26 hX CI_6 s_34 rfl r_34_6 fl_X6_38 rfl dX6_clear_26 ?_
  refine w_iconst 0 29 hX ic_0 dX6_clear_29 ?_
  obtain ⟨u8, gu8, h⟩ := o_bind h
  refine w_invSv (av := [.ref 50, .int 0]) (st := []) 30 hX ms_yJ7_fill_53178 mi_yJ7_fill_53178 ml_X6_100 (CJ7_fill_53178_50 0 u6 gu8) rfl (by decide) (Nat.le_of_ble_eq_true rfl) (Nat.le_refl _) (Nat.le_refl _) dX6_clear_30 ?_
  refine w_aload_n 0 33 hX rfl rfl dX6_clear_33 ?_
  refine w_getR 34 hX CI_6 s_34 rfl r_34_7 fl_X6_41 rfl dX6_clear_34 ?_
  refine w_iconst 1 37 hX ic_1 dX6_clear_37 ?_
  obtain ⟨u10, gu10, h⟩ := o_bind h
  refine w_invSv (av := [.ref 51, .int 1]) (st := []) 38 hX ms_yJ7_fill_53178 mi_yJ7_fill_53178 ml_X6_100 (CJ7_fill_53178_51 1 u8 gu10) rfl (by decide) (Nat.le_of_ble_eq_true rfl) (Nat.le_refl _) (Nat.le_refl _) dX6_clear_38 ?_
  exact w_vret 41 hX hR dX6_clear_41 (by cases h; rfl))
def FX6_fail_34_b45 (t1 : Int32) (u : Mem) : Option Mem :=
  (some (mupd u 34 14 t1)).bind fun u1 => (some (mupd u1 34 10 0)).bind fun u2 => some u2
theorem bX6_fail_34_45 {G : Gt} {X : Xt} {u' : Mem} (hX : CxOk G X cX6_fail 2 RX6 (none, (SHg G), (RHg G), u') 1) (hR : CxRet G X none (none, (SHg G), (RHg G), u')) (t1 : Int32) (u : Mem) (h : FX6_fail_34_b45 t1 u = some u') : WM G X 45 [(0, .ref 34)] [.int t1, .ref 34] (SHg G) (RHg G) u := by
  unfold FX6_fail_34_b45 at h
  obtain ⟨u1, gu1, h⟩ := o_bind h
  refine w_putI (j := 14) 45 hX CI_6 s_34 rfl fl_X6_44 rfl rfl rfl rfl dX6_fail_45 ?_
  rw [Option.some.inj gu1]
  refine w_aload_n 0 48 hX rfl rfl dX6_fail_48 ?_
  refine w_iconst 0 49 hX ic_0 dX6_fail_49 ?_
  obtain ⟨u2, gu2, h⟩ := o_bind h
  refine w_putI (j := 10) 50 hX CI_6 s_34 rfl fl_X6_67 rfl rfl rfl rfl dX6_fail_50 ?_
  rw [Option.some.inj gu2]
  exact w_vret 53 hX hR dX6_fail_53 (by cases h; rfl)
def FX6_fail_34 (p1 : Int32) (u : Mem) : Option Mem :=
  (if (u 34 13) = 0 then ((some (mupd u 34 13 p1)).bind fun u2 => (if (u2 34 9) < 0 then (FX6_fail_34_b45 (-1) u2) else ((if 401 ≤ (u2 34 9) then (FX6_fail_34_b45 (-1) u2) else ((rdA u2 37 401 (u2 34 9)).bind fun x5 => FX6_fail_34_b45 x5 u2))))) else (some u))
theorem CX6_fail_34 {G : Gt} (p1 : Int32) (u : Mem) {u' : Mem} (h : FX6_fail_34 p1 u = some u') : CT G yX6_fail cX6_fail 2 none 1 [.ref 34, .int p1] (SHg G) (RHg G) u (none, (SHg G), (RHg G), u') :=
  ct_of (by decide) rfl (Nat.le_of_ble_eq_true rfl) (Nat.le_refl _) (Nat.le_refl _) (fun X hX hR => by
  unfold FX6_fail_34 at h
  refine w_aload_n 0 0 hX rfl rfl dX6_fail_0 ?_
  refine w_getI (j := 13) 1 hX CI_6 s_34 rfl fl_X6_57 rfl dX6_fail_1 ?_
  refine w_if_ne (tgt := 53) 4 hX dX6_fail_4 (by decide) (fun c1 => ?_) (fun c1 => ?_)
  · have h := ie h c1
    exact w_vret 53 hX hR dX6_fail_53 (by cases h; rfl)
  · have h := it h c1
    refine w_aload_n 0 7 hX rfl rfl dX6_fail_7 ?_
    refine w_iload_n 1 8 hX rfl rfl dX6_fail_8 ?_
    obtain ⟨u2, gu2, h⟩ := o_bind h
    refine w_putI (j := 13) 9 hX CI_6 s_34 rfl fl_X6_57 rfl rfl rfl rfl dX6_fail_9 ?_
    rw [Option.some.inj gu2]
    refine w_aload_n 0 12 hX rfl rfl dX6_fail_12 ?_
    refine w_aload_n 0 13 hX rfl rfl dX6_fail_13 ?_
    refine w_getI (j := 9) 14 hX CI_6 s_34 rfl fl_X6_188 rfl dX6_fail_14 ?_
    refine w_if_lt (tgt := 44) 17 hX dX6_fail_17 (by decide) (fun c3 => ?_) (fun c3 => ?_)
    · have h := it h c3
      refine w_iconst (-1) 44 hX ic_m1 dX6_fail_44 ?_
      exact w_sub [0] rfl (bX6_fail_34_45 hX hR (-1) u2 h)
    · have h := ie h c3
      refine w_aload_n 0 20 hX rfl rfl dX6_fail_20 ?_
      refine w_getI (j := 9) 21 hX CI_6 s_34 rfl fl_X6_188 rfl dX6_fail_21 ?_
      refine w_aload_n 0 24 hX rfl rfl dX6_fail_24 ?_
      refine w_getR 25 hX CI_6 s_34 rfl r_34_2 fl_X6_18 rfl dX6_fail_25 ?_
      refine w_alen 401 28 hX s_37 (by decide) dX6_fail_28 ?_
      refine w_icmp_ge (tgt := 44) 29 hX dX6_fail_29 (by decide) (fun c4 => ?_) (fun c4 => ?_)
      · have h := it h c4
        refine w_iconst (-1) 44 hX ic_m1 dX6_fail_44 ?_
        exact w_sub [0] rfl (bX6_fail_34_45 hX hR (-1) u2 h)
      · have h := ie h c4
        refine w_aload_n 0 32 hX rfl rfl dX6_fail_32 ?_
        refine w_getR 33 hX CI_6 s_34 rfl r_34_2 fl_X6_18 rfl dX6_fail_33 ?_
        refine w_aload_n 0 36 hX rfl rfl dX6_fail_36 ?_
        refine w_getI (j := 9) 37 hX CI_6 s_34 rfl fl_X6_188 rfl dX6_fail_37 ?_
        obtain ⟨x5, gx5, h⟩ := o_bind h
        refine w_iald 40 hX s_37 gx5 dX6_fail_40 ?_
        refine w_goto (tgt := 45) 41 hX (by decide) dX6_fail_41 ?_
        exact w_sub [0] rfl (bX6_fail_34_45 hX hR x5 u2 h))
def FX6_take_34 (p1 : Int32) (u : Mem) : Option (Int32 × Mem) :=
  (if (u 34 10) = p1 then ((FX6_go_34 ((u 34 9) + 1) u).bind fun u3 => some (1, u3)) else (some (0, u)))
theorem CX6_take_34 {G : Gt} (p1 : Int32) (u : Mem) {v : Int32} {u' : Mem} (h : FX6_take_34 p1 u = some (v, u')) : CT G yX6_take cX6_take 2 (some .boolean) 2 [.ref 34, .int p1] (SHg G) (RHg G) u (some (.int v), (SHg G), (RHg G), u') :=
  ct_of (by decide) rfl (Nat.le_of_ble_eq_true rfl) (Nat.le_refl _) (Nat.le_refl _) (fun X hX hR => by
  unfold FX6_take_34 at h
  refine w_aload_n 0 0 hX rfl rfl dX6_take_0 ?_
  refine w_getI (j := 10) 1 hX CI_6 s_34 rfl fl_X6_67 rfl dX6_take_1 ?_
  refine w_iload_n 1 4 hX rfl rfl dX6_take_4 ?_
  refine w_icmp_eq (tgt := 10) 5 hX dX6_take_5 (by decide) (fun c1 => ?_) (fun c1 => ?_)
  · have h := it h c1
    refine w_aload_n 0 10 hX rfl rfl dX6_take_10 ?_
    refine w_aload_n 0 11 hX rfl rfl dX6_take_11 ?_
    refine w_getI (j := 9) 12 hX CI_6 s_34 rfl fl_X6_188 rfl dX6_take_12 ?_
    refine w_iconst 1 15 hX ic_1 dX6_take_15 ?_
    refine w_iadd 16 hX dX6_take_16 ?_
    obtain ⟨u3, gu3, h⟩ := o_bind h
    refine w_invVv (av := [.int ((u 34 9) + 1)]) (st := []) 17 hX CI_6 s_34 rfl mv_yX6_go mi_yX6_go ml_X6_95 (CX6_go_34 ((u 34 9) + 1) u gu3) rfl (by decide) (Nat.le_of_ble_eq_true rfl) (Nat.le_refl _) (Nat.le_refl _) dX6_take_17 ?_
    refine w_iconst 1 20 hX ic_1 dX6_take_20 ?_
    exact w_zret 21 hX hR (by decide) dX6_take_21 (by cases h; rfl)
  · have h := ie h c1
    refine w_iconst 0 8 hX ic_0 dX6_take_8 ?_
    exact w_zret 9 hX hR (by decide) dX6_take_9 (by cases h; rfl))
def FX6_need_34 (p1 : Int32) (u : Mem) : Option Mem :=
  bnd2 (FX6_take_34 p1 u) fun x1 u2 => (if x1 = 0 then ((FX6_fail_34 1 u2).bind fun u5 => some u5) else (some u2))
theorem CX6_need_34 {G : Gt} (p1 : Int32) (u : Mem) {u' : Mem} (h : FX6_need_34 p1 u = some u') : CT G yX6_need cX6_need 2 none 3 [.ref 34, .int p1] (SHg G) (RHg G) u (none, (SHg G), (RHg G), u') :=
  ct_of (by decide) rfl (Nat.le_of_ble_eq_true rfl) (Nat.le_refl _) (Nat.le_refl _) (fun X hX hR => by
  unfold FX6_need_34 at h
  refine w_aload_n 0 0 hX rfl rfl dX6_need_0 ?_
  refine w_iload_n 1 1 hX rfl rfl dX6_need_1 ?_
  obtain ⟨x1, u2, gx1, h⟩ := o_bnd2 h
  refine w_invVi (av := [.int p1]) (st := []) 2 hX CI_6 s_34 rfl mv_yX6_take mi_yX6_take ml_X6_191 (CX6_take_34 p1 u gx1) rfl (by decide) (Nat.le_of_ble_eq_true rfl) (Nat.le_refl _) (Nat.le_refl _) dX6_need_2 ?_
  refine w_if_ne (tgt := 13) 5 hX dX6_need_5 (by decide) (fun c3 => ?_) (fun c3 => ?_)
  · have h := ie h c3
    exact w_vret 13 hX hR dX6_need_13 (by cases h; rfl)
  · have h := it h c3
    refine w_aload_n 0 8 hX rfl rfl dX6_need_8 ?_
    refine w_iconst 1 9 hX ic_1 dX6_need_9 ?_
    obtain ⟨u5, gu5, h⟩ := o_bind h
    refine w_invVv (av := [.int 1]) (st := []) 10 hX CI_6 s_34 rfl mv_yX6_fail mi_yX6_fail ml_X6_194 (CX6_fail_34 1 u2 gu5) rfl (by decide) (Nat.le_of_ble_eq_true rfl) (Nat.le_refl _) (Nat.le_refl _) dX6_need_10 ?_
    exact w_vret 13 hX hR dX6_need_13 (by cases h; rfl))
def FX6_beginLine_34_b25 (l1 : Int32) (u : Mem) : Option Mem :=
  (FX6_need_34 l1 u).bind fun u2 => some u2
theorem bX6_beginLine_34_25 {G : Gt} {X : Xt} {u' : Mem} (hX : CxOk G X cX6_beginLine 2 RX6 (none, (SHg G), (RHg G), u') 4) (hR : CxRet G X none (none, (SHg G), (RHg G), u')) (l1 : Int32) (u : Mem) (h : FX6_beginLine_34_b25 l1 u = some u') : WM G X 25 [(0, .ref 34), (1, .int l1)] [] (SHg G) (RHg G) u := by
  unfold FX6_beginLine_34_b25 at h
  refine w_aload_n 0 25 hX rfl rfl dX6_beginLine_25 ?_
  refine w_iload_n 1 26 hX rfl rfl dX6_beginLine_26 ?_
  obtain ⟨u2, gu2, h⟩ := o_bind h
  refine w_invVv (av := [.int l1]) (st := []) 27 hX CI_6 s_34 rfl mv_yX6_need mi_yX6_need ml_X6_197 (CX6_need_34 l1 u gu2) rfl (by decide) (Nat.le_of_ble_eq_true rfl) (Nat.le_refl _) (Nat.le_refl _) dX6_beginLine_27 ?_
  exact w_vret 30 hX hR dX6_beginLine_30 (by cases h; rfl)
def FX6_beginLine_34 (p1 : Int32) (u : Mem) : Option Mem :=
  (if (u 34 10) = p1 then ((if (u 34 11) = 16 then ((FX6_fail_34 3 u).bind fun u4 => some u4) else (FX6_beginLine_34_b25 p1 u))) else (FX6_beginLine_34_b25 p1 u))
theorem CX6_beginLine_34 {G : Gt} (p1 : Int32) (u : Mem) {u' : Mem} (h : FX6_beginLine_34 p1 u = some u') : CT G yX6_beginLine cX6_beginLine 2 none 4 [.ref 34, .int p1] (SHg G) (RHg G) u (none, (SHg G), (RHg G), u') :=
  ct_of (by decide) rfl (Nat.le_of_ble_eq_true rfl) (Nat.le_refl _) (Nat.le_refl _) (fun X hX hR => by
  unfold FX6_beginLine_34 at h
  refine w_aload_n 0 0 hX rfl rfl dX6_beginLine_0 ?_
  refine w_getI (j := 10) 1 hX CI_6 s_34 rfl fl_X6_67 rfl dX6_beginLine_1 ?_
  refine w_iload_n 1 4 hX rfl rfl dX6_beginLine_4 ?_
  refine w_icmp_ne (tgt := 25) 5 hX dX6_beginLine_5 (by decide) (fun c1 => ?_) (fun c1 => ?_)
  · have h := ie h c1
    exact bX6_beginLine_34_25 hX hR p1 u h
  · have h := it h c1
    refine w_aload_n 0 8 hX rfl rfl dX6_beginLine_8 ?_
    refine w_getI (j := 11) 9 hX CI_6 s_34 rfl fl_X6_92 rfl dX6_beginLine_9 ?_
    refine w_bipush 16 12 hX ib_16 dX6_beginLine_12 ?_
    refine w_icmp_ne (tgt := 25) 14 hX dX6_beginLine_14 (by decide) (fun c2 => ?_) (fun c2 => ?_)
    · have h := ie h c2
      exact bX6_beginLine_34_25 hX hR p1 u h
    · have h := it h c2
      refine w_aload_n 0 17 hX rfl rfl dX6_beginLine_17 ?_
      refine w_iconst 3 18 hX ic_3 dX6_beginLine_18 ?_
      obtain ⟨u4, gu4, h⟩ := o_bind h
      refine w_invVv (av := [.int 3]) (st := []) 19 hX CI_6 s_34 rfl mv_yX6_fail mi_yX6_fail ml_X6_194 (CX6_fail_34 3 u gu4) rfl (by decide) (Nat.le_of_ble_eq_true rfl) (Nat.le_refl _) (Nat.le_refl _) dX6_beginLine_19 ?_
      refine w_goto (tgt := 30) 22 hX (by decide) dX6_beginLine_22 ?_
      exact w_vret 30 hX hR dX6_beginLine_30 (by cases h; rfl))
def FX4_beginLine_39 (p1 : Int32) (u : Mem) : Option Mem :=
  (if (u 39 7) < 0 then (some u) else ((if 16 ≤ (u 39 7) then (some u) else ((wrA u 41 16 (u 39 7) p1).bind fun u3 => (wrA u3 42 16 (u3 39 7) (u3 39 6)).bind fun u4 => some u4))))
theorem CX4_beginLine_39 {G : Gt} (p1 : Int32) (u : Mem) {u' : Mem} (h : FX4_beginLine_39 p1 u = some u') : CT G yX4_beginLine cX4_beginLine 2 none 1 [.ref 39, .int p1] (SHg G) (RHg G) u (none, (SHg G), (RHg G), u') :=
  ct_of (by decide) rfl (Nat.le_of_ble_eq_true rfl) (Nat.le_refl _) (Nat.le_refl _) (fun X hX hR => by
  unfold FX4_beginLine_39 at h
  refine w_aload_n 0 0 hX rfl rfl dX4_beginLine_0 ?_
  refine w_getI (j := 7) 1 hX CI_4 s_39 rfl fl_X4_38 rfl dX4_beginLine_1 ?_
  refine w_if_lt (tgt := 39) 4 hX dX4_beginLine_4 (by decide) (fun c1 => ?_) (fun c1 => ?_)
  · have h := it h c1
    exact w_vret 39 hX hR dX4_beginLine_39 (by cases h; rfl)
  · have h := ie h c1
    refine w_aload_n 0 7 hX rfl rfl dX4_beginLine_7 ?_
    refine w_getI (j := 7) 8 hX CI_4 s_39 rfl fl_X4_38 rfl dX4_beginLine_8 ?_
    refine w_bipush 16 11 hX ib_16 dX4_beginLine_11 ?_
    refine w_icmp_ge (tgt := 39) 13 hX dX4_beginLine_13 (by decide) (fun c2 => ?_) (fun c2 => ?_)
    · have h := it h c2
      exact w_vret 39 hX hR dX4_beginLine_39 (by cases h; rfl)
    · have h := ie h c2
      refine w_aload_n 0 16 hX rfl rfl dX4_beginLine_16 ?_
      refine w_getR 17 hX CI_4 s_39 rfl r_39_1 fl_X4_15 rfl dX4_beginLine_17 ?_
      refine w_aload_n 0 20 hX rfl rfl dX4_beginLine_20 ?_
      refine w_getI (j := 7) 21 hX CI_4 s_39 rfl fl_X4_38 rfl dX4_beginLine_21 ?_
      refine w_iload_n 1 24 hX rfl rfl dX4_beginLine_24 ?_
      obtain ⟨u3, gu3, h⟩ := o_bind h
      refine w_iast 25 hX s_41 gu3 dX4_beginLine_25 ?_
      refine w_aload_n 0 26 hX rfl rfl dX4_beginLine_26 ?_
      refine w_getR 27 hX CI_4 s_39 rfl r_39_2 fl_X4_18 rfl dX4_beginLine_27 ?_
      refine w_aload_n 0 30 hX rfl rfl dX4_beginLine_30 ?_
      refine w_getI (j := 7) 31 hX CI_4 s_39 rfl fl_X4_38 rfl dX4_beginLine_31 ?_
      refine w_aload_n 0 34 hX rfl rfl dX4_beginLine_34 ?_
      refine w_getI (j := 6) 35 hX CI_4 s_39 rfl fl_X4_34 rfl dX4_beginLine_35 ?_
      obtain ⟨u4, gu4, h⟩ := o_bind h
      refine w_iast 38 hX s_42 gu4 dX4_beginLine_38 ?_
      exact w_vret 39 hX hR dX4_beginLine_39 (by cases h; rfl))
def FX4_put_39 (p1 : Int32) (u : Mem) : Option Mem :=
  (if (u 39 6) < 0 then (some u) else ((if 400 ≤ (u 39 6) then (some u) else ((wrA u 40 400 (u 39 6) p1).bind fun u3 => (some (mupd u3 39 6 ((u3 39 6) + 1))).bind fun u4 => some u4))))
theorem CX4_put_39 {G : Gt} (p1 : Int32) (u : Mem) {u' : Mem} (h : FX4_put_39 p1 u = some u') : CT G yX4_put cX4_put 2 none 1 [.ref 39, .int p1] (SHg G) (RHg G) u (none, (SHg G), (RHg G), u') :=
  ct_of (by decide) rfl (Nat.le_of_ble_eq_true rfl) (Nat.le_refl _) (Nat.le_refl _) (fun X hX hR => by
  unfold FX4_put_39 at h
  refine w_aload_n 0 0 hX rfl rfl dX4_put_0 ?_
  refine w_getI (j := 6) 1 hX CI_4 s_39 rfl fl_X4_34 rfl dX4_put_1 ?_
  refine w_if_lt (tgt := 39) 4 hX dX4_put_4 (by decide) (fun c1 => ?_) (fun c1 => ?_)
  · have h := it h c1
    exact w_vret 39 hX hR dX4_put_39 (by cases h; rfl)
  · have h := ie h c1
    refine w_aload_n 0 7 hX rfl rfl dX4_put_7 ?_
    refine w_getI (j := 6) 8 hX CI_4 s_39 rfl fl_X4_34 rfl dX4_put_8 ?_
    refine w_aload_n 0 11 hX rfl rfl dX4_put_11 ?_
    refine w_getR 12 hX CI_4 s_39 rfl r_39_0 fl_X4_9 rfl dX4_put_12 ?_
    refine w_alen 400 15 hX s_40 (by decide) dX4_put_15 ?_
    refine w_icmp_ge (tgt := 39) 16 hX dX4_put_16 (by decide) (fun c2 => ?_) (fun c2 => ?_)
    · have h := it h c2
      exact w_vret 39 hX hR dX4_put_39 (by cases h; rfl)
    · have h := ie h c2
      refine w_aload_n 0 19 hX rfl rfl dX4_put_19 ?_
      refine w_getR 20 hX CI_4 s_39 rfl r_39_0 fl_X4_9 rfl dX4_put_20 ?_
      refine w_aload_n 0 23 hX rfl rfl dX4_put_23 ?_
      refine w_getI (j := 6) 24 hX CI_4 s_39 rfl fl_X4_34 rfl dX4_put_24 ?_
      refine w_iload_n 1 27 hX rfl rfl dX4_put_27 ?_
      obtain ⟨u3, gu3, h⟩ := o_bind h
      refine w_iast 28 hX s_40 gu3 dX4_put_28 ?_
      refine w_aload_n 0 29 hX rfl rfl dX4_put_29 ?_
      refine w_dup 30 hX rfl dX4_put_30 ?_
      refine w_getI (j := 6) 31 hX CI_4 s_39 rfl fl_X4_34 rfl dX4_put_31 ?_
      refine w_iconst 1 34 hX ic_1 dX4_put_34 ?_
      refine w_iadd 35 hX dX4_put_35 ?_
      obtain ⟨u4, gu4, h⟩ := o_bind h
      refine w_putI (j := 6) 36 hX CI_4 s_39 rfl fl_X4_34 rfl rfl rfl rfl dX4_put_36 ?_
      rw [Option.some.inj gu4]
      exact w_vret 39 hX hR dX4_put_39 (by cases h; rfl))
def FX6_unit_34_b98 (u : Mem) : Option Mem :=
  (FX6_fail_34 1 u).bind fun u2 => some u2
theorem bX6_unit_34_98 {G : Gt} {X : Xt} {u' : Mem} (hX : CxOk G X cX6_unit 2 RX6 (none, (SHg G), (RHg G), u') 2) (hR : CxRet G X none (none, (SHg G), (RHg G), u')) (u : Mem) (h : FX6_unit_34_b98 u = some u') : WM G X 98 [(0, .ref 34)] [] (SHg G) (RHg G) u := by
  unfold FX6_unit_34_b98 at h
  refine w_aload_n 0 98 hX rfl rfl dX6_unit_98 ?_
  refine w_iconst 1 99 hX ic_1 dX6_unit_99 ?_
  obtain ⟨u2, gu2, h⟩ := o_bind h
  refine w_invVv (av := [.int 1]) (st := []) 100 hX CI_6 s_34 rfl mv_yX6_fail mi_yX6_fail ml_X6_194 (CX6_fail_34 1 u gu2) rfl (by decide) (Nat.le_of_ble_eq_true rfl) (Nat.le_refl _) (Nat.le_refl _) dX6_unit_100 ?_
  exact w_vret 103 hX hR dX6_unit_103 (by cases h; rfl)
def FX6_unit_34_b42 (u : Mem) : Option Mem :=
  (if (u 34 10) = 1 then ((if (u 34 9) < 0 then (FX6_unit_34_b98 u) else ((if 401 ≤ (u 34 9) then (FX6_unit_34_b98 u) else ((rdA u 38 401 (u 34 9)).bind fun x4 => (FX4_put_39 x4 u).bind fun u6 => (FX6_go_34 ((u6 34 9) + 1) u6).bind fun u8 => some u8))))) else (FX6_unit_34_b98 u))
theorem bX6_unit_34_42 {G : Gt} {X : Xt} {u' : Mem} (hX : CxOk G X cX6_unit 2 RX6 (none, (SHg G), (RHg G), u') 2) (hR : CxRet G X none (none, (SHg G), (RHg G), u')) (u : Mem) (h : FX6_unit_34_b42 u = some u') : WM G X 42 [(0, .ref 34)] [] (SHg G) (RHg G) u := by
  unfold FX6_unit_34_b42 at h
  refine w_aload_n 0 42 hX rfl rfl dX6_unit_42 ?_
  refine w_getI (j := 10) 43 hX CI_6 s_34 rfl fl_X6_67 rfl dX6_unit_43 ?_
  refine w_iconst 1 46 hX ic_1 dX6_unit_46 ?_
  refine w_icmp_ne (tgt := 98) 47 hX dX6_unit_47 (by decide) (fun c1 => ?_) (fun c1 => ?_)
  · have h := ie h c1
    exact bX6_unit_34_98 hX hR u h
  · have h := it h c1
    refine w_aload_n 0 50 hX rfl rfl dX6_unit_50 ?_
    refine w_getI (j := 9) 51 hX CI_6 s_34 rfl fl_X6_188 rfl dX6_unit_51 ?_
    refine w_if_lt (tgt := 98) 54 hX dX6_unit_54 (by decide) (fun c2 => ?_) (fun c2 => ?_)
    · have h := it h c2
      exact bX6_unit_34_98 hX hR u h
    · have h := ie h c2
      refine w_aload_n 0 57 hX rfl rfl dX6_unit_57 ?_
      refine w_getI (j := 9) 58 hX CI_6 s_34 rfl fl_X6_188 rfl dX6_unit_58 ?_
      refine w_aload_n 0 61 hX rfl rfl dX6_unit_61 ?_
      refine w_getR 62 hX CI_6 s_34 rfl r_34_3 fl_X6_21 rfl dX6_unit_62 ?_
      refine w_alen 401 65 hX s_38 (by decide) dX6_unit_65 ?_
      refine w_icmp_ge (tgt := 98) 66 hX dX6_unit_66 (by decide) (fun c3 => ?_) (fun c3 => ?_)
      · have h := it h c3
        exact bX6_unit_34_98 hX hR u h
      · have h := ie h c3
        refine w_aload_n 0 69 hX rfl rfl dX6_unit_69 ?_
        refine w_getR 70 hX CI_6 s_34 rfl r_34_4 fl_X6_27 rfl dX6_unit_70 ?_
        refine w_aload_n 0 73 hX rfl rfl dX6_unit_73 ?_
        refine w_getR 74 hX CI_6 s_34 rfl r_34_3 fl_X6_21 rfl dX6_unit_74 ?_
        refine w_aload_n 0 77 hX rfl rfl dX6_unit_77 ?_
        refine w_getI (j := 9) 78 hX CI_6 s_34 rfl fl_X6_188 rfl dX6_unit_78 ?_
        obtain ⟨x4, gx4, h⟩ := o_bind h
        refine w_iald 81 hX s_38 gx4 dX6_unit_81 ?_
        obtain ⟨u6, gu6, h⟩ := o_bind h
        refine w_invVv (av := [.int x4]) (st := []) 82 hX CI_4 s_39 rfl mv_yX4_put mi_yX4_put ml_X6_219 (CX4_put_39 x4 u gu6) rfl (by decide) (Nat.le_of_ble_eq_true rfl) (Nat.le_refl _) (Nat.le_refl _) dX6_unit_82 ?_
        refine w_aload_n 0 85 hX rfl rfl dX6_unit_85 ?_
        refine w_aload_n 0 86 hX rfl rfl dX6_unit_86 ?_
        refine w_getI (j := 9) 87 hX CI_6 s_34 rfl fl_X6_188 rfl dX6_unit_87 ?_
        refine w_iconst 1 90 hX ic_1 dX6_unit_90 ?_
        refine w_iadd 91 hX dX6_unit_91 ?_
        obtain ⟨u8, gu8, h⟩ := o_bind h
        refine w_invVv (av := [.int ((u6 34 9) + 1)]) (st := []) 92 hX CI_6 s_34 rfl mv_yX6_go mi_yX6_go ml_X6_95 (CX6_go_34 ((u6 34 9) + 1) u6 gu8) rfl (by decide) (Nat.le_of_ble_eq_true rfl) (Nat.le_refl _) (Nat.le_refl _) dX6_unit_92 ?_
        refine w_goto (tgt := 103) 95 hX (by decide) dX6_unit_95 ?_
        exact w_vret 103 hX hR dX6_unit_103 (by cases h; rfl)
def FX6_unit_34 (u : Mem) : Option Mem :=
  (if ((u 34 10) - 264) < 0 then (FX6_unit_34_b42 u) else ((if 9 ≤ ((u 34 10) - 264) then (FX6_unit_34_b42 u) else ((FX4_put_39 ((-1) - ((u 34 10) - 264)) u).bind fun u4 => (FX6_go_34 ((u4 34 9) + 1) u4).bind fun u6 => some u6))))
theorem CX6_unit_34 {G : Gt} (u : Mem) {u' : Mem} (h : FX6_unit_34 u = some u') : CT G yX6_unit cX6_unit 2 none 2 [.ref 34] (SHg G) (RHg G) u (none, (SHg G), (RHg G), u') :=
  ct_of (by decide) rfl (Nat.le_of_ble_eq_true rfl) (Nat.le_refl _) (Nat.le_refl _) (fun X hX hR => by
  unfold FX6_unit_34 at h
  refine w_aload_n 0 0 hX rfl rfl dX6_unit_0 ?_
  refine w_getI (j := 10) 1 hX CI_6 s_34 rfl fl_X6_67 rfl dX6_unit_1 ?_
  refine w_sipush 264 4 hX isp_264 dX6_unit_4 ?_
  refine w_isub 7 hX dX6_unit_7 ?_
  refine w_istore_n (lv' := [(1, .int ((u 34 10) - 264)), (0, .ref 34)]) 8 hX rfl dX6_unit_8 (by decide) rfl ?_
  refine w_iload_n 0 9 hX rfl rfl dX6_unit_9 ?_
  refine w_if_lt (tgt := 42) 10 hX dX6_unit_10 (by decide) (fun c1 => ?_) (fun c1 => ?_)
  · have h := it h c1
    exact w_sub [1] rfl (bX6_unit_34_42 hX hR u h)
  · have h := ie h c1
    refine w_iload_n 0 13 hX rfl rfl dX6_unit_13 ?_
    refine w_bipush 9 14 hX ib_9 dX6_unit_14 ?_
    refine w_icmp_ge (tgt := 42) 16 hX dX6_unit_16 (by decide) (fun c2 => ?_) (fun c2 => ?_)
    · have h := it h c2
      exact w_sub [1] rfl (bX6_unit_34_42 hX hR u h)
    · have h := ie h c2
      refine w_aload_n 1 19 hX rfl rfl dX6_unit_19 ?_
      refine w_getR 20 hX CI_6 s_34 rfl r_34_4 fl_X6_27 rfl dX6_unit_20 ?_
      refine w_iconst (-1) 23 hX ic_m1 dX6_unit_23 ?_
      refine w_iload_n 0 24 hX rfl rfl dX6_unit_24 ?_
      refine w_isub 25 hX dX6_unit_25 ?_
      obtain ⟨u4, gu4, h⟩ := o_bind h
      refine w_invVv (av := [.int ((-1) - ((u 34 10) - 264))]) (st := []) 26 hX CI_4 s_39 rfl mv_yX4_put mi_yX4_put ml_X6_219 (CX4_put_39 ((-1) - ((u 34 10) - 264)) u gu4) rfl (by decide) (Nat.le_of_ble_eq_true rfl) (Nat.le_refl _) (Nat.le_refl _) dX6_unit_26 ?_
      refine w_aload_n 1 29 hX rfl rfl dX6_unit_29 ?_
      refine w_aload_n 1 30 hX rfl rfl dX6_unit_30 ?_
      refine w_getI (j := 9) 31 hX CI_6 s_34 rfl fl_X6_188 rfl dX6_unit_31 ?_
      refine w_iconst 1 34 hX ic_1 dX6_unit_34 ?_
      refine w_iadd 35 hX dX6_unit_35 ?_
      obtain ⟨u6, gu6, h⟩ := o_bind h
      refine w_invVv (av := [.int ((u4 34 9) + 1)]) (st := []) 36 hX CI_6 s_34 rfl mv_yX6_go mi_yX6_go ml_X6_95 (CX6_go_34 ((u4 34 9) + 1) u4 gu6) rfl (by decide) (Nat.le_of_ble_eq_true rfl) (Nat.le_refl _) (Nat.le_refl _) dX6_unit_36 ?_
      refine w_goto (tgt := 103) 39 hX (by decide) dX6_unit_39 ?_
      exact w_vret 103 hX hR dX6_unit_103 (by cases h; rfl))
def FX6_number_34_b54 (u : Mem) : Option (Int32 × Mem) :=
  (FX6_fail_34 2 u).bind fun u2 => some ((-1), u2)
theorem bX6_number_34_54 {G : Gt} {X : Xt} {v : Int32} {u' : Mem} (hX : CxOk G X cX6_number 4 RX6 (some (.int v), (SHg G), (RHg G), u') 2) (hR : CxRet G X (some .int) (some (.int v), (SHg G), (RHg G), u')) (u : Mem) (h : FX6_number_34_b54 u = some (v, u')) : WM G X 54 [(0, .ref 34)] [] (SHg G) (RHg G) u := by
  unfold FX6_number_34_b54 at h
  refine w_aload_n 0 54 hX rfl rfl dX6_number_54 ?_
  refine w_iconst 2 55 hX ic_2 dX6_number_55 ?_
  obtain ⟨u2, gu2, h⟩ := o_bind h
  refine w_invVv (av := [.int 2]) (st := []) 56 hX CI_6 s_34 rfl mv_yX6_fail mi_yX6_fail ml_X6_194 (CX6_fail_34 2 u gu2) rfl (by decide) (Nat.le_of_ble_eq_true rfl) (Nat.le_refl _) (Nat.le_refl _) dX6_number_56 ?_
  refine w_iconst (-1) 59 hX ic_m1 dX6_number_59 ?_
  exact w_iret 60 hX hR dX6_number_60 (by cases h; rfl)
def FX6_number_34_b27 (u : Mem) : Option (Int32 × Mem) :=
  (FX6_fail_34 1 u).bind fun u2 => some ((-1), u2)
theorem bX6_number_34_27 {G : Gt} {X : Xt} {v : Int32} {u' : Mem} (hX : CxOk G X cX6_number 4 RX6 (some (.int v), (SHg G), (RHg G), u') 2) (hR : CxRet G X (some .int) (some (.int v), (SHg G), (RHg G), u')) (u : Mem) (h : FX6_number_34_b27 u = some (v, u')) : WM G X 27 [(0, .ref 34)] [] (SHg G) (RHg G) u := by
  unfold FX6_number_34_b27 at h
  refine w_aload_n 0 27 hX rfl rfl dX6_number_27 ?_
  refine w_iconst 1 28 hX ic_1 dX6_number_28 ?_
  obtain ⟨u2, gu2, h⟩ := o_bind h
  refine w_invVv (av := [.int 1]) (st := []) 29 hX CI_6 s_34 rfl mv_yX6_fail mi_yX6_fail ml_X6_194 (CX6_fail_34 1 u gu2) rfl (by decide) (Nat.le_of_ble_eq_true rfl) (Nat.le_refl _) (Nat.le_refl _) dX6_number_29 ?_
  refine w_iconst (-1) 32 hX ic_m1 dX6_number_32 ?_
  exact w_iret 33 hX hR dX6_number_33 (by cases h; rfl)
def FX6_number_34 (p1 p2 : Int32) (u : Mem) : Option (Int32 × Mem) :=
  (if (u 34 10) = 1 then ((if (u 34 9) < 0 then (FX6_number_34_b27 u) else ((if (u 34 9) < 401 then ((rdA u 38 401 (u 34 9)).bind fun x4 => (if p1 < x4 then (FX6_number_34_b54 u) else ((if x4 = p2 then (FX6_number_34_b54 u) else ((FX6_go_34 ((u 34 9) + 1) u).bind fun u8 => some (x4, u8)))))) else (FX6_number_34_b27 u))))) else (FX6_number_34_b27 u))
theorem CX6_number_34 {G : Gt} (p1 p2 : Int32) (u : Mem) {v : Int32} {u' : Mem} (h : FX6_number_34 p1 p2 u = some (v, u')) : CT G yX6_number cX6_number 4 (some .int) 2 [.ref 34, .int p1, .int p2] (SHg G) (RHg G) u (some (.int v), (SHg G), (RHg G), u') :=
  ct_of (by decide) rfl (Nat.le_of_ble_eq_true rfl) (Nat.le_refl _) (Nat.le_refl _) (fun X hX hR => by
  unfold FX6_number_34 at h
  refine w_aload_n 0 0 hX rfl rfl dX6_number_0 ?_
  refine w_getI (j := 10) 1 hX CI_6 s_34 rfl fl_X6_67 rfl dX6_number_1 ?_
  refine w_iconst 1 4 hX ic_1 dX6_number_4 ?_
  refine w_icmp_ne (tgt := 27) 5 hX dX6_number_5 (by decide) (fun c1 => ?_) (fun c1 => ?_)
  · have h := ie h c1
    exact w_sub [0] rfl (bX6_number_34_27 hX hR u h)
  · have h := it h c1
    refine w_aload_n 0 8 hX rfl rfl dX6_number_8 ?_
    refine w_getI (j := 9) 9 hX CI_6 s_34 rfl fl_X6_188 rfl dX6_number_9 ?_
    refine w_if_lt (tgt := 27) 12 hX dX6_number_12 (by decide) (fun c2 => ?_) (fun c2 => ?_)
    · have h := it h c2
      exact w_sub [0] rfl (bX6_number_34_27 hX hR u h)
    · have h := ie h c2
      refine w_aload_n 0 15 hX rfl rfl dX6_number_15 ?_
      refine w_getI (j := 9) 16 hX CI_6 s_34 rfl fl_X6_188 rfl dX6_number_16 ?_
      refine w_aload_n 0 19 hX rfl rfl dX6_number_19 ?_
      refine w_getR 20 hX CI_6 s_34 rfl r_34_3 fl_X6_21 rfl dX6_number_20 ?_
      refine w_alen 401 23 hX s_38 (by decide) dX6_number_23 ?_
      refine w_icmp_lt (tgt := 34) 24 hX dX6_number_24 (by decide) (fun c3 => ?_) (fun c3 => ?_)
      · have h := it h c3
        refine w_aload_n 0 34 hX rfl rfl dX6_number_34 ?_
        refine w_getR 35 hX CI_6 s_34 rfl r_34_3 fl_X6_21 rfl dX6_number_35 ?_
        refine w_aload_n 0 38 hX rfl rfl dX6_number_38 ?_
        refine w_getI (j := 9) 39 hX CI_6 s_34 rfl fl_X6_188 rfl dX6_number_39 ?_
        obtain ⟨x4, gx4, h⟩ := o_bind h
        refine w_iald 42 hX s_38 gx4 dX6_number_42 ?_
        refine w_istore_n (lv' := [(3, .int x4), (0, .ref 34), (1, .int p1), (2, .int p2)]) 43 hX rfl dX6_number_43 (by decide) rfl ?_
        refine w_iload_n 0 44 hX rfl rfl dX6_number_44 ?_
        refine w_iload_n 2 45 hX rfl rfl dX6_number_45 ?_
        refine w_icmp_gt (tgt := 54) 46 hX dX6_number_46 (by decide) (fun c5 => ?_) (fun c5 => ?_)
        · have h := it h c5
          exact w_sub [1] rfl (bX6_number_34_54 hX hR u h)
        · have h := ie h c5
          refine w_iload_n 0 49 hX rfl rfl dX6_number_49 ?_
          refine w_iload_n 3 50 hX rfl rfl dX6_number_50 ?_
          refine w_icmp_ne (tgt := 61) 51 hX dX6_number_51 (by decide) (fun c6 => ?_) (fun c6 => ?_)
          · have h := ie h c6
            refine w_aload_n 1 61 hX rfl rfl dX6_number_61 ?_
            refine w_aload_n 1 62 hX rfl rfl dX6_number_62 ?_
            refine w_getI (j := 9) 63 hX CI_6 s_34 rfl fl_X6_188 rfl dX6_number_63 ?_
            refine w_iconst 1 66 hX ic_1 dX6_number_66 ?_
            refine w_iadd 67 hX dX6_number_67 ?_
            obtain ⟨u8, gu8, h⟩ := o_bind h
            refine w_invVv (av := [.int ((u 34 9) + 1)]) (st := []) 68 hX CI_6 s_34 rfl mv_yX6_go mi_yX6_go ml_X6_95 (CX6_go_34 ((u 34 9) + 1) u gu8) rfl (by decide) (Nat.le_of_ble_eq_true rfl) (Nat.le_refl _) (Nat.le_refl _) dX6_number_68 ?_
            refine w_iload_n 0 71 hX rfl rfl dX6_number_71 ?_
            exact w_iret 72 hX hR dX6_number_72 (by cases h; rfl)
          · have h := it h c6
            exact w_sub [1] rfl (bX6_number_34_54 hX hR u h)
      · have h := ie h c3
        exact w_sub [0] rfl (bX6_number_34_27 hX hR u h))
def FX6_sum_34_b171 (k6 : Int32 → Int32 → Int32 → Mem → Option Mem) (l1 l3 t0 : Int32) (u : Mem) : Option Mem :=
  k6 l1 t0 (l3 + 1) u
theorem bX6_sum_34_171 {G : Gt} {X : Xt} {u' : Mem} (hX : CxOk G X cX6_sum 5 RX6 (none, (SHg G), (RHg G), u') 3) (hR : CxRet G X none (none, (SHg G), (RHg G), u')) {k6 : Int32 → Int32 → Int32 → Mem → Option Mem} (hk6 : ∀ (l1 l2 l3 : Int32) (u : Mem), k6 l1 l2 l3 u = some u' → WM G X 6 [(0, .ref 34), (1, .int l1), (2, .int l2), (3, .int l3)] [] (SHg G) (RHg G) u) (l1 l3 t0 : Int32) (u : Mem) (h : FX6_sum_34_b171 k6 l1 l3 t0 u = some u') : WM G X 171 [(0, .ref 34), (1, .int l1), (3, .int l3)] [.int t0] (SHg G) (RHg G) u := by
  unfold FX6_sum_34_b171 at h
  refine w_istore_n (lv' := [(2, .int t0), (0, .ref 34), (1, .int l1), (3, .int l3)]) 171 hX rfl dX6_sum_171 (by decide) rfl ?_
  refine w_iinc (lv' := [(3, .int (l3 + 1)), (2, .int t0), (0, .ref 34), (1, .int l1)]) 172 3 hX dX6_sum_172 rfl (inc_1 _) (by decide) rfl ?_
  refine w_goto (tgt := 6) 175 hX (by decide) dX6_sum_175 ?_
  exact w_sub [2, 3, 1, 0] rfl (hk6 l1 t0 (l3 + 1) u h)
def FX6_sum_34_b147 (k6 : Int32 → Int32 → Int32 → Mem → Option Mem) (l3 t0 : Int32) (u : Mem) : Option Mem :=
  bnd2 (FX6_take_34 43 u) fun x1 u2 => (if x1 = 0 then (bnd2 (FX6_take_34 45 u2) fun x4 u5 => (if x4 = 0 then (FX6_sum_34_b171 k6 t0 l3 0 u5) else (FX6_sum_34_b171 k6 t0 l3 1 u5))) else (FX6_sum_34_b171 k6 t0 l3 1 u2))
theorem bX6_sum_34_147 {G : Gt} {X : Xt} {u' : Mem} (hX : CxOk G X cX6_sum 5 RX6 (none, (SHg G), (RHg G), u') 3) (hR : CxRet G X none (none, (SHg G), (RHg G), u')) {k6 : Int32 → Int32 → Int32 → Mem → Option Mem} (hk6 : ∀ (l1 l2 l3 : Int32) (u : Mem), k6 l1 l2 l3 u = some u' → WM G X 6 [(0, .ref 34), (1, .int l1), (2, .int l2), (3, .int l3)] [] (SHg G) (RHg G) u) (l3 t0 : Int32) (u : Mem) (h : FX6_sum_34_b147 k6 l3 t0 u = some u') : WM G X 147 [(0, .ref 34), (3, .int l3)] [.int t0] (SHg G) (RHg G) u := by
  unfold FX6_sum_34_b147 at h
  refine w_istore_n (lv' := [(1, .int t0), (0, .ref 34), (3, .int l3)]) 147 hX rfl dX6_sum_147 (by decide) rfl ?_
  refine w_aload_n 1 148 hX rfl rfl dX6_sum_148 ?_
  refine w_bipush 43 149 hX ib_43 dX6_sum_149 ?_
  obtain ⟨x1, u2, gx1, h⟩ := o_bnd2 h
  refine w_invVi (av := [.int 43]) (st := []) 151 hX CI_6 s_34 rfl mv_yX6_take mi_yX6_take ml_X6_191 (CX6_take_34 43 u gx1) rfl (by decide) (Nat.le_of_ble_eq_true rfl) (Nat.le_refl _) (Nat.le_refl _) dX6_sum_151 ?_
  refine w_if_ne (tgt := 166) 154 hX dX6_sum_154 (by decide) (fun c3 => ?_) (fun c3 => ?_)
  · have h := ie h c3
    refine w_iconst 1 166 hX ic_1 dX6_sum_166 ?_
    refine w_goto (tgt := 171) 167 hX (by decide) dX6_sum_167 ?_
    exact w_sub [1, 0, 2] rfl (bX6_sum_34_171 hX hR hk6 t0 l3 1 u2 h)
  · have h := it h c3
    refine w_aload_n 1 157 hX rfl rfl dX6_sum_157 ?_
    refine w_bipush 45 158 hX ib_45 dX6_sum_158 ?_
    obtain ⟨x4, u5, gx4, h⟩ := o_bnd2 h
    refine w_invVi (av := [.int 45]) (st := []) 160 hX CI_6 s_34 rfl mv_yX6_take mi_yX6_take ml_X6_191 (CX6_take_34 45 u2 gx4) rfl (by decide) (Nat.le_of_ble_eq_true rfl) (Nat.le_refl _) (Nat.le_refl _) dX6_sum_160 ?_
    refine w_if_eq (tgt := 170) 163 hX dX6_sum_163 (by decide) (fun c6 => ?_) (fun c6 => ?_)
    · have h := it h c6
      refine w_iconst 0 170 hX ic_0 dX6_sum_170 ?_
      exact w_sub [1, 0, 2] rfl (bX6_sum_34_171 hX hR hk6 t0 l3 0 u5 h)
    · have h := ie h c6
      refine w_iconst 1 166 hX ic_1 dX6_sum_166 ?_
      refine w_goto (tgt := 171) 167 hX (by decide) dX6_sum_167 ?_
      exact w_sub [1, 0, 2] rfl (bX6_sum_34_171 hX hR hk6 t0 l3 1 u5 h)
def FX6_sum_34_b131 (k6 : Int32 → Int32 → Int32 → Mem → Option Mem) (l3 : Int32) (u : Mem) : Option Mem :=
  (if (u 34 10) = 43 then (FX6_sum_34_b147 k6 l3 (-10) u) else (FX6_sum_34_b147 k6 l3 (-11) u))
theorem bX6_sum_34_131 {G : Gt} {X : Xt} {u' : Mem} (hX : CxOk G X cX6_sum 5 RX6 (none, (SHg G), (RHg G), u') 3) (hR : CxRet G X none (none, (SHg G), (RHg G), u')) {k6 : Int32 → Int32 → Int32 → Mem → Option Mem} (hk6 : ∀ (l1 l2 l3 : Int32) (u : Mem), k6 l1 l2 l3 u = some u' → WM G X 6 [(0, .ref 34), (1, .int l1), (2, .int l2), (3, .int l3)] [] (SHg G) (RHg G) u) (l3 : Int32) (u : Mem) (h : FX6_sum_34_b131 k6 l3 u = some u') : WM G X 131 [(0, .ref 34), (3, .int l3)] [] (SHg G) (RHg G) u := by
  unfold FX6_sum_34_b131 at h
  refine w_aload_n 0 131 hX rfl rfl dX6_sum_131 ?_
  refine w_getI (j := 10) 132 hX CI_6 s_34 rfl fl_X6_67 rfl dX6_sum_132 ?_
  refine w_bipush 43 135 hX ib_43 dX6_sum_135 ?_
  refine w_icmp_ne (tgt := 145) 137 hX dX6_sum_137 (by decide) (fun c1 => ?_) (fun c1 => ?_)
  · have h := ie h c1
    refine w_bipush (-11) 145 hX ib_m11 dX6_sum_145 ?_
    exact bX6_sum_34_147 hX hR hk6 l3 (-11) u h
  · have h := it h c1
    refine w_bipush (-10) 140 hX ib_m10 dX6_sum_140 ?_
    refine w_goto (tgt := 147) 142 hX (by decide) dX6_sum_142 ?_
    exact bX6_sum_34_147 hX hR hk6 l3 (-10) u h
def FX6_sum_34_b119 (k6 : Int32 → Int32 → Int32 → Mem → Option Mem) (l1 l3 : Int32) (u : Mem) : Option Mem :=
  (if l1 = 0 then (FX6_sum_34_b131 k6 l3 u) else ((FX4_put_39 l1 u).bind fun u3 => FX6_sum_34_b131 k6 l3 u3))
theorem bX6_sum_34_119 {G : Gt} {X : Xt} {u' : Mem} (hX : CxOk G X cX6_sum 5 RX6 (none, (SHg G), (RHg G), u') 3) (hR : CxRet G X none (none, (SHg G), (RHg G), u')) {k6 : Int32 → Int32 → Int32 → Mem → Option Mem} (hk6 : ∀ (l1 l2 l3 : Int32) (u : Mem), k6 l1 l2 l3 u = some u' → WM G X 6 [(0, .ref 34), (1, .int l1), (2, .int l2), (3, .int l3)] [] (SHg G) (RHg G) u) (l1 l3 : Int32) (u : Mem) (h : FX6_sum_34_b119 k6 l1 l3 u = some u') : WM G X 119 [(0, .ref 34), (1, .int l1), (3, .int l3)] [] (SHg G) (RHg G) u := by
  unfold FX6_sum_34_b119 at h
  refine w_iload_n 1 119 hX rfl rfl dX6_sum_119 ?_
  refine w_if_eq (tgt := 131) 120 hX dX6_sum_120 (by decide) (fun c1 => ?_) (fun c1 => ?_)
  · have h := it h c1
    exact w_sub [0, 2] rfl (bX6_sum_34_131 hX hR hk6 l3 u h)
  · have h := ie h c1
    refine w_aload_n 0 123 hX rfl rfl dX6_sum_123 ?_
    refine w_getR 124 hX CI_6 s_34 rfl r_34_4 fl_X6_27 rfl dX6_sum_124 ?_
    refine w_iload_n 1 127 hX rfl rfl dX6_sum_127 ?_
    obtain ⟨u3, gu3, h⟩ := o_bind h
    refine w_invVv (av := [.int l1]) (st := []) 128 hX CI_4 s_39 rfl mv_yX4_put mi_yX4_put ml_X6_219 (CX4_put_39 l1 u gu3) rfl (by decide) (Nat.le_of_ble_eq_true rfl) (Nat.le_refl _) (Nat.le_refl _) dX6_sum_128 ?_
    exact w_sub [0, 2] rfl (bX6_sum_34_131 hX hR hk6 l3 u3 h)
def FX6_sum_34_b113 (k24 : Int32 → Int32 → Int32 → Mem → Option Mem) (l1 l3 l4 : Int32) (u : Mem) : Option Mem :=
  k24 l1 l3 (l4 + 1) u
theorem bX6_sum_34_113 {G : Gt} {X : Xt} {u' : Mem} (hX : CxOk G X cX6_sum 5 RX6 (none, (SHg G), (RHg G), u') 3) (hR : CxRet G X none (none, (SHg G), (RHg G), u')) {k24 : Int32 → Int32 → Int32 → Mem → Option Mem} (hk24 : ∀ (l1 l3 l4 : Int32) (u : Mem), k24 l1 l3 l4 u = some u' → WM G X 24 [(0, .ref 34), (1, .int l1), (3, .int l3), (4, .int l4)] [] (SHg G) (RHg G) u) (l1 l3 l4 : Int32) (u : Mem) (h : FX6_sum_34_b113 k24 l1 l3 l4 u = some u') : WM G X 113 [(0, .ref 34), (1, .int l1), (3, .int l3), (4, .int l4)] [] (SHg G) (RHg G) u := by
  unfold FX6_sum_34_b113 at h
  refine w_iinc (lv' := [(4, .int (l4 + 1)), (0, .ref 34), (1, .int l1), (3, .int l3)]) 113 3 hX dX6_sum_113 rfl (inc_1 _) (by decide) rfl ?_
  refine w_goto (tgt := 24) 116 hX (by decide) dX6_sum_116 ?_
  exact w_sub [1, 2, 3, 0] rfl (hk24 l1 l3 (l4 + 1) u h)
def FX6_sum_34_b50 (k24 : Int32 → Int32 → Int32 → Mem → Option Mem) (l1 l3 l4 : Int32) (u : Mem) : Option Mem :=
  bnd2 (FX6_take_34 42 u) fun x1 u2 => (if x1 = 0 then ((FX6_go_34 ((u2 34 9) + 1) u2).bind fun u5 => bnd2 (FX6_number_34 9999 0 u5) fun x6 u7 => (FX4_put_39 (if 0 < x6 then x6 else 0) u7).bind fun u9 => (FX4_put_39 (-13) u9).bind fun u11 => FX6_sum_34_b113 k24 l1 l3 l4 u11) else ((FX6_unit_34 u2).bind fun u13 => (FX4_put_39 (-12) u13).bind fun u15 => FX6_sum_34_b113 k24 l1 l3 l4 u15))
theorem bX6_sum_34_50 {G : Gt} {X : Xt} {u' : Mem} (hX : CxOk G X cX6_sum 5 RX6 (none, (SHg G), (RHg G), u') 3) (hR : CxRet G X none (none, (SHg G), (RHg G), u')) {k24 : Int32 → Int32 → Int32 → Mem → Option Mem} (hk24 : ∀ (l1 l3 l4 : Int32) (u : Mem), k24 l1 l3 l4 u = some u' → WM G X 24 [(0, .ref 34), (1, .int l1), (3, .int l3), (4, .int l4)] [] (SHg G) (RHg G) u) (l1 l3 l4 : Int32) (u : Mem) (h : FX6_sum_34_b50 k24 l1 l3 l4 u = some u') : WM G X 50 [(0, .ref 34), (1, .int l1), (3, .int l3), (4, .int l4)] [] (SHg G) (RHg G) u := by
  unfold FX6_sum_34_b50 at h
  refine w_aload_n 0 50 hX rfl rfl dX6_sum_50 ?_
  refine w_bipush 42 51 hX ib_42 dX6_sum_51 ?_
  obtain ⟨x1, u2, gx1, h⟩ := o_bnd2 h
  refine w_invVi (av := [.int 42]) (st := []) 53 hX CI_6 s_34 rfl mv_yX6_take mi_yX6_take ml_X6_191 (CX6_take_34 42 u gx1) rfl (by decide) (Nat.le_of_ble_eq_true rfl) (Nat.le_refl _) (Nat.le_refl _) dX6_sum_53 ?_
  refine w_if_eq (tgt := 75) 56 hX dX6_sum_56 (by decide) (fun c3 => ?_) (fun c3 => ?_)
  · have h := it h c3
    refine w_aload_n 0 75 hX rfl rfl dX6_sum_75 ?_
    refine w_aload_n 0 76 hX rfl rfl dX6_sum_76 ?_
    refine w_getI (j := 9) 77 hX CI_6 s_34 rfl fl_X6_188 rfl dX6_sum_77 ?_
    refine w_iconst 1 80 hX ic_1 dX6_sum_80 ?_
    refine w_iadd 81 hX dX6_sum_81 ?_
    obtain ⟨u5, gu5, h⟩ := o_bind h
    refine w_invVv (av := [.int ((u2 34 9) + 1)]) (st := []) 82 hX CI_6 s_34 rfl mv_yX6_go mi_yX6_go ml_X6_95 (CX6_go_34 ((u2 34 9) + 1) u2 gu5) rfl (by decide) (Nat.le_of_ble_eq_true rfl) (Nat.le_refl _) (Nat.le_refl _) dX6_sum_82 ?_
    refine w_aload_n 0 85 hX rfl rfl dX6_sum_85 ?_
    refine w_getR 86 hX CI_6 s_34 rfl r_34_4 fl_X6_27 rfl dX6_sum_86 ?_
    refine w_iconst 0 89 hX ic_0 dX6_sum_89 ?_
    refine w_aload_n 0 90 hX rfl rfl dX6_sum_90 ?_
    refine w_sipush 9999 91 hX isp_9999 dX6_sum_91 ?_
    refine w_iconst 0 94 hX ic_0 dX6_sum_94 ?_
    obtain ⟨x6, u7, gx6, h⟩ := o_bnd2 h
    refine w_invVi (av := [.int 9999, .int 0]) (st := [.int 0, .ref 39]) 95 hX CI_6 s_34 rfl mv_yX6_number mi_yX6_number ml_X6_225 (CX6_number_34 9999 0 u5 gx6) rfl (by decide) (Nat.le_of_ble_eq_true rfl) (Nat.le_refl _) (Nat.le_refl _) dX6_sum_95 ?_
    refine w_max 98 hX ml_X6_174 jm_max_s jm_i jm_max_c (by decide) (Nat.le_of_ble_eq_true rfl) (Nat.le_refl _) (Nat.le_refl _) dX6_sum_98 ?_
    obtain ⟨u9, gu9, h⟩ := o_bind h
    refine w_invVv (av := [.int (if 0 < x6 then x6 else 0)]) (st := []) 101 hX CI_4 s_39 rfl mv_yX4_put mi_yX4_put ml_X6_219 (CX4_put_39 (if 0 < x6 then x6 else 0) u7 gu9) rfl (by decide) (Nat.le_of_ble_eq_true rfl) (Nat.le_refl _) (Nat.le_refl _) dX6_sum_101 ?_
    refine w_aload_n 0 104 hX rfl rfl dX6_sum_104 ?_
    refine w_getR 105 hX CI_6 s_34 rfl r_34_4 fl_X6_27 rfl dX6_sum_105 ?_
    refine w_bipush (-13) 108 hX ib_m13 dX6_sum_108 ?_
    obtain ⟨u11, gu11, h⟩ := o_bind h
    refine w_invVv (av := [.int (-13)]) (st := []) 110 hX CI_4 s_39 rfl mv_yX4_put mi_yX4_put ml_X6_219 (CX4_put_39 (-13) u9 gu11) rfl (by decide) (Nat.le_of_ble_eq_true rfl) (Nat.le_refl _) (Nat.le_refl _) dX6_sum_110 ?_
    exact bX6_sum_34_113 hX hR hk24 l1 l3 l4 u11 h
  · have h := ie h c3
    refine w_aload_n 0 59 hX rfl rfl dX6_sum_59 ?_
    obtain ⟨u13, gu13, h⟩ := o_bind h
    refine w_invVv (av := []) (st := []) 60 hX CI_6 s_34 rfl mv_yX6_unit mi_yX6_unit ml_X6_222 (CX6_unit_34 u2 gu13) rfl (by decide) (Nat.le_of_ble_eq_true rfl) (Nat.le_refl _) (Nat.le_refl _) dX6_sum_60 ?_
    refine w_aload_n 0 63 hX rfl rfl dX6_sum_63 ?_
    refine w_getR 64 hX CI_6 s_34 rfl r_34_4 fl_X6_27 rfl dX6_sum_64 ?_
    refine w_bipush (-12) 67 hX ib_m12 dX6_sum_67 ?_
    obtain ⟨u15, gu15, h⟩ := o_bind h
    refine w_invVv (av := [.int (-12)]) (st := []) 69 hX CI_4 s_39 rfl mv_yX4_put mi_yX4_put ml_X6_219 (CX4_put_39 (-12) u13 gu15) rfl (by decide) (Nat.le_of_ble_eq_true rfl) (Nat.le_refl _) (Nat.le_refl _) dX6_sum_69 ?_
    refine w_goto (tgt := 113) 72 hX (by decide) dX6_sum_72 ?_
    exact bX6_sum_34_113 hX hR hk24 l1 l3 l4 u15 h
def FX6_sum_34_b24 (k6 : Int32 → Int32 → Int32 → Mem → Option Mem) (k24 : Int32 → Int32 → Int32 → Mem → Option Mem) (l1 l3 l4 : Int32) (u : Mem) : Option Mem :=
  (if 400 < l4 then (FX6_sum_34_b119 k6 l1 l3 u) else ((if (u 34 10) = 42 then (FX6_sum_34_b50 k24 l1 l3 l4 u) else ((if (u 34 10) = 47 then (FX6_sum_34_b50 k24 l1 l3 l4 u) else (FX6_sum_34_b119 k6 l1 l3 u))))))
theorem bX6_sum_34_24 {G : Gt} {X : Xt} {u' : Mem} (hX : CxOk G X cX6_sum 5 RX6 (none, (SHg G), (RHg G), u') 3) (hR : CxRet G X none (none, (SHg G), (RHg G), u')) {k6 : Int32 → Int32 → Int32 → Mem → Option Mem} (hk6 : ∀ (l1 l2 l3 : Int32) (u : Mem), k6 l1 l2 l3 u = some u' → WM G X 6 [(0, .ref 34), (1, .int l1), (2, .int l2), (3, .int l3)] [] (SHg G) (RHg G) u) {k24 : Int32 → Int32 → Int32 → Mem → Option Mem} (hk24 : ∀ (l1 l3 l4 : Int32) (u : Mem), k24 l1 l3 l4 u = some u' → WM G X 24 [(0, .ref 34), (1, .int l1), (3, .int l3), (4, .int l4)] [] (SHg G) (RHg G) u) (l1 l3 l4 : Int32) (u : Mem) (h : FX6_sum_34_b24 k6 k24 l1 l3 l4 u = some u') : WM G X 24 [(0, .ref 34), (1, .int l1), (3, .int l3), (4, .int l4)] [] (SHg G) (RHg G) u := by
  unfold FX6_sum_34_b24 at h
  refine w_iload 3 24 hX rfl dX6_sum_24 ?_
  refine w_sipush 400 26 hX isp_400 dX6_sum_26 ?_
  refine w_icmp_gt (tgt := 119) 29 hX dX6_sum_29 (by decide) (fun c1 => ?_) (fun c1 => ?_)
  · have h := it h c1
    exact w_sub [0, 1, 2] rfl (bX6_sum_34_119 hX hR hk6 l1 l3 u h)
  · have h := ie h c1
    refine w_aload_n 0 32 hX rfl rfl dX6_sum_32 ?_
    refine w_getI (j := 10) 33 hX CI_6 s_34 rfl fl_X6_67 rfl dX6_sum_33 ?_
    refine w_bipush 42 36 hX ib_42 dX6_sum_36 ?_
    refine w_icmp_eq (tgt := 50) 38 hX dX6_sum_38 (by decide) (fun c2 => ?_) (fun c2 => ?_)
    · have h := it h c2
      exact bX6_sum_34_50 hX hR hk24 l1 l3 l4 u h
    · have h := ie h c2
      refine w_aload_n 0 41 hX rfl rfl dX6_sum_41 ?_
      refine w_getI (j := 10) 42 hX CI_6 s_34 rfl fl_X6_67 rfl dX6_sum_42 ?_
      refine w_bipush 47 45 hX ib_47 dX6_sum_45 ?_
      refine w_icmp_ne (tgt := 119) 47 hX dX6_sum_47 (by decide) (fun c3 => ?_) (fun c3 => ?_)
      · have h := ie h c3
        exact w_sub [0, 1, 2] rfl (bX6_sum_34_119 hX hR hk6 l1 l3 u h)
      · have h := it h c3
        exact bX6_sum_34_50 hX hR hk24 l1 l3 l4 u h
def FX6_sum_34_L24 (k6 : Int32 → Int32 → Int32 → Mem → Option Mem) : Nat → Int32 → Int32 → Int32 → Mem → Option Mem
  | 0, _, _, _, _ => none
  | n + 1, l1, l3, l4, u => FX6_sum_34_b24 k6 (FX6_sum_34_L24 k6 n) l1 l3 l4 u
theorem lX6_sum_34_24 {G : Gt} {X : Xt} {u' : Mem} (hX : CxOk G X cX6_sum 5 RX6 (none, (SHg G), (RHg G), u') 3) (hR : CxRet G X none (none, (SHg G), (RHg G), u')) {k6 : Int32 → Int32 → Int32 → Mem → Option Mem} (hk6 : ∀ (l1 l2 l3 : Int32) (u : Mem), k6 l1 l2 l3 u = some u' → WM G X 6 [(0, .ref 34), (1, .int l1), (2, .int l2), (3, .int l3)] [] (SHg G) (RHg G) u) : ∀ (n : Nat) (l1 l3 l4 : Int32) (u : Mem), FX6_sum_34_L24 k6 n l1 l3 l4 u = some u' → WM G X 24 [(0, .ref 34), (1, .int l1), (3, .int l3), (4, .int l4)] [] (SHg G) (RHg G) u := by
  intro n
  induction n with
  | zero =>
    intro l1 l3 l4 u h
    exact nn_ h
  | succ n ih =>
    intro l1 l3 l4 u h
    exact bX6_sum_34_24 hX hR hk6 ih l1 l3 l4 u h
def FX6_sum_34_b6 (k6 : Int32 → Int32 → Int32 → Mem → Option Mem) (l1 l2 l3 : Int32) (u : Mem) : Option Mem :=
  (if 400 < l3 then (some u) else ((if l2 = 0 then (some u) else ((FX6_unit_34 u).bind fun u4 => FX6_sum_34_L24 k6 FU l1 l3 0 u4))))
theorem bX6_sum_34_6 {G : Gt} {X : Xt} {u' : Mem} (hX : CxOk G X cX6_sum 5 RX6 (none, (SHg G), (RHg G), u') 3) (hR : CxRet G X none (none, (SHg G), (RHg G), u')) {k6 : Int32 → Int32 → Int32 → Mem → Option Mem} (hk6 : ∀ (l1 l2 l3 : Int32) (u : Mem), k6 l1 l2 l3 u = some u' → WM G X 6 [(0, .ref 34), (1, .int l1), (2, .int l2), (3, .int l3)] [] (SHg G) (RHg G) u) (l1 l2 l3 : Int32) (u : Mem) (h : FX6_sum_34_b6 k6 l1 l2 l3 u = some u') : WM G X 6 [(0, .ref 34), (1, .int l1), (2, .int l2), (3, .int l3)] [] (SHg G) (RHg G) u := by
  unfold FX6_sum_34_b6 at h
  refine w_iload_n 3 6 hX rfl rfl dX6_sum_6 ?_
  refine w_sipush 400 7 hX isp_400 dX6_sum_7 ?_
  refine w_icmp_gt (tgt := 178) 10 hX dX6_sum_10 (by decide) (fun c1 => ?_) (fun c1 => ?_)
  · have h := it h c1
    exact w_vret 178 hX hR dX6_sum_178 (by cases h; rfl)
  · have h := ie h c1
    refine w_iload_n 2 13 hX rfl rfl dX6_sum_13 ?_
    refine w_if_eq (tgt := 178) 14 hX dX6_sum_14 (by decide) (fun c2 => ?_) (fun c2 => ?_)
    · have h := it h c2
      exact w_vret 178 hX hR dX6_sum_178 (by cases h; rfl)
    · have h := ie h c2
      refine w_aload_n 0 17 hX rfl rfl dX6_sum_17 ?_
      obtain ⟨u4, gu4, h⟩ := o_bind h
      refine w_invVv (av := []) (st := []) 18 hX CI_6 s_34 rfl mv_yX6_unit mi_yX6_unit ml_X6_222 (CX6_unit_34 u gu4) rfl (by decide) (Nat.le_of_ble_eq_true rfl) (Nat.le_refl _) (Nat.le_refl _) dX6_sum_18 ?_
      refine w_iconst 0 21 hX ic_0 dX6_sum_21 ?_
      refine w_istore (lv' := [(4, .int 0), (0, .ref 34), (1, .int l1), (2, .int l2), (3, .int l3)]) 22 hX dX6_sum_22 (by decide) rfl ?_
      exact w_sub [1, 2, 4, 0] rfl (lX6_sum_34_24 hX hR hk6 FU l1 l3 0 u4 h)
def FX6_sum_34_L6 : Nat → Int32 → Int32 → Int32 → Mem → Option Mem
  | 0, _, _, _, _ => none
  | n + 1, l1, l2, l3, u => FX6_sum_34_b6 (FX6_sum_34_L6 n) l1 l2 l3 u
theorem lX6_sum_34_6 {G : Gt} {X : Xt} {u' : Mem} (hX : CxOk G X cX6_sum 5 RX6 (none, (SHg G), (RHg G), u') 3) (hR : CxRet G X none (none, (SHg G), (RHg G), u')) : ∀ (n : Nat) (l1 l2 l3 : Int32) (u : Mem), FX6_sum_34_L6 n l1 l2 l3 u = some u' → WM G X 6 [(0, .ref 34), (1, .int l1), (2, .int l2), (3, .int l3)] [] (SHg G) (RHg G) u := by
  intro n
  induction n with
  | zero =>
    intro l1 l2 l3 u h
    exact nn_ h
  | succ n ih =>
    intro l1 l2 l3 u h
    exact bX6_sum_34_6 hX hR ih l1 l2 l3 u h
def FX6_sum_34 (u : Mem) : Option Mem :=
  FX6_sum_34_L6 FU 0 1 0 u
theorem CX6_sum_34 {G : Gt} (u : Mem) {u' : Mem} (h : FX6_sum_34 u = some u') : CT G yX6_sum cX6_sum 5 none 3 [.ref 34] (SHg G) (RHg G) u (none, (SHg G), (RHg G), u') :=
  ct_of (by decide) rfl (Nat.le_of_ble_eq_true rfl) (Nat.le_refl _) (Nat.le_refl _) (fun X hX hR => by
  unfold FX6_sum_34 at h
  refine w_iconst 0 0 hX ic_0 dX6_sum_0 ?_
  refine w_istore_n (lv' := [(1, .int 0), (0, .ref 34)]) 1 hX rfl dX6_sum_1 (by decide) rfl ?_
  refine w_iconst 1 2 hX ic_1 dX6_sum_2 ?_
  refine w_istore_n (lv' := [(2, .int 1), (1, .int 0), (0, .ref 34)]) 3 hX rfl dX6_sum_3 (by decide) rfl ?_
  refine w_iconst 0 4 hX ic_0 dX6_sum_4 ?_
  refine w_istore_n (lv' := [(3, .int 0), (2, .int 1), (1, .int 0), (0, .ref 34)]) 5 hX rfl dX6_sum_5 (by decide) rfl ?_
  exact w_sub [3, 2, 1, 0] rfl (lX6_sum_34_6 hX hR FU 0 1 0 u h))
def FX4_beginWhen_39 (u : Mem) : Option Mem :=
  (if (u 39 7) < 0 then (some u) else ((if 16 ≤ (u 39 7) then (some u) else ((wrA u 43 16 (u 39 7) (u 39 6)).bind fun u3 => some u3))))
theorem CX4_beginWhen_39 {G : Gt} (u : Mem) {u' : Mem} (h : FX4_beginWhen_39 u = some u') : CT G yX4_beginWhen cX4_beginWhen 1 none 1 [.ref 39] (SHg G) (RHg G) u (none, (SHg G), (RHg G), u') :=
  ct_of (by decide) rfl (Nat.le_of_ble_eq_true rfl) (Nat.le_refl _) (Nat.le_refl _) (fun X hX hR => by
  unfold FX4_beginWhen_39 at h
  refine w_aload_n 0 0 hX rfl rfl dX4_beginWhen_0 ?_
  refine w_getI (j := 7) 1 hX CI_4 s_39 rfl fl_X4_38 rfl dX4_beginWhen_1 ?_
  refine w_if_lt (tgt := 29) 4 hX dX4_beginWhen_4 (by decide) (fun c1 => ?_) (fun c1 => ?_)
  · have h := it h c1
    exact w_vret 29 hX hR dX4_beginWhen_29 (by cases h; rfl)
  · have h := ie h c1
    refine w_aload_n 0 7 hX rfl rfl dX4_beginWhen_7 ?_
    refine w_getI (j := 7) 8 hX CI_4 s_39 rfl fl_X4_38 rfl dX4_beginWhen_8 ?_
    refine w_bipush 16 11 hX ib_16 dX4_beginWhen_11 ?_
    refine w_icmp_ge (tgt := 29) 13 hX dX4_beginWhen_13 (by decide) (fun c2 => ?_) (fun c2 => ?_)
    · have h := it h c2
      exact w_vret 29 hX hR dX4_beginWhen_29 (by cases h; rfl)
    · have h := ie h c2
      refine w_aload_n 0 16 hX rfl rfl dX4_beginWhen_16 ?_
      refine w_getR 17 hX CI_4 s_39 rfl r_39_3 fl_X4_21 rfl dX4_beginWhen_17 ?_
      refine w_aload_n 0 20 hX rfl rfl dX4_beginWhen_20 ?_
      refine w_getI (j := 7) 21 hX CI_4 s_39 rfl fl_X4_38 rfl dX4_beginWhen_21 ?_
      refine w_aload_n 0 24 hX rfl rfl dX4_beginWhen_24 ?_
      refine w_getI (j := 6) 25 hX CI_4 s_39 rfl fl_X4_34 rfl dX4_beginWhen_25 ?_
      obtain ⟨u3, gu3, h⟩ := o_bind h
      refine w_iast 28 hX s_43 gu3 dX4_beginWhen_28 ?_
      exact w_vret 29 hX hR dX4_beginWhen_29 (by cases h; rfl))
def FX6_single_34_b168 (kc : Int32 → Mem → Option Mem) (k168 : Int32 → Int32 → Mem → Option Mem) (l2 l3 : Int32) (u : Mem) : Option Mem :=
  (if l2 ≤ l3 then (some u) else ((if 8 ≤ l3 then (some u) else ((FX4_put_39 (-19) u).bind fun u4 => k168 l2 (l3 + 1) u4))))
theorem bX6_single_34_168 {G : Gt} {X : Xt} {u' : Mem} {d : Nat} (hX : CxOk G X cX6_single 4 RX6 (none, (SHg G), (RHg G), u') d) (hR : CxRet G X none (none, (SHg G), (RHg G), u')) {kc : Int32 → Mem → Option Mem} {d0 : Nat} (hkc : (40 ≤ d0 ∧ d0 + 1 ≤ d) ∧ (∀ (a0 : Int32) (w w' : Mem), kc a0 w = some w' → CT G yX6_condition cX6_condition 5 none d0 [.ref 34, .int a0] (SHg G) (RHg G) w (none, (SHg G), (RHg G), w'))) {k168 : Int32 → Int32 → Mem → Option Mem} (hk168 : ∀ (l2 l3 : Int32) (u : Mem), k168 l2 l3 u = some u' → WM G X 168 [(0, .ref 34), (2, .int l2), (3, .int l3)] [] (SHg G) (RHg G) u) (l2 l3 : Int32) (u : Mem) (h : FX6_single_34_b168 kc k168 l2 l3 u = some u') : WM G X 168 [(0, .ref 34), (2, .int l2), (3, .int l3)] [] (SHg G) (RHg G) u := by
  obtain ⟨⟨hd0, hdd⟩, hkc2⟩ := id hkc
  unfold FX6_single_34_b168 at h
  refine w_iload_n 2 168 hX rfl rfl dX6_single_168 ?_
  refine w_iload_n 1 169 hX rfl rfl dX6_single_169 ?_
  refine w_icmp_ge (tgt := 194) 170 hX dX6_single_170 (by decide) (fun c1 => ?_) (fun c1 => ?_)
  · have h := it h c1
    exact w_vret 194 hX hR dX6_single_194 (by cases h; rfl)
  · have h := ie h c1
    refine w_iload_n 2 173 hX rfl rfl dX6_single_173 ?_
    refine w_bipush 8 174 hX ib_8 dX6_single_174 ?_
    refine w_icmp_ge (tgt := 194) 176 hX dX6_single_176 (by decide) (fun c2 => ?_) (fun c2 => ?_)
    · have h := it h c2
      exact w_vret 194 hX hR dX6_single_194 (by cases h; rfl)
    · have h := ie h c2
      refine w_aload_n 0 179 hX rfl rfl dX6_single_179 ?_
      refine w_getR 180 hX CI_6 s_34 rfl r_34_4 fl_X6_27 rfl dX6_single_180 ?_
      refine w_bipush (-19) 183 hX ib_m19 dX6_single_183 ?_
      obtain ⟨u4, gu4, h⟩ := o_bind h
      refine w_invVv (av := [.int (-19)]) (st := []) 185 hX CI_4 s_39 rfl mv_yX4_put mi_yX4_put ml_X6_219 (CX4_put_39 (-19) u gu4) rfl (by omega) (Nat.le_of_ble_eq_true rfl) (Nat.le_refl _) (Nat.le_refl _) dX6_single_185 ?_
      refine w_iinc (lv' := [(3, .int (l3 + 1)), (0, .ref 34), (2, .int l2)]) 188 2 hX dX6_single_188 rfl (inc_1 _) (by decide) rfl ?_
      refine w_goto (tgt := 168) 191 hX (by decide) dX6_single_191 ?_
      exact w_sub [1, 2, 0] rfl (hk168 l2 (l3 + 1) u4 h)
def FX6_single_34_L168 (kc : Int32 → Mem → Option Mem) : Nat → Int32 → Int32 → Mem → Option Mem
  | 0, _, _, _ => none
  | n + 1, l2, l3, u => FX6_single_34_b168 kc (FX6_single_34_L168 kc n) l2 l3 u
theorem lX6_single_34_168 {G : Gt} {X : Xt} {u' : Mem} {d : Nat} (hX : CxOk G X cX6_single 4 RX6 (none, (SHg G), (RHg G), u') d) (hR : CxRet G X none (none, (SHg G), (RHg G), u')) {kc : Int32 → Mem → Option Mem} {d0 : Nat} (hkc : (40 ≤ d0 ∧ d0 + 1 ≤ d) ∧ (∀ (a0 : Int32) (w w' : Mem), kc a0 w = some w' → CT G yX6_condition cX6_condition 5 none d0 [.ref 34, .int a0] (SHg G) (RHg G) w (none, (SHg G), (RHg G), w'))) : ∀ (n : Nat) (l2 l3 : Int32) (u : Mem), FX6_single_34_L168 kc n l2 l3 u = some u' → WM G X 168 [(0, .ref 34), (2, .int l2), (3, .int l3)] [] (SHg G) (RHg G) u := by
  intro n
  induction n with
  | zero =>
    intro l2 l3 u h
    exact nn_ h
  | succ n ih =>
    intro l2 l3 u h
    exact bX6_single_34_168 hX hR hkc ih l2 l3 u h
def FX6_single_34_b166 (kc : Int32 → Mem → Option Mem) (l2 : Int32) (u : Mem) : Option Mem :=
  FX6_single_34_L168 kc FU l2 0 u
theorem bX6_single_34_166 {G : Gt} {X : Xt} {u' : Mem} {d : Nat} (hX : CxOk G X cX6_single 4 RX6 (none, (SHg G), (RHg G), u') d) (hR : CxRet G X none (none, (SHg G), (RHg G), u')) {kc : Int32 → Mem → Option Mem} {d0 : Nat} (hkc : (40 ≤ d0 ∧ d0 + 1 ≤ d) ∧ (∀ (a0 : Int32) (w w' : Mem), kc a0 w = some w' → CT G yX6_condition cX6_condition 5 none d0 [.ref 34, .int a0] (SHg G) (RHg G) w (none, (SHg G), (RHg G), w'))) (l2 : Int32) (u : Mem) (h : FX6_single_34_b166 kc l2 u = some u') : WM G X 166 [(0, .ref 34), (2, .int l2)] [] (SHg G) (RHg G) u := by
  obtain ⟨⟨hd0, hdd⟩, hkc2⟩ := id hkc
  unfold FX6_single_34_b166 at h
  refine w_iconst 0 166 hX ic_0 dX6_single_166 ?_
  refine w_istore_n (lv' := [(3, .int 0), (0, .ref 34), (2, .int l2)]) 167 hX rfl dX6_single_167 (by decide) rfl ?_
  exact w_sub [1, 2, 0] rfl (lX6_single_34_168 hX hR hkc FU l2 0 u h)
def FX6_single_34_b151 (kc : Int32 → Mem → Option Mem) (l2 l3 t1 : Int32) (u : Mem) : Option Mem :=
  (FX6_need_34 t1 u).bind fun u2 => (FX6_sum_34 u2).bind fun u4 => (FX4_put_39 l3 u4).bind fun u6 => FX6_single_34_b166 kc l2 u6
theorem bX6_single_34_151 {G : Gt} {X : Xt} {u' : Mem} {d : Nat} (hX : CxOk G X cX6_single 4 RX6 (none, (SHg G), (RHg G), u') d) (hR : CxRet G X none (none, (SHg G), (RHg G), u')) {kc : Int32 → Mem → Option Mem} {d0 : Nat} (hkc : (40 ≤ d0 ∧ d0 + 1 ≤ d) ∧ (∀ (a0 : Int32) (w w' : Mem), kc a0 w = some w' → CT G yX6_condition cX6_condition 5 none d0 [.ref 34, .int a0] (SHg G) (RHg G) w (none, (SHg G), (RHg G), w'))) (l2 l3 t1 : Int32) (u : Mem) (h : FX6_single_34_b151 kc l2 l3 t1 u = some u') : WM G X 151 [(0, .ref 34), (2, .int l2), (3, .int l3)] [.int t1, .ref 34] (SHg G) (RHg G) u := by
  obtain ⟨⟨hd0, hdd⟩, hkc2⟩ := id hkc
  unfold FX6_single_34_b151 at h
  obtain ⟨u2, gu2, h⟩ := o_bind h
  refine w_invVv (av := [.int t1]) (st := []) 151 hX CI_6 s_34 rfl mv_yX6_need mi_yX6_need ml_X6_197 (CX6_need_34 t1 u gu2) rfl (by omega) (Nat.le_of_ble_eq_true rfl) (Nat.le_refl _) (Nat.le_refl _) dX6_single_151 ?_
  refine w_aload_n 0 154 hX rfl rfl dX6_single_154 ?_
  obtain ⟨u4, gu4, h⟩ := o_bind h
  refine w_invVv (av := []) (st := []) 155 hX CI_6 s_34 rfl mv_yX6_sum mi_yX6_sum ml_X6_204 (CX6_sum_34 u2 gu4) rfl (by omega) (Nat.le_of_ble_eq_true rfl) (Nat.le_refl _) (Nat.le_refl _) dX6_single_155 ?_
  refine w_aload_n 0 158 hX rfl rfl dX6_single_158 ?_
  refine w_getR 159 hX CI_6 s_34 rfl r_34_4 fl_X6_27 rfl dX6_single_159 ?_
  refine w_iload_n 2 162 hX rfl rfl dX6_single_162 ?_
  obtain ⟨u6, gu6, h⟩ := o_bind h
  refine w_invVv (av := [.int l3]) (st := []) 163 hX CI_4 s_39 rfl mv_yX4_put mi_yX4_put ml_X6_219 (CX4_put_39 l3 u4 gu6) rfl (by omega) (Nat.le_of_ble_eq_true rfl) (Nat.le_refl _) (Nat.le_refl _) dX6_single_163 ?_
  exact w_sub [0, 1] rfl (bX6_single_34_166 hX hR hkc l2 u6 h)
def FX6_single_34_b142 (kc : Int32 → Mem → Option Mem) (l2 l3 : Int32) (u : Mem) : Option Mem :=
  FX6_single_34_b151 kc l2 l3 (u 34 10) u
theorem bX6_single_34_142 {G : Gt} {X : Xt} {u' : Mem} {d : Nat} (hX : CxOk G X cX6_single 4 RX6 (none, (SHg G), (RHg G), u') d) (hR : CxRet G X none (none, (SHg G), (RHg G), u')) {kc : Int32 → Mem → Option Mem} {d0 : Nat} (hkc : (40 ≤ d0 ∧ d0 + 1 ≤ d) ∧ (∀ (a0 : Int32) (w w' : Mem), kc a0 w = some w' → CT G yX6_condition cX6_condition 5 none d0 [.ref 34, .int a0] (SHg G) (RHg G) w (none, (SHg G), (RHg G), w'))) (l2 l3 : Int32) (u : Mem) (h : FX6_single_34_b142 kc l2 l3 u = some u') : WM G X 142 [(0, .ref 34), (2, .int l2), (3, .int l3)] [.ref 34] (SHg G) (RHg G) u := by
  obtain ⟨⟨hd0, hdd⟩, hkc2⟩ := id hkc
  unfold FX6_single_34_b142 at h
  refine w_aload_n 0 142 hX rfl rfl dX6_single_142 ?_
  refine w_getI (j := 10) 143 hX CI_6 s_34 rfl fl_X6_67 rfl dX6_single_143 ?_
  refine w_goto (tgt := 151) 146 hX (by decide) dX6_single_146 ?_
  exact bX6_single_34_151 hX hR hkc l2 l3 (u 34 10) u h
def FX6_single_34_b122 (kc : Int32 → Mem → Option Mem) (l2 t0 : Int32) (u : Mem) : Option Mem :=
  (if (u 34 10) = 60 then (FX6_single_34_b142 kc l2 t0 u) else ((if (u 34 10) = 61 then (FX6_single_34_b142 kc l2 t0 u) else (FX6_single_34_b151 kc l2 t0 62 u))))
theorem bX6_single_34_122 {G : Gt} {X : Xt} {u' : Mem} {d : Nat} (hX : CxOk G X cX6_single 4 RX6 (none, (SHg G), (RHg G), u') d) (hR : CxRet G X none (none, (SHg G), (RHg G), u')) {kc : Int32 → Mem → Option Mem} {d0 : Nat} (hkc : (40 ≤ d0 ∧ d0 + 1 ≤ d) ∧ (∀ (a0 : Int32) (w w' : Mem), kc a0 w = some w' → CT G yX6_condition cX6_condition 5 none d0 [.ref 34, .int a0] (SHg G) (RHg G) w (none, (SHg G), (RHg G), w'))) (l2 t0 : Int32) (u : Mem) (h : FX6_single_34_b122 kc l2 t0 u = some u') : WM G X 122 [(0, .ref 34), (2, .int l2)] [.int t0] (SHg G) (RHg G) u := by
  obtain ⟨⟨hd0, hdd⟩, hkc2⟩ := id hkc
  unfold FX6_single_34_b122 at h
  refine w_istore_n (lv' := [(3, .int t0), (0, .ref 34), (2, .int l2)]) 122 hX rfl dX6_single_122 (by decide) rfl ?_
  refine w_aload_n 1 123 hX rfl rfl dX6_single_123 ?_
  refine w_aload_n 1 124 hX rfl rfl dX6_single_124 ?_
  refine w_getI (j := 10) 125 hX CI_6 s_34 rfl fl_X6_67 rfl dX6_single_125 ?_
  refine w_bipush 60 128 hX ib_60 dX6_single_128 ?_
  refine w_icmp_eq (tgt := 142) 130 hX dX6_single_130 (by decide) (fun c1 => ?_) (fun c1 => ?_)
  · have h := it h c1
    exact w_sub [1, 2, 0] rfl (bX6_single_34_142 hX hR hkc l2 t0 u h)
  · have h := ie h c1
    refine w_aload_n 1 133 hX rfl rfl dX6_single_133 ?_
    refine w_getI (j := 10) 134 hX CI_6 s_34 rfl fl_X6_67 rfl dX6_single_134 ?_
    refine w_bipush 61 137 hX ib_61 dX6_single_137 ?_
    refine w_icmp_ne (tgt := 149) 139 hX dX6_single_139 (by decide) (fun c2 => ?_) (fun c2 => ?_)
    · have h := ie h c2
      refine w_bipush 62 149 hX ib_62 dX6_single_149 ?_
      exact w_sub [1, 2, 0] rfl (bX6_single_34_151 hX hR hkc l2 t0 62 u h)
    · have h := it h c2
      exact w_sub [1, 2, 0] rfl (bX6_single_34_142 hX hR hkc l2 t0 u h)
def FX6_single_34_b61 (kc : Int32 → Mem → Option Mem) (l1 l2 : Int32) (u : Mem) : Option Mem :=
  bnd2 (FX6_take_34 40 u) fun x1 u2 => (if x1 = 0 then ((FX6_sum_34 u2).bind fun u5 => (if (u5 34 10) = 60 then (FX6_single_34_b122 kc l2 (-14) u5) else ((if (u5 34 10) = 61 then (FX6_single_34_b122 kc l2 (-15) u5) else (FX6_single_34_b122 kc l2 (-16) u5))))) else ((kc ((l1 + l2) + 1) u2).bind fun u9 => (FX6_need_34 41 u9).bind fun u11 => FX6_single_34_b166 kc l2 u11))
theorem bX6_single_34_61 {G : Gt} {X : Xt} {u' : Mem} {d : Nat} (hX : CxOk G X cX6_single 4 RX6 (none, (SHg G), (RHg G), u') d) (hR : CxRet G X none (none, (SHg G), (RHg G), u')) {kc : Int32 → Mem → Option Mem} {d0 : Nat} (hkc : (40 ≤ d0 ∧ d0 + 1 ≤ d) ∧ (∀ (a0 : Int32) (w w' : Mem), kc a0 w = some w' → CT G yX6_condition cX6_condition 5 none d0 [.ref 34, .int a0] (SHg G) (RHg G) w (none, (SHg G), (RHg G), w'))) (l1 l2 : Int32) (u : Mem) (h : FX6_single_34_b61 kc l1 l2 u = some u') : WM G X 61 [(0, .ref 34), (1, .int l1), (2, .int l2)] [] (SHg G) (RHg G) u := by
  obtain ⟨⟨hd0, hdd⟩, hkc2⟩ := id hkc
  unfold FX6_single_34_b61 at h
  refine w_aload_n 0 61 hX rfl rfl dX6_single_61 ?_
  refine w_bipush 40 62 hX ib_40 dX6_single_62 ?_
  obtain ⟨x1, u2, gx1, h⟩ := o_bnd2 h
  refine w_invVi (av := [.int 40]) (st := []) 64 hX CI_6 s_34 rfl mv_yX6_take mi_yX6_take ml_X6_191 (CX6_take_34 40 u gx1) rfl (by omega) (Nat.le_of_ble_eq_true rfl) (Nat.le_refl _) (Nat.le_refl _) dX6_single_64 ?_
  refine w_if_eq (tgt := 88) 67 hX dX6_single_67 (by decide) (fun c3 => ?_) (fun c3 => ?_)
  · have h := it h c3
    refine w_aload_n 0 88 hX rfl rfl dX6_single_88 ?_
    obtain ⟨u5, gu5, h⟩ := o_bind h
    refine w_invVv (av := []) (st := []) 89 hX CI_6 s_34 rfl mv_yX6_sum mi_yX6_sum ml_X6_204 (CX6_sum_34 u2 gu5) rfl (by omega) (Nat.le_of_ble_eq_true rfl) (Nat.le_refl _) (Nat.le_refl _) dX6_single_89 ?_
    refine w_aload_n 0 92 hX rfl rfl dX6_single_92 ?_
    refine w_getI (j := 10) 93 hX CI_6 s_34 rfl fl_X6_67 rfl dX6_single_93 ?_
    refine w_bipush 60 96 hX ib_60 dX6_single_96 ?_
    refine w_icmp_ne (tgt := 106) 98 hX dX6_single_98 (by decide) (fun c6 => ?_) (fun c6 => ?_)
    · have h := ie h c6
      refine w_aload_n 0 106 hX rfl rfl dX6_single_106 ?_
      refine w_getI (j := 10) 107 hX CI_6 s_34 rfl fl_X6_67 rfl dX6_single_107 ?_
      refine w_bipush 61 110 hX ib_61 dX6_single_110 ?_
      refine w_icmp_ne (tgt := 120) 112 hX dX6_single_112 (by decide) (fun c7 => ?_) (fun c7 => ?_)
      · have h := ie h c7
        refine w_bipush (-16) 120 hX ib_m16 dX6_single_120 ?_
        exact w_sub [0, 2] rfl (bX6_single_34_122 hX hR hkc l2 (-16) u5 h)
      · have h := it h c7
        refine w_bipush (-15) 115 hX ib_m15 dX6_single_115 ?_
        refine w_goto (tgt := 122) 117 hX (by decide) dX6_single_117 ?_
        exact w_sub [0, 2] rfl (bX6_single_34_122 hX hR hkc l2 (-15) u5 h)
    · have h := it h c6
      refine w_bipush (-14) 101 hX ib_m14 dX6_single_101 ?_
      refine w_goto (tgt := 122) 103 hX (by decide) dX6_single_103 ?_
      exact w_sub [0, 2] rfl (bX6_single_34_122 hX hR hkc l2 (-14) u5 h)
  · have h := ie h c3
    refine w_aload_n 0 70 hX rfl rfl dX6_single_70 ?_
    refine w_iload_n 1 71 hX rfl rfl dX6_single_71 ?_
    refine w_iload_n 2 72 hX rfl rfl dX6_single_72 ?_
    refine w_iadd 73 hX dX6_single_73 ?_
    refine w_iconst 1 74 hX ic_1 dX6_single_74 ?_
    refine w_iadd 75 hX dX6_single_75 ?_
    obtain ⟨u9, gu9, h⟩ := o_bind h
    refine w_invVv (av := [.int ((l1 + l2) + 1)]) (st := []) 76 hX CI_6 s_34 rfl mv_yX6_condition mi_yX6_condition ml_X6_210 (hkc2 ((l1 + l2) + 1) u2 _ gu9) rfl (by omega) (Nat.le_of_ble_eq_true rfl) (Nat.le_refl _) (Nat.le_refl _) dX6_single_76 ?_
    refine w_aload_n 0 79 hX rfl rfl dX6_single_79 ?_
    refine w_bipush 41 80 hX ib_41 dX6_single_80 ?_
    obtain ⟨u11, gu11, h⟩ := o_bind h
    refine w_invVv (av := [.int 41]) (st := []) 82 hX CI_6 s_34 rfl mv_yX6_need mi_yX6_need ml_X6_197 (CX6_need_34 41 u9 gu11) rfl (by omega) (Nat.le_of_ble_eq_true rfl) (Nat.le_refl _) (Nat.le_refl _) dX6_single_82 ?_
    refine w_goto (tgt := 166) 85 hX (by decide) dX6_single_85 ?_
    exact w_sub [0, 2] rfl (bX6_single_34_166 hX hR hkc l2 u11 h)
def FX6_single_34_b45 (kc : Int32 → Mem → Option Mem) (l1 l2 : Int32) (u : Mem) : Option Mem :=
  (if (l1 + l2) < 8 then (FX6_single_34_b61 kc l1 l2 u) else ((FX6_fail_34 3 u).bind fun u3 => FX6_single_34_b166 kc l2 u3))
theorem bX6_single_34_45 {G : Gt} {X : Xt} {u' : Mem} {d : Nat} (hX : CxOk G X cX6_single 4 RX6 (none, (SHg G), (RHg G), u') d) (hR : CxRet G X none (none, (SHg G), (RHg G), u')) {kc : Int32 → Mem → Option Mem} {d0 : Nat} (hkc : (40 ≤ d0 ∧ d0 + 1 ≤ d) ∧ (∀ (a0 : Int32) (w w' : Mem), kc a0 w = some w' → CT G yX6_condition cX6_condition 5 none d0 [.ref 34, .int a0] (SHg G) (RHg G) w (none, (SHg G), (RHg G), w'))) (l1 l2 : Int32) (u : Mem) (h : FX6_single_34_b45 kc l1 l2 u = some u') : WM G X 45 [(0, .ref 34), (1, .int l1), (2, .int l2)] [] (SHg G) (RHg G) u := by
  obtain ⟨⟨hd0, hdd⟩, hkc2⟩ := id hkc
  unfold FX6_single_34_b45 at h
  refine w_iload_n 1 45 hX rfl rfl dX6_single_45 ?_
  refine w_iload_n 2 46 hX rfl rfl dX6_single_46 ?_
  refine w_iadd 47 hX dX6_single_47 ?_
  refine w_bipush 8 48 hX ib_8 dX6_single_48 ?_
  refine w_icmp_lt (tgt := 61) 50 hX dX6_single_50 (by decide) (fun c1 => ?_) (fun c1 => ?_)
  · have h := it h c1
    exact bX6_single_34_61 hX hR hkc l1 l2 u h
  · have h := ie h c1
    refine w_aload_n 0 53 hX rfl rfl dX6_single_53 ?_
    refine w_iconst 3 54 hX ic_3 dX6_single_54 ?_
    obtain ⟨u3, gu3, h⟩ := o_bind h
    refine w_invVv (av := [.int 3]) (st := []) 55 hX CI_6 s_34 rfl mv_yX6_fail mi_yX6_fail ml_X6_194 (CX6_fail_34 3 u gu3) rfl (by omega) (Nat.le_of_ble_eq_true rfl) (Nat.le_refl _) (Nat.le_refl _) dX6_single_55 ?_
    refine w_goto (tgt := 166) 58 hX (by decide) dX6_single_58 ?_
    exact w_sub [0, 2] rfl (bX6_single_34_166 hX hR hkc l2 u3 h)
def FX6_single_34_b26 (kc : Int32 → Mem → Option Mem) (l1 l2 : Int32) (u : Mem) : Option Mem :=
  (if (u 34 10) = 263 then (FX6_single_34_b45 kc l1 l2 u) else ((if (u 34 10) = 40 then (FX6_single_34_b45 kc l1 l2 u) else (FX6_single_34_b61 kc l1 l2 u))))
theorem bX6_single_34_26 {G : Gt} {X : Xt} {u' : Mem} {d : Nat} (hX : CxOk G X cX6_single 4 RX6 (none, (SHg G), (RHg G), u') d) (hR : CxRet G X none (none, (SHg G), (RHg G), u')) {kc : Int32 → Mem → Option Mem} {d0 : Nat} (hkc : (40 ≤ d0 ∧ d0 + 1 ≤ d) ∧ (∀ (a0 : Int32) (w w' : Mem), kc a0 w = some w' → CT G yX6_condition cX6_condition 5 none d0 [.ref 34, .int a0] (SHg G) (RHg G) w (none, (SHg G), (RHg G), w'))) (l1 l2 : Int32) (u : Mem) (h : FX6_single_34_b26 kc l1 l2 u = some u') : WM G X 26 [(0, .ref 34), (1, .int l1), (2, .int l2)] [] (SHg G) (RHg G) u := by
  obtain ⟨⟨hd0, hdd⟩, hkc2⟩ := id hkc
  unfold FX6_single_34_b26 at h
  refine w_aload_n 0 26 hX rfl rfl dX6_single_26 ?_
  refine w_getI (j := 10) 27 hX CI_6 s_34 rfl fl_X6_67 rfl dX6_single_27 ?_
  refine w_sipush 263 30 hX isp_263 dX6_single_30 ?_
  refine w_icmp_eq (tgt := 45) 33 hX dX6_single_33 (by decide) (fun c1 => ?_) (fun c1 => ?_)
  · have h := it h c1
    exact bX6_single_34_45 hX hR hkc l1 l2 u h
  · have h := ie h c1
    refine w_aload_n 0 36 hX rfl rfl dX6_single_36 ?_
    refine w_getI (j := 10) 37 hX CI_6 s_34 rfl fl_X6_67 rfl dX6_single_37 ?_
    refine w_bipush 40 40 hX ib_40 dX6_single_40 ?_
    refine w_icmp_ne (tgt := 61) 42 hX dX6_single_42 (by decide) (fun c2 => ?_) (fun c2 => ?_)
    · have h := ie h c2
      exact bX6_single_34_61 hX hR hkc l1 l2 u h
    · have h := it h c2
      exact bX6_single_34_45 hX hR hkc l1 l2 u h
def FX6_single_34_b2 (kc : Int32 → Mem → Option Mem) (k2 : Int32 → Int32 → Mem → Option Mem) (l1 l2 : Int32) (u : Mem) : Option Mem :=
  (if 8 ≤ (l1 + l2) then (FX6_single_34_b26 kc l1 l2 u) else (bnd2 (FX6_take_34 263 u) fun x2 u3 => (if x2 = 0 then (FX6_single_34_b26 kc l1 l2 u3) else (k2 l1 (l2 + 1) u3))))
theorem bX6_single_34_2 {G : Gt} {X : Xt} {u' : Mem} {d : Nat} (hX : CxOk G X cX6_single 4 RX6 (none, (SHg G), (RHg G), u') d) (hR : CxRet G X none (none, (SHg G), (RHg G), u')) {kc : Int32 → Mem → Option Mem} {d0 : Nat} (hkc : (40 ≤ d0 ∧ d0 + 1 ≤ d) ∧ (∀ (a0 : Int32) (w w' : Mem), kc a0 w = some w' → CT G yX6_condition cX6_condition 5 none d0 [.ref 34, .int a0] (SHg G) (RHg G) w (none, (SHg G), (RHg G), w'))) {k2 : Int32 → Int32 → Mem → Option Mem} (hk2 : ∀ (l1 l2 : Int32) (u : Mem), k2 l1 l2 u = some u' → WM G X 2 [(0, .ref 34), (1, .int l1), (2, .int l2)] [] (SHg G) (RHg G) u) (l1 l2 : Int32) (u : Mem) (h : FX6_single_34_b2 kc k2 l1 l2 u = some u') : WM G X 2 [(0, .ref 34), (1, .int l1), (2, .int l2)] [] (SHg G) (RHg G) u := by
  obtain ⟨⟨hd0, hdd⟩, hkc2⟩ := id hkc
  unfold FX6_single_34_b2 at h
  refine w_iload_n 1 2 hX rfl rfl dX6_single_2 ?_
  refine w_iload_n 2 3 hX rfl rfl dX6_single_3 ?_
  refine w_iadd 4 hX dX6_single_4 ?_
  refine w_bipush 8 5 hX ib_8 dX6_single_5 ?_
  refine w_icmp_ge (tgt := 26) 7 hX dX6_single_7 (by decide) (fun c1 => ?_) (fun c1 => ?_)
  · have h := it h c1
    exact bX6_single_34_26 hX hR hkc l1 l2 u h
  · have h := ie h c1
    refine w_aload_n 0 10 hX rfl rfl dX6_single_10 ?_
    refine w_sipush 263 11 hX isp_263 dX6_single_11 ?_
    obtain ⟨x2, u3, gx2, h⟩ := o_bnd2 h
    refine w_invVi (av := [.int 263]) (st := []) 14 hX CI_6 s_34 rfl mv_yX6_take mi_yX6_take ml_X6_191 (CX6_take_34 263 u gx2) rfl (by omega) (Nat.le_of_ble_eq_true rfl) (Nat.le_refl _) (Nat.le_refl _) dX6_single_14 ?_
    refine w_if_eq (tgt := 26) 17 hX dX6_single_17 (by decide) (fun c4 => ?_) (fun c4 => ?_)
    · have h := it h c4
      exact bX6_single_34_26 hX hR hkc l1 l2 u3 h
    · have h := ie h c4
      refine w_iinc (lv' := [(2, .int (l2 + 1)), (0, .ref 34), (1, .int l1)]) 20 2 hX dX6_single_20 rfl (inc_1 _) (by decide) rfl ?_
      refine w_goto (tgt := 2) 23 hX (by decide) dX6_single_23 ?_
      exact w_sub [1, 2, 0] rfl (hk2 l1 (l2 + 1) u3 h)
def FX6_single_34_L2 (kc : Int32 → Mem → Option Mem) : Nat → Int32 → Int32 → Mem → Option Mem
  | 0, _, _, _ => none
  | n + 1, l1, l2, u => FX6_single_34_b2 kc (FX6_single_34_L2 kc n) l1 l2 u
theorem lX6_single_34_2 {G : Gt} {X : Xt} {u' : Mem} {d : Nat} (hX : CxOk G X cX6_single 4 RX6 (none, (SHg G), (RHg G), u') d) (hR : CxRet G X none (none, (SHg G), (RHg G), u')) {kc : Int32 → Mem → Option Mem} {d0 : Nat} (hkc : (40 ≤ d0 ∧ d0 + 1 ≤ d) ∧ (∀ (a0 : Int32) (w w' : Mem), kc a0 w = some w' → CT G yX6_condition cX6_condition 5 none d0 [.ref 34, .int a0] (SHg G) (RHg G) w (none, (SHg G), (RHg G), w'))) : ∀ (n : Nat) (l1 l2 : Int32) (u : Mem), FX6_single_34_L2 kc n l1 l2 u = some u' → WM G X 2 [(0, .ref 34), (1, .int l1), (2, .int l2)] [] (SHg G) (RHg G) u := by
  intro n
  induction n with
  | zero =>
    intro l1 l2 u h
    exact nn_ h
  | succ n ih =>
    intro l1 l2 u h
    exact bX6_single_34_2 hX hR hkc ih l1 l2 u h
def FX6_single_34 (kc : Int32 → Mem → Option Mem) (p1 : Int32) (u : Mem) : Option Mem :=
  FX6_single_34_L2 kc FU p1 0 u
theorem CX6_single_34 {G : Gt} {kc : Int32 → Mem → Option Mem} {d0 : Nat} (hd0 : 40 ≤ d0) (hkc : ∀ (a0 : Int32) (w w' : Mem), kc a0 w = some w' → CT G yX6_condition cX6_condition 5 none d0 [.ref 34, .int a0] (SHg G) (RHg G) w (none, (SHg G), (RHg G), w')) (p1 : Int32) (u : Mem) {u' : Mem} (h : FX6_single_34 kc p1 u = some u') : CT G yX6_single cX6_single 4 none (d0 + 1) [.ref 34, .int p1] (SHg G) (RHg G) u (none, (SHg G), (RHg G), u') :=
  ct_of (by decide) rfl (Nat.le_of_ble_eq_true rfl) (Nat.le_refl _) (Nat.le_refl _) (fun X hX hR => by
  have hkc := And.intro (And.intro hd0 (Nat.le_refl (d0 + 1))) hkc
  obtain ⟨⟨hd0, hdd⟩, hkc2⟩ := id hkc
  unfold FX6_single_34 at h
  refine w_iconst 0 0 hX ic_0 dX6_single_0 ?_
  refine w_istore_n (lv' := [(2, .int 0), (0, .ref 34), (1, .int p1)]) 1 hX rfl dX6_single_1 (by decide) rfl ?_
  exact w_sub [1, 2, 0] rfl (lX6_single_34_2 hX hR hkc FU p1 0 u h))
def FX6_condition_34_b74 (kc : Int32 → Mem → Option Mem) (k4 : Int32 → Int32 → Int32 → Mem → Option Mem) (l1 l3 : Int32) (u : Mem) : Option Mem :=
  bnd2 (FX6_take_34 261 u) fun x1 u2 => k4 l1 x1 (l3 + 1) u2
theorem bX6_condition_34_74 {G : Gt} {X : Xt} {u' : Mem} {d : Nat} (hX : CxOk G X cX6_condition 5 RX6 (none, (SHg G), (RHg G), u') d) (hR : CxRet G X none (none, (SHg G), (RHg G), u')) {kc : Int32 → Mem → Option Mem} {d0 : Nat} (hkc : (40 ≤ d0 ∧ d0 + 2 ≤ d) ∧ (∀ (a0 : Int32) (w w' : Mem), kc a0 w = some w' → CT G yX6_condition cX6_condition 5 none d0 [.ref 34, .int a0] (SHg G) (RHg G) w (none, (SHg G), (RHg G), w'))) {k4 : Int32 → Int32 → Int32 → Mem → Option Mem} (hk4 : ∀ (l1 l2 l3 : Int32) (u : Mem), k4 l1 l2 l3 u = some u' → WM G X 4 [(0, .ref 34), (1, .int l1), (2, .int l2), (3, .int l3)] [] (SHg G) (RHg G) u) (l1 l3 : Int32) (u : Mem) (h : FX6_condition_34_b74 kc k4 l1 l3 u = some u') : WM G X 74 [(0, .ref 34), (1, .int l1), (3, .int l3)] [] (SHg G) (RHg G) u := by
  obtain ⟨⟨hd0, hdd⟩, hkc2⟩ := id hkc
  unfold FX6_condition_34_b74 at h
  refine w_aload_n 0 74 hX rfl rfl dX6_condition_74 ?_
  refine w_sipush 261 75 hX isp_261 dX6_condition_75 ?_
  obtain ⟨x1, u2, gx1, h⟩ := o_bnd2 h
  refine w_invVi (av := [.int 261]) (st := []) 78 hX CI_6 s_34 rfl mv_yX6_take mi_yX6_take ml_X6_191 (CX6_take_34 261 u gx1) rfl (by omega) (Nat.le_of_ble_eq_true rfl) (Nat.le_refl _) (Nat.le_refl _) dX6_condition_78 ?_
  refine w_istore_n (lv' := [(2, .int x1), (0, .ref 34), (1, .int l1), (3, .int l3)]) 81 hX rfl dX6_condition_81 (by decide) rfl ?_
  refine w_iinc (lv' := [(3, .int (l3 + 1)), (2, .int x1), (0, .ref 34), (1, .int l1)]) 82 3 hX dX6_condition_82 rfl (inc_1 _) (by decide) rfl ?_
  refine w_goto (tgt := 4) 85 hX (by decide) dX6_condition_85 ?_
  exact w_sub [2, 3, 1, 0] rfl (hk4 l1 x1 (l3 + 1) u2 h)
def FX6_condition_34_b61 (kc : Int32 → Mem → Option Mem) (k4 : Int32 → Int32 → Int32 → Mem → Option Mem) (l1 l3 : Int32) (u : Mem) : Option Mem :=
  (if l3 ≤ 0 then (FX6_condition_34_b74 kc k4 l1 l3 u) else ((FX4_put_39 (-18) u).bind fun u3 => FX6_condition_34_b74 kc k4 l1 l3 u3))
theorem bX6_condition_34_61 {G : Gt} {X : Xt} {u' : Mem} {d : Nat} (hX : CxOk G X cX6_condition 5 RX6 (none, (SHg G), (RHg G), u') d) (hR : CxRet G X none (none, (SHg G), (RHg G), u')) {kc : Int32 → Mem → Option Mem} {d0 : Nat} (hkc : (40 ≤ d0 ∧ d0 + 2 ≤ d) ∧ (∀ (a0 : Int32) (w w' : Mem), kc a0 w = some w' → CT G yX6_condition cX6_condition 5 none d0 [.ref 34, .int a0] (SHg G) (RHg G) w (none, (SHg G), (RHg G), w'))) {k4 : Int32 → Int32 → Int32 → Mem → Option Mem} (hk4 : ∀ (l1 l2 l3 : Int32) (u : Mem), k4 l1 l2 l3 u = some u' → WM G X 4 [(0, .ref 34), (1, .int l1), (2, .int l2), (3, .int l3)] [] (SHg G) (RHg G) u) (l1 l3 : Int32) (u : Mem) (h : FX6_condition_34_b61 kc k4 l1 l3 u = some u') : WM G X 61 [(0, .ref 34), (1, .int l1), (3, .int l3)] [] (SHg G) (RHg G) u := by
  obtain ⟨⟨hd0, hdd⟩, hkc2⟩ := id hkc
  unfold FX6_condition_34_b61 at h
  refine w_iload_n 2 61 hX rfl rfl dX6_condition_61 ?_
  refine w_if_le (tgt := 74) 62 hX dX6_condition_62 (by decide) (fun c1 => ?_) (fun c1 => ?_)
  · have h := it h c1
    exact bX6_condition_34_74 hX hR hkc hk4 l1 l3 u h
  · have h := ie h c1
    refine w_aload_n 0 65 hX rfl rfl dX6_condition_65 ?_
    refine w_getR 66 hX CI_6 s_34 rfl r_34_4 fl_X6_27 rfl dX6_condition_66 ?_
    refine w_bipush (-18) 69 hX ib_m18 dX6_condition_69 ?_
    obtain ⟨u3, gu3, h⟩ := o_bind h
    refine w_invVv (av := [.int (-18)]) (st := []) 71 hX CI_4 s_39 rfl mv_yX4_put mi_yX4_put ml_X6_219 (CX4_put_39 (-18) u gu3) rfl (by omega) (Nat.le_of_ble_eq_true rfl) (Nat.le_refl _) (Nat.le_refl _) dX6_condition_71 ?_
    exact bX6_condition_34_74 hX hR hkc hk4 l1 l3 u3 h
def FX6_condition_34_b23 (kc : Int32 → Mem → Option Mem) (k4 : Int32 → Int32 → Int32 → Mem → Option Mem) (k23 : Int32 → Int32 → Int32 → Mem → Option Mem) (l1 l3 l4 : Int32) (u : Mem) : Option Mem :=
  (if 400 < l4 then (FX6_condition_34_b61 kc k4 l1 l3 u) else (bnd2 (FX6_take_34 262 u) fun x2 u3 => (if x2 = 0 then (FX6_condition_34_b61 kc k4 l1 l3 u3) else ((FX6_single_34 kc l1 u3).bind fun u6 => (FX4_put_39 (-17) u6).bind fun u8 => k23 l1 l3 (l4 + 1) u8))))
theorem bX6_condition_34_23 {G : Gt} {X : Xt} {u' : Mem} {d : Nat} (hX : CxOk G X cX6_condition 5 RX6 (none, (SHg G), (RHg G), u') d) (hR : CxRet G X none (none, (SHg G), (RHg G), u')) {kc : Int32 → Mem → Option Mem} {d0 : Nat} (hkc : (40 ≤ d0 ∧ d0 + 2 ≤ d) ∧ (∀ (a0 : Int32) (w w' : Mem), kc a0 w = some w' → CT G yX6_condition cX6_condition 5 none d0 [.ref 34, .int a0] (SHg G) (RHg G) w (none, (SHg G), (RHg G), w'))) {k4 : Int32 → Int32 → Int32 → Mem → Option Mem} (hk4 : ∀ (l1 l2 l3 : Int32) (u : Mem), k4 l1 l2 l3 u = some u' → WM G X 4 [(0, .ref 34), (1, .int l1), (2, .int l2), (3, .int l3)] [] (SHg G) (RHg G) u) {k23 : Int32 → Int32 → Int32 → Mem → Option Mem} (hk23 : ∀ (l1 l3 l4 : Int32) (u : Mem), k23 l1 l3 l4 u = some u' → WM G X 23 [(0, .ref 34), (1, .int l1), (3, .int l3), (4, .int l4)] [] (SHg G) (RHg G) u) (l1 l3 l4 : Int32) (u : Mem) (h : FX6_condition_34_b23 kc k4 k23 l1 l3 l4 u = some u') : WM G X 23 [(0, .ref 34), (1, .int l1), (3, .int l3), (4, .int l4)] [] (SHg G) (RHg G) u := by
  obtain ⟨⟨hd0, hdd⟩, hkc2⟩ := id hkc
  unfold FX6_condition_34_b23 at h
  refine w_iload 3 23 hX rfl dX6_condition_23 ?_
  refine w_sipush 400 25 hX isp_400 dX6_condition_25 ?_
  refine w_icmp_gt (tgt := 61) 28 hX dX6_condition_28 (by decide) (fun c1 => ?_) (fun c1 => ?_)
  · have h := it h c1
    exact w_sub [0, 1, 2] rfl (bX6_condition_34_61 hX hR hkc hk4 l1 l3 u h)
  · have h := ie h c1
    refine w_aload_n 0 31 hX rfl rfl dX6_condition_31 ?_
    refine w_sipush 262 32 hX isp_262 dX6_condition_32 ?_
    obtain ⟨x2, u3, gx2, h⟩ := o_bnd2 h
    refine w_invVi (av := [.int 262]) (st := []) 35 hX CI_6 s_34 rfl mv_yX6_take mi_yX6_take ml_X6_191 (CX6_take_34 262 u gx2) rfl (by omega) (Nat.le_of_ble_eq_true rfl) (Nat.le_refl _) (Nat.le_refl _) dX6_condition_35 ?_
    refine w_if_eq (tgt := 61) 38 hX dX6_condition_38 (by decide) (fun c4 => ?_) (fun c4 => ?_)
    · have h := it h c4
      exact w_sub [0, 1, 2] rfl (bX6_condition_34_61 hX hR hkc hk4 l1 l3 u3 h)
    · have h := ie h c4
      refine w_aload_n 0 41 hX rfl rfl dX6_condition_41 ?_
      refine w_iload_n 1 42 hX rfl rfl dX6_condition_42 ?_
      obtain ⟨u6, gu6, h⟩ := o_bind h
      refine w_invVv (av := [.int l1]) (st := []) 43 hX CI_6 s_34 rfl mv_yX6_single mi_yX6_single ml_X6_216 (CX6_single_34 hd0 hkc2 l1 u3 gu6) rfl (by omega) (Nat.le_of_ble_eq_true rfl) (Nat.le_refl _) (Nat.le_refl _) dX6_condition_43 ?_
      refine w_aload_n 0 46 hX rfl rfl dX6_condition_46 ?_
      refine w_getR 47 hX CI_6 s_34 rfl r_34_4 fl_X6_27 rfl dX6_condition_47 ?_
      refine w_bipush (-17) 50 hX ib_m17 dX6_condition_50 ?_
      obtain ⟨u8, gu8, h⟩ := o_bind h
      refine w_invVv (av := [.int (-17)]) (st := []) 52 hX CI_4 s_39 rfl mv_yX4_put mi_yX4_put ml_X6_219 (CX4_put_39 (-17) u6 gu8) rfl (by omega) (Nat.le_of_ble_eq_true rfl) (Nat.le_refl _) (Nat.le_refl _) dX6_condition_52 ?_
      refine w_iinc (lv' := [(4, .int (l4 + 1)), (0, .ref 34), (1, .int l1), (3, .int l3)]) 55 3 hX dX6_condition_55 rfl (inc_1 _) (by decide) rfl ?_
      refine w_goto (tgt := 23) 58 hX (by decide) dX6_condition_58 ?_
      exact w_sub [1, 2, 3, 0] rfl (hk23 l1 l3 (l4 + 1) u8 h)
def FX6_condition_34_L23 (kc : Int32 → Mem → Option Mem) (k4 : Int32 → Int32 → Int32 → Mem → Option Mem) : Nat → Int32 → Int32 → Int32 → Mem → Option Mem
  | 0, _, _, _, _ => none
  | n + 1, l1, l3, l4, u => FX6_condition_34_b23 kc k4 (FX6_condition_34_L23 kc k4 n) l1 l3 l4 u
theorem lX6_condition_34_23 {G : Gt} {X : Xt} {u' : Mem} {d : Nat} (hX : CxOk G X cX6_condition 5 RX6 (none, (SHg G), (RHg G), u') d) (hR : CxRet G X none (none, (SHg G), (RHg G), u')) {kc : Int32 → Mem → Option Mem} {d0 : Nat} (hkc : (40 ≤ d0 ∧ d0 + 2 ≤ d) ∧ (∀ (a0 : Int32) (w w' : Mem), kc a0 w = some w' → CT G yX6_condition cX6_condition 5 none d0 [.ref 34, .int a0] (SHg G) (RHg G) w (none, (SHg G), (RHg G), w'))) {k4 : Int32 → Int32 → Int32 → Mem → Option Mem} (hk4 : ∀ (l1 l2 l3 : Int32) (u : Mem), k4 l1 l2 l3 u = some u' → WM G X 4 [(0, .ref 34), (1, .int l1), (2, .int l2), (3, .int l3)] [] (SHg G) (RHg G) u) : ∀ (n : Nat) (l1 l3 l4 : Int32) (u : Mem), FX6_condition_34_L23 kc k4 n l1 l3 l4 u = some u' → WM G X 23 [(0, .ref 34), (1, .int l1), (3, .int l3), (4, .int l4)] [] (SHg G) (RHg G) u := by
  intro n
  induction n with
  | zero =>
    intro l1 l3 l4 u h
    exact nn_ h
  | succ n ih =>
    intro l1 l3 l4 u h
    exact bX6_condition_34_23 hX hR hkc hk4 ih l1 l3 l4 u h
def FX6_condition_34_b4 (kc : Int32 → Mem → Option Mem) (k4 : Int32 → Int32 → Int32 → Mem → Option Mem) (l1 l2 l3 : Int32) (u : Mem) : Option Mem :=
  (if 400 < l3 then (some u) else ((if l2 = 0 then (some u) else ((FX6_single_34 kc l1 u).bind fun u4 => FX6_condition_34_L23 kc k4 FU l1 l3 0 u4))))
theorem bX6_condition_34_4 {G : Gt} {X : Xt} {u' : Mem} {d : Nat} (hX : CxOk G X cX6_condition 5 RX6 (none, (SHg G), (RHg G), u') d) (hR : CxRet G X none (none, (SHg G), (RHg G), u')) {kc : Int32 → Mem → Option Mem} {d0 : Nat} (hkc : (40 ≤ d0 ∧ d0 + 2 ≤ d) ∧ (∀ (a0 : Int32) (w w' : Mem), kc a0 w = some w' → CT G yX6_condition cX6_condition 5 none d0 [.ref 34, .int a0] (SHg G) (RHg G) w (none, (SHg G), (RHg G), w'))) {k4 : Int32 → Int32 → Int32 → Mem → Option Mem} (hk4 : ∀ (l1 l2 l3 : Int32) (u : Mem), k4 l1 l2 l3 u = some u' → WM G X 4 [(0, .ref 34), (1, .int l1), (2, .int l2), (3, .int l3)] [] (SHg G) (RHg G) u) (l1 l2 l3 : Int32) (u : Mem) (h : FX6_condition_34_b4 kc k4 l1 l2 l3 u = some u') : WM G X 4 [(0, .ref 34), (1, .int l1), (2, .int l2), (3, .int l3)] [] (SHg G) (RHg G) u := by
  obtain ⟨⟨hd0, hdd⟩, hkc2⟩ := id hkc
  unfold FX6_condition_34_b4 at h
  refine w_iload_n 3 4 hX rfl rfl dX6_condition_4 ?_
  refine w_sipush 400 5 hX isp_400 dX6_condition_5 ?_
  refine w_icmp_gt (tgt := 88) 8 hX dX6_condition_8 (by decide) (fun c1 => ?_) (fun c1 => ?_)
  · have h := it h c1
    exact w_vret 88 hX hR dX6_condition_88 (by cases h; rfl)
  · have h := ie h c1
    refine w_iload_n 2 11 hX rfl rfl dX6_condition_11 ?_
    refine w_if_eq (tgt := 88) 12 hX dX6_condition_12 (by decide) (fun c2 => ?_) (fun c2 => ?_)
    · have h := it h c2
      exact w_vret 88 hX hR dX6_condition_88 (by cases h; rfl)
    · have h := ie h c2
      refine w_aload_n 0 15 hX rfl rfl dX6_condition_15 ?_
      refine w_iload_n 1 16 hX rfl rfl dX6_condition_16 ?_
      obtain ⟨u4, gu4, h⟩ := o_bind h
      refine w_invVv (av := [.int l1]) (st := []) 17 hX CI_6 s_34 rfl mv_yX6_single mi_yX6_single ml_X6_216 (CX6_single_34 hd0 hkc2 l1 u gu4) rfl (by omega) (Nat.le_of_ble_eq_true rfl) (Nat.le_refl _) (Nat.le_refl _) dX6_condition_17 ?_
      refine w_iconst 0 20 hX ic_0 dX6_condition_20 ?_
      refine w_istore (lv' := [(4, .int 0), (0, .ref 34), (1, .int l1), (2, .int l2), (3, .int l3)]) 21 hX dX6_condition_21 (by decide) rfl ?_
      exact w_sub [1, 2, 4, 0] rfl (lX6_condition_34_23 hX hR hkc hk4 FU l1 l3 0 u4 h)
def FX6_condition_34_L4 (kc : Int32 → Mem → Option Mem) : Nat → Int32 → Int32 → Int32 → Mem → Option Mem
  | 0, _, _, _, _ => none
  | n + 1, l1, l2, l3, u => FX6_condition_34_b4 kc (FX6_condition_34_L4 kc n) l1 l2 l3 u
theorem lX6_condition_34_4 {G : Gt} {X : Xt} {u' : Mem} {d : Nat} (hX : CxOk G X cX6_condition 5 RX6 (none, (SHg G), (RHg G), u') d) (hR : CxRet G X none (none, (SHg G), (RHg G), u')) {kc : Int32 → Mem → Option Mem} {d0 : Nat} (hkc : (40 ≤ d0 ∧ d0 + 2 ≤ d) ∧ (∀ (a0 : Int32) (w w' : Mem), kc a0 w = some w' → CT G yX6_condition cX6_condition 5 none d0 [.ref 34, .int a0] (SHg G) (RHg G) w (none, (SHg G), (RHg G), w'))) : ∀ (n : Nat) (l1 l2 l3 : Int32) (u : Mem), FX6_condition_34_L4 kc n l1 l2 l3 u = some u' → WM G X 4 [(0, .ref 34), (1, .int l1), (2, .int l2), (3, .int l3)] [] (SHg G) (RHg G) u := by
  intro n
  induction n with
  | zero =>
    intro l1 l2 l3 u h
    exact nn_ h
  | succ n ih =>
    intro l1 l2 l3 u h
    exact bX6_condition_34_4 hX hR hkc ih l1 l2 l3 u h
def FX6_condition_34_body (kc : Int32 → Mem → Option Mem) (p1 : Int32) (u : Mem) : Option Mem :=
  FX6_condition_34_L4 kc FU p1 1 0 u
def FX6_condition_34 : Nat → Int32 → Mem → Option Mem
  | 0, _, _ => none
  | n + 1, p1, u => FX6_condition_34_body (FX6_condition_34 n) p1 u
theorem CX6_condition_34_body {kc : Int32 → Mem → Option Mem} {d0 : Nat} {G : Gt} (hd0 : 40 ≤ d0) (hkc : ∀ (a0 : Int32) (w w' : Mem), kc a0 w = some w' → CT G yX6_condition cX6_condition 5 none d0 [.ref 34, .int a0] (SHg G) (RHg G) w (none, (SHg G), (RHg G), w')) (p1 : Int32) (u : Mem) {u' : Mem} (h : FX6_condition_34_body kc p1 u = some u') : CT G yX6_condition cX6_condition 5 none (d0 + 2) [.ref 34, .int p1] (SHg G) (RHg G) u (none, (SHg G), (RHg G), u') :=
  ct_of (by decide) rfl (Nat.le_of_ble_eq_true rfl) (Nat.le_refl _) (Nat.le_refl _) (fun X hX hR => by
  have hkc := And.intro (And.intro hd0 (Nat.le_refl (d0 + 2))) hkc
  obtain ⟨⟨hd0, hdd⟩, hkc2⟩ := id hkc
  unfold FX6_condition_34_body at h
  refine w_iconst 1 0 hX ic_1 dX6_condition_0 ?_
  refine w_istore_n (lv' := [(2, .int 1), (0, .ref 34), (1, .int p1)]) 1 hX rfl dX6_condition_1 (by decide) rfl ?_
  refine w_iconst 0 2 hX ic_0 dX6_condition_2 ?_
  refine w_istore_n (lv' := [(3, .int 0), (2, .int 1), (0, .ref 34), (1, .int p1)]) 3 hX rfl dX6_condition_3 (by decide) rfl ?_
  exact w_sub [2, 3, 1, 0] rfl (lX6_condition_34_4 hX hR hkc FU p1 1 0 u h))
theorem CX6_condition_34 {G : Gt} : ∀ (n : Nat) (p1 : Int32) (u : Mem) {u' : Mem}, FX6_condition_34 n p1 u = some u' → CT G yX6_condition cX6_condition 5 none (40 + 2 * n) [.ref 34, .int p1] (SHg G) (RHg G) u (none, (SHg G), (RHg G), u') := by
  intro n
  induction n with
  | zero =>
    intro p1 u u' h
    exact nn_ h
  | succ n ih =>
    intro p1 u u' h
    have q := CX6_condition_34_body (kc := FX6_condition_34 n) (d0 := 40 + 2 * n) (by omega) (fun a0 w w' hh => ih a0 w hh) p1 u h
    rw [show 40 + 2 * (n + 1) = 40 + 2 * n + 2 by omega]
    exact q
