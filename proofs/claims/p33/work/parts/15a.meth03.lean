def FX3_beat_32_b102 (k2 : Int32 → Int32 → Int32 → Mem → Option Mem) (l1 l2 l3 : Int32) (u : Mem) : Option Mem :=
  k2 l1 l2 (l3 + 1) u
theorem bX3_beat_32_102 {G : Gt} {X : Xt} {u' : Mem} (hX : CxOk G X cX3_beat 4 RX3 (none, (SHg G), (RHg G), u') 3) (hR : CxRet G X none (none, (SHg G), (RHg G), u')) {k2 : Int32 → Int32 → Int32 → Mem → Option Mem} (hk2 : ∀ (l1 l2 l3 : Int32) (u : Mem), k2 l1 l2 l3 u = some u' → WM G X 2 [(0, .ref 32), (1, .int l1), (2, .int l2), (3, .int l3)] [] (SHg G) (RHg G) u) (l1 l2 l3 : Int32) (u : Mem) (h : FX3_beat_32_b102 k2 l1 l2 l3 u = some u') : WM G X 102 [(0, .ref 32), (1, .int l1), (2, .int l2), (3, .int l3)] [] (SHg G) (RHg G) u := by
  unfold FX3_beat_32_b102 at h
  refine w_iinc (lv' := [(3, .int (l3 + 1)), (0, .ref 32), (1, .int l1), (2, .int l2)]) 102 3 hX dX3_beat_102 rfl (inc_1 _) (by decide) rfl ?_
  refine w_goto (tgt := 2) 105 hX (by decide) dX3_beat_105 ?_
  exact w_sub [1, 2, 3, 0] rfl (hk2 l1 l2 (l3 + 1) u h)
def FX3_beat_32_b2 (k2 : Int32 → Int32 → Int32 → Mem → Option Mem) (l1 l2 l3 : Int32) (u : Mem) : Option Mem :=
  (if 12 ≤ l3 then (some u) else ((if (u 1 0) ≤ l3 then (some u) else ((FX3_isAt_32 l3 l2 u).bind fun x3 => (if x3 = 0 then (FX3_beat_32_b102 k2 l1 l2 l3 u) else ((rdA u 2 12 l3).bind fun x5 => (if x5 = l1 then ((wrA u 27 12 l3 0).bind fun u7 => (rdA u7 24 12 l3).bind fun x8 => (dvI x8 2).bind fun x9 => (wrA u7 24 12 l3 x9).bind fun u10 => (FX3_note_32 2 l3 l2 u10).bind fun u12 => FX3_beat_32_b102 k2 l1 l2 l3 u12) else ((rdA u 24 12 l3).bind fun x13 => (wrA u 24 12 l3 (if 0 < (x13 - 10) then (x13 - 10) else 0)).bind fun u14 => FX3_beat_32_b102 k2 l1 l2 l3 u14))))))))
theorem bX3_beat_32_2 {G : Gt} {X : Xt} {u' : Mem} (hX : CxOk G X cX3_beat 4 RX3 (none, (SHg G), (RHg G), u') 3) (hR : CxRet G X none (none, (SHg G), (RHg G), u')) {k2 : Int32 → Int32 → Int32 → Mem → Option Mem} (hk2 : ∀ (l1 l2 l3 : Int32) (u : Mem), k2 l1 l2 l3 u = some u' → WM G X 2 [(0, .ref 32), (1, .int l1), (2, .int l2), (3, .int l3)] [] (SHg G) (RHg G) u) (l1 l2 l3 : Int32) (u : Mem) (h : FX3_beat_32_b2 k2 l1 l2 l3 u = some u') : WM G X 2 [(0, .ref 32), (1, .int l1), (2, .int l2), (3, .int l3)] [] (SHg G) (RHg G) u := by
  unfold FX3_beat_32_b2 at h
  refine w_iload_n 3 2 hX rfl rfl dX3_beat_2 ?_
  refine w_bipush 12 3 hX ib_12 dX3_beat_3 ?_
  refine w_icmp_ge (tgt := 108) 5 hX dX3_beat_5 (by decide) (fun c1 => ?_) (fun c1 => ?_)
  · have h := it h c1
    exact w_vret 108 hX hR dX3_beat_108 (by cases h; rfl)
  · have h := ie h c1
    refine w_iload_n 3 8 hX rfl rfl dX3_beat_8 ?_
    refine w_aload_n 0 9 hX rfl rfl dX3_beat_9 ?_
    refine w_getR 10 hX CI_3 s_32 rfl r_32_0 fl_X3_17 rfl dX3_beat_10 ?_
    refine w_getI (j := 0) 13 hX CI_9 s_1 rfl fl_X3_123 rfl dX3_beat_13 ?_
    refine w_icmp_ge (tgt := 108) 16 hX dX3_beat_16 (by decide) (fun c2 => ?_) (fun c2 => ?_)
    · have h := it h c2
      exact w_vret 108 hX hR dX3_beat_108 (by cases h; rfl)
    · have h := ie h c2
      refine w_aload_n 0 19 hX rfl rfl dX3_beat_19 ?_
      refine w_iload_n 3 20 hX rfl rfl dX3_beat_20 ?_
      refine w_iload_n 2 21 hX rfl rfl dX3_beat_21 ?_
      obtain ⟨x3, gx3, h⟩ := o_bind h
      refine w_invVi (av := [.int l3, .int l2]) (st := []) 22 hX CI_3 s_32 rfl mv_yX3_isAt mi_yX3_isAt ml_X3_189 (CX3_isAt_32 l3 l2 u gx3) rfl (by decide) (Nat.le_of_ble_eq_true rfl) (Nat.le_refl _) (Nat.le_refl _) dX3_beat_22 ?_
      refine w_if_ne (tgt := 31) 25 hX dX3_beat_25 (by decide) (fun c4 => ?_) (fun c4 => ?_)
      · have h := ie h c4
        refine w_aload_n 0 31 hX rfl rfl dX3_beat_31 ?_
        refine w_getR 32 hX CI_3 s_32 rfl r_32_0 fl_X3_17 rfl dX3_beat_32 ?_
        refine w_getR 35 hX CI_9 s_1 rfl r_1_1 fl_X3_73 rfl dX3_beat_35 ?_
        refine w_iload_n 3 38 hX rfl rfl dX3_beat_38 ?_
        obtain ⟨x5, gx5, h⟩ := o_bind h
        refine w_iald 39 hX s_2 gx5 dX3_beat_39 ?_
        refine w_iload_n 1 40 hX rfl rfl dX3_beat_40 ?_
        refine w_icmp_eq (tgt := 72) 41 hX dX3_beat_41 (by decide) (fun c6 => ?_) (fun c6 => ?_)
        · have h := it h c6
          refine w_aload_n 0 72 hX rfl rfl dX3_beat_72 ?_
          refine w_getR 73 hX CI_3 s_32 rfl r_32_1 fl_X3_21 rfl dX3_beat_73 ?_
          refine w_getR 76 hX CI_0 s_23 rfl r_23_3 fl_X3_70 rfl dX3_beat_76 ?_
          refine w_iload_n 3 79 hX rfl rfl dX3_beat_79 ?_
          refine w_iconst 0 80 hX ic_0 dX3_beat_80 ?_
          obtain ⟨u7, gu7, h⟩ := o_bind h
          refine w_iast 81 hX s_27 gu7 dX3_beat_81 ?_
          refine w_aload_n 0 82 hX rfl rfl dX3_beat_82 ?_
          refine w_getR 83 hX CI_3 s_32 rfl r_32_1 fl_X3_21 rfl dX3_beat_83 ?_
          refine w_getR 86 hX CI_0 s_23 rfl r_23_0 fl_X3_82 rfl dX3_beat_86 ?_
          refine w_iload_n 3 89 hX rfl rfl dX3_beat_89 ?_
          refine w_dup2 90 hX rfl rfl dX3_beat_90 ?_
          obtain ⟨x8, gx8, h⟩ := o_bind h
          refine w_iald 91 hX s_24 gx8 dX3_beat_91 ?_
          refine w_iconst 2 92 hX ic_2 dX3_beat_92 ?_
          obtain ⟨x9, gx9, h⟩ := o_bind h
          obtain ⟨qx9, jx9⟩ := dvI_ok gx9
          refine w_idiv 93 hX qx9 dX3_beat_93 ?_
          rw [jx9]
          obtain ⟨u10, gu10, h⟩ := o_bind h
          refine w_iast 94 hX s_24 gu10 dX3_beat_94 ?_
          refine w_aload_n 0 95 hX rfl rfl dX3_beat_95 ?_
          refine w_iconst 2 96 hX ic_2 dX3_beat_96 ?_
          refine w_iload_n 3 97 hX rfl rfl dX3_beat_97 ?_
          refine w_iload_n 2 98 hX rfl rfl dX3_beat_98 ?_
          obtain ⟨u12, gu12, h⟩ := o_bind h
          refine w_invVv (av := [.int 2, .int l3, .int l2]) (st := []) 99 hX CI_3 s_32 rfl mv_yX3_note mi_yX3_note ml_X3_153 (CX3_note_32 2 l3 l2 u10 gu12) rfl (by decide) (Nat.le_of_ble_eq_true rfl) (Nat.le_refl _) (Nat.le_refl _) dX3_beat_99 ?_
          exact bX3_beat_32_102 hX hR hk2 l1 l2 l3 u12 h
        · have h := ie h c6
          refine w_aload_n 0 44 hX rfl rfl dX3_beat_44 ?_
          refine w_getR 45 hX CI_3 s_32 rfl r_32_1 fl_X3_21 rfl dX3_beat_45 ?_
          refine w_getR 48 hX CI_0 s_23 rfl r_23_0 fl_X3_82 rfl dX3_beat_48 ?_
          refine w_iload_n 3 51 hX rfl rfl dX3_beat_51 ?_
          refine w_iconst 0 52 hX ic_0 dX3_beat_52 ?_
          refine w_aload_n 0 53 hX rfl rfl dX3_beat_53 ?_
          refine w_getR 54 hX CI_3 s_32 rfl r_32_1 fl_X3_21 rfl dX3_beat_54 ?_
          refine w_getR 57 hX CI_0 s_23 rfl r_23_0 fl_X3_82 rfl dX3_beat_57 ?_
          refine w_iload_n 3 60 hX rfl rfl dX3_beat_60 ?_
          obtain ⟨x13, gx13, h⟩ := o_bind h
          refine w_iald 61 hX s_24 gx13 dX3_beat_61 ?_
          refine w_bipush 10 62 hX ib_10 dX3_beat_62 ?_
          refine w_isub 64 hX dX3_beat_64 ?_
          refine w_max 65 hX ml_X3_120 jm_max_s jm_i jm_max_c (by decide) (Nat.le_of_ble_eq_true rfl) (Nat.le_refl _) (Nat.le_refl _) dX3_beat_65 ?_
          obtain ⟨u14, gu14, h⟩ := o_bind h
          refine w_iast 68 hX s_24 gu14 dX3_beat_68 ?_
          refine w_goto (tgt := 102) 69 hX (by decide) dX3_beat_69 ?_
          exact bX3_beat_32_102 hX hR hk2 l1 l2 l3 u14 h
      · have h := it h c4
        refine w_goto (tgt := 102) 28 hX (by decide) dX3_beat_28 ?_
        exact bX3_beat_32_102 hX hR hk2 l1 l2 l3 u h
def FX3_beat_32_L2 : Nat → Int32 → Int32 → Int32 → Mem → Option Mem
  | 0, _, _, _, _ => none
  | n + 1, l1, l2, l3, u => FX3_beat_32_b2 (FX3_beat_32_L2 n) l1 l2 l3 u
theorem lX3_beat_32_2 {G : Gt} {X : Xt} {u' : Mem} (hX : CxOk G X cX3_beat 4 RX3 (none, (SHg G), (RHg G), u') 3) (hR : CxRet G X none (none, (SHg G), (RHg G), u')) : ∀ (n : Nat) (l1 l2 l3 : Int32) (u : Mem), FX3_beat_32_L2 n l1 l2 l3 u = some u' → WM G X 2 [(0, .ref 32), (1, .int l1), (2, .int l2), (3, .int l3)] [] (SHg G) (RHg G) u := by
  intro n
  induction n with
  | zero =>
    intro l1 l2 l3 u h
    exact nn_ h
  | succ n ih =>
    intro l1 l2 l3 u h
    exact bX3_beat_32_2 hX hR ih l1 l2 l3 u h
def FX3_beat_32 (p1 p2 : Int32) (u : Mem) : Option Mem :=
  FX3_beat_32_L2 FU p1 p2 0 u
theorem CX3_beat_32 {G : Gt} (p1 p2 : Int32) (u : Mem) {u' : Mem} (h : FX3_beat_32 p1 p2 u = some u') : CT G yX3_beat cX3_beat 4 none 3 [.ref 32, .int p1, .int p2] (SHg G) (RHg G) u (none, (SHg G), (RHg G), u') :=
  ct_of (by decide) rfl (Nat.le_of_ble_eq_true rfl) (Nat.le_refl _) (Nat.le_refl _) (fun X hX hR => by
  unfold FX3_beat_32 at h
  refine w_iconst 0 0 hX ic_0 dX3_beat_0 ?_
  refine w_istore_n (lv' := [(3, .int 0), (0, .ref 32), (1, .int p1), (2, .int p2)]) 1 hX rfl dX3_beat_1 (by decide) rfl ?_
  exact w_sub [1, 2, 3, 0] rfl (lX3_beat_32_2 hX hR FU p1 p2 0 u h))
def FX3_fight_32_b85 (k14 : Int32 → Int32 → Mem → Option Mem) (l1 l2 : Int32) (u : Mem) : Option Mem :=
  k14 l1 (l2 + 1) u
theorem bX3_fight_32_85 {G : Gt} {X : Xt} {u' : Mem} (hX : CxOk G X cX3_fight 4 RX3 (none, (SHg G), (RHg G), u') 4) (hR : CxRet G X none (none, (SHg G), (RHg G), u')) {k14 : Int32 → Int32 → Mem → Option Mem} (hk14 : ∀ (l1 l2 : Int32) (u : Mem), k14 l1 l2 u = some u' → WM G X 14 [(0, .ref 32), (1, .int l1), (2, .int l2)] [] (SHg G) (RHg G) u) (l1 l2 : Int32) (u : Mem) (h : FX3_fight_32_b85 k14 l1 l2 u = some u') : WM G X 85 [(0, .ref 32), (1, .int l1), (2, .int l2)] [] (SHg G) (RHg G) u := by
  unfold FX3_fight_32_b85 at h
  refine w_iinc (lv' := [(2, .int (l2 + 1)), (0, .ref 32), (1, .int l1)]) 85 2 hX dX3_fight_85 rfl (inc_1 _) (by decide) rfl ?_
  refine w_goto (tgt := 14) 88 hX (by decide) dX3_fight_88 ?_
  exact w_sub [1, 2, 0] rfl (hk14 l1 (l2 + 1) u h)
def FX3_fight_32_b81 (k14 : Int32 → Int32 → Mem → Option Mem) (l1 l2 t1 : Int32) (u : Mem) : Option Mem :=
  (FX3_beat_32 t1 l2 u).bind fun u2 => FX3_fight_32_b85 k14 l1 l2 u2
theorem bX3_fight_32_81 {G : Gt} {X : Xt} {u' : Mem} (hX : CxOk G X cX3_fight 4 RX3 (none, (SHg G), (RHg G), u') 4) (hR : CxRet G X none (none, (SHg G), (RHg G), u')) {k14 : Int32 → Int32 → Mem → Option Mem} (hk14 : ∀ (l1 l2 : Int32) (u : Mem), k14 l1 l2 u = some u' → WM G X 14 [(0, .ref 32), (1, .int l1), (2, .int l2)] [] (SHg G) (RHg G) u) (l1 l2 t1 : Int32) (u : Mem) (h : FX3_fight_32_b81 k14 l1 l2 t1 u = some u') : WM G X 81 [(0, .ref 32), (1, .int l1), (2, .int l2)] [.int t1, .ref 32] (SHg G) (RHg G) u := by
  unfold FX3_fight_32_b81 at h
  refine w_iload_n 2 81 hX rfl rfl dX3_fight_81 ?_
  obtain ⟨u2, gu2, h⟩ := o_bind h
  refine w_invVv (av := [.int t1, .int l2]) (st := []) 82 hX CI_3 s_32 rfl mv_yX3_beat mi_yX3_beat ml_X3_186 (CX3_beat_32 t1 l2 u gu2) rfl (by decide) (Nat.le_of_ble_eq_true rfl) (Nat.le_refl _) (Nat.le_refl _) dX3_fight_82 ?_
  exact bX3_fight_32_85 hX hR hk14 l1 l2 u2 h
def FX3_fight_32_b67 (k14 : Int32 → Int32 → Mem → Option Mem) (l1 l2 l3 t1 : Int32) (u : Mem) : Option Mem :=
  (FX3_catchYoungest_32 t1 l2 u).bind fun u2 => (if 0 ≤ l3 then (FX3_fight_32_b81 k14 l1 l2 1 u2) else (FX3_fight_32_b81 k14 l1 l2 0 u2))
theorem bX3_fight_32_67 {G : Gt} {X : Xt} {u' : Mem} (hX : CxOk G X cX3_fight 4 RX3 (none, (SHg G), (RHg G), u') 4) (hR : CxRet G X none (none, (SHg G), (RHg G), u')) {k14 : Int32 → Int32 → Mem → Option Mem} (hk14 : ∀ (l1 l2 : Int32) (u : Mem), k14 l1 l2 u = some u' → WM G X 14 [(0, .ref 32), (1, .int l1), (2, .int l2)] [] (SHg G) (RHg G) u) (l1 l2 l3 t1 : Int32) (u : Mem) (h : FX3_fight_32_b67 k14 l1 l2 l3 t1 u = some u') : WM G X 67 [(0, .ref 32), (1, .int l1), (2, .int l2), (3, .int l3)] [.int t1, .ref 32] (SHg G) (RHg G) u := by
  unfold FX3_fight_32_b67 at h
  refine w_iload_n 2 67 hX rfl rfl dX3_fight_67 ?_
  obtain ⟨u2, gu2, h⟩ := o_bind h
  refine w_invVv (av := [.int t1, .int l2]) (st := []) 68 hX CI_3 s_32 rfl mv_yX3_catchYoungest mi_yX3_catchYoungest ml_X3_183 (CX3_catchYoungest_32 t1 l2 u gu2) rfl (by decide) (Nat.le_of_ble_eq_true rfl) (Nat.le_refl _) (Nat.le_refl _) dX3_fight_68 ?_
  refine w_aload_n 0 71 hX rfl rfl dX3_fight_71 ?_
  refine w_iload_n 3 72 hX rfl rfl dX3_fight_72 ?_
  refine w_if_ge (tgt := 80) 73 hX dX3_fight_73 (by decide) (fun c3 => ?_) (fun c3 => ?_)
  · have h := it h c3
    refine w_iconst 1 80 hX ic_1 dX3_fight_80 ?_
    exact w_sub [0, 1, 2] rfl (bX3_fight_32_81 hX hR hk14 l1 l2 1 u2 h)
  · have h := ie h c3
    refine w_iconst 0 76 hX ic_0 dX3_fight_76 ?_
    refine w_goto (tgt := 81) 77 hX (by decide) dX3_fight_77 ?_
    exact w_sub [0, 1, 2] rfl (bX3_fight_32_81 hX hR hk14 l1 l2 0 u2 h)
def FX3_fight_32_b14 (k14 : Int32 → Int32 → Mem → Option Mem) (l1 l2 : Int32) (u : Mem) : Option Mem :=
  (if 16 ≤ l2 then (some u) else ((FX11_holds l1 l2).bind fun x2 => (if x2 = 0 then (FX3_fight_32_b85 k14 l1 l2 u) else ((FX3_breathAt_32 0 l2 u).bind fun x4 => (FX3_breathAt_32 1 l2 u).bind fun x5 => (if (x4 - x5) = 0 then ((FX3_halve_32 l2 u).bind fun u9 => FX3_fight_32_b85 k14 l1 l2 u9) else ((if 0 ≤ (x4 - x5) then (FX3_fight_32_b67 k14 l1 l2 (x4 - x5) 1 u) else (FX3_fight_32_b67 k14 l1 l2 (x4 - x5) 0 u))))))))
theorem bX3_fight_32_14 {G : Gt} {X : Xt} {u' : Mem} (hX : CxOk G X cX3_fight 4 RX3 (none, (SHg G), (RHg G), u') 4) (hR : CxRet G X none (none, (SHg G), (RHg G), u')) {k14 : Int32 → Int32 → Mem → Option Mem} (hk14 : ∀ (l1 l2 : Int32) (u : Mem), k14 l1 l2 u = some u' → WM G X 14 [(0, .ref 32), (1, .int l1), (2, .int l2)] [] (SHg G) (RHg G) u) (l1 l2 : Int32) (u : Mem) (h : FX3_fight_32_b14 k14 l1 l2 u = some u') : WM G X 14 [(0, .ref 32), (1, .int l1), (2, .int l2)] [] (SHg G) (RHg G) u := by
  unfold FX3_fight_32_b14 at h
  refine w_iload_n 2 14 hX rfl rfl dX3_fight_14 ?_
  refine w_bipush 16 15 hX ib_16 dX3_fight_15 ?_
  refine w_icmp_ge (tgt := 91) 17 hX dX3_fight_17 (by decide) (fun c1 => ?_) (fun c1 => ?_)
  · have h := it h c1
    exact w_vret 91 hX hR dX3_fight_91 (by cases h; rfl)
  · have h := ie h c1
    refine w_iload_n 1 20 hX rfl rfl dX3_fight_20 ?_
    refine w_iload_n 2 21 hX rfl rfl dX3_fight_21 ?_
    obtain ⟨x2, gx2, h⟩ := o_bind h
    refine w_invSNi (av := [.int l1, .int l2]) (st := []) 22 hX ms_yX11_holds mi_yX11_holds ml_X3_174 (CX11_holds l1 l2 u gx2) rfl (by decide) (Nat.le_of_ble_eq_true rfl) (Nat.le_refl _) (Nat.le_refl _) dX3_fight_22 ?_
    refine w_if_ne (tgt := 31) 25 hX dX3_fight_25 (by decide) (fun c3 => ?_) (fun c3 => ?_)
    · have h := ie h c3
      refine w_aload_n 0 31 hX rfl rfl dX3_fight_31 ?_
      refine w_iconst 0 32 hX ic_0 dX3_fight_32 ?_
      refine w_iload_n 2 33 hX rfl rfl dX3_fight_33 ?_
      obtain ⟨x4, gx4, h⟩ := o_bind h
      refine w_invVi (av := [.int 0, .int l2]) (st := []) 34 hX CI_3 s_32 rfl mv_yX3_breathAt mi_yX3_breathAt ml_X3_177 (CX3_breathAt_32 0 l2 u gx4) rfl (by decide) (Nat.le_of_ble_eq_true rfl) (Nat.le_refl _) (Nat.le_refl _) dX3_fight_34 ?_
      refine w_aload_n 0 37 hX rfl rfl dX3_fight_37 ?_
      refine w_iconst 1 38 hX ic_1 dX3_fight_38 ?_
      refine w_iload_n 2 39 hX rfl rfl dX3_fight_39 ?_
      obtain ⟨x5, gx5, h⟩ := o_bind h
      refine w_invVi (av := [.int 1, .int l2]) (st := [.int x4]) 40 hX CI_3 s_32 rfl mv_yX3_breathAt mi_yX3_breathAt ml_X3_177 (CX3_breathAt_32 1 l2 u gx5) rfl (by decide) (Nat.le_of_ble_eq_true rfl) (Nat.le_refl _) (Nat.le_refl _) dX3_fight_40 ?_
      refine w_isub 43 hX dX3_fight_43 ?_
      refine w_istore_n (lv' := [(3, .int (x4 - x5)), (0, .ref 32), (1, .int l1), (2, .int l2)]) 44 hX rfl dX3_fight_44 (by decide) rfl ?_
      refine w_iload_n 0 45 hX rfl rfl dX3_fight_45 ?_
      refine w_if_ne (tgt := 57) 46 hX dX3_fight_46 (by decide) (fun c6 => ?_) (fun c6 => ?_)
      · have h := ie h c6
        refine w_aload_n 1 57 hX rfl rfl dX3_fight_57 ?_
        refine w_iload_n 0 58 hX rfl rfl dX3_fight_58 ?_
        refine w_if_ge (tgt := 66) 59 hX dX3_fight_59 (by decide) (fun c7 => ?_) (fun c7 => ?_)
        · have h := it h c7
          refine w_iconst 1 66 hX ic_1 dX3_fight_66 ?_
          exact w_sub [1, 2, 3, 0] rfl (bX3_fight_32_67 hX hR hk14 l1 l2 (x4 - x5) 1 u h)
        · have h := ie h c7
          refine w_iconst 0 62 hX ic_0 dX3_fight_62 ?_
          refine w_goto (tgt := 67) 63 hX (by decide) dX3_fight_63 ?_
          exact w_sub [1, 2, 3, 0] rfl (bX3_fight_32_67 hX hR hk14 l1 l2 (x4 - x5) 0 u h)
      · have h := it h c6
        refine w_aload_n 1 49 hX rfl rfl dX3_fight_49 ?_
        refine w_iload_n 3 50 hX rfl rfl dX3_fight_50 ?_
        obtain ⟨u9, gu9, h⟩ := o_bind h
        refine w_invVv (av := [.int l2]) (st := []) 51 hX CI_3 s_32 rfl mv_yX3_halve mi_yX3_halve ml_X3_180 (CX3_halve_32 l2 u gu9) rfl (by decide) (Nat.le_of_ble_eq_true rfl) (Nat.le_refl _) (Nat.le_refl _) dX3_fight_51 ?_
        refine w_goto (tgt := 85) 54 hX (by decide) dX3_fight_54 ?_
        exact w_sub [1, 2, 3] rfl (bX3_fight_32_85 hX hR hk14 l1 l2 u9 h)
    · have h := it h c3
      refine w_goto (tgt := 85) 28 hX (by decide) dX3_fight_28 ?_
      exact bX3_fight_32_85 hX hR hk14 l1 l2 u h
def FX3_fight_32_L14 : Nat → Int32 → Int32 → Mem → Option Mem
  | 0, _, _, _ => none
  | n + 1, l1, l2, u => FX3_fight_32_b14 (FX3_fight_32_L14 n) l1 l2 u
theorem lX3_fight_32_14 {G : Gt} {X : Xt} {u' : Mem} (hX : CxOk G X cX3_fight 4 RX3 (none, (SHg G), (RHg G), u') 4) (hR : CxRet G X none (none, (SHg G), (RHg G), u')) : ∀ (n : Nat) (l1 l2 : Int32) (u : Mem), FX3_fight_32_L14 n l1 l2 u = some u' → WM G X 14 [(0, .ref 32), (1, .int l1), (2, .int l2)] [] (SHg G) (RHg G) u := by
  intro n
  induction n with
  | zero =>
    intro l1 l2 u h
    exact nn_ h
  | succ n ih =>
    intro l1 l2 u h
    exact bX3_fight_32_14 hX hR ih l1 l2 u h
def FX3_fight_32 (u : Mem) : Option Mem :=
  (FX3_cellsOf_32 0 u).bind fun x1 => (FX3_cellsOf_32 1 u).bind fun x2 => FX3_fight_32_L14 FU (x1 &&& x2) 0 u
theorem CX3_fight_32 {G : Gt} (u : Mem) {u' : Mem} (h : FX3_fight_32 u = some u') : CT G yX3_fight cX3_fight 4 none 4 [.ref 32] (SHg G) (RHg G) u (none, (SHg G), (RHg G), u') :=
  ct_of (by decide) rfl (Nat.le_of_ble_eq_true rfl) (Nat.le_refl _) (Nat.le_refl _) (fun X hX hR => by
  unfold FX3_fight_32 at h
  refine w_aload_n 0 0 hX rfl rfl dX3_fight_0 ?_
  refine w_iconst 0 1 hX ic_0 dX3_fight_1 ?_
  obtain ⟨x1, gx1, h⟩ := o_bind h
  refine w_invVi (av := [.int 0]) (st := []) 2 hX CI_3 s_32 rfl mv_yX3_cellsOf mi_yX3_cellsOf ml_X3_171 (CX3_cellsOf_32 0 u gx1) rfl (by decide) (Nat.le_of_ble_eq_true rfl) (Nat.le_refl _) (Nat.le_refl _) dX3_fight_2 ?_
  refine w_aload_n 0 5 hX rfl rfl dX3_fight_5 ?_
  refine w_iconst 1 6 hX ic_1 dX3_fight_6 ?_
  obtain ⟨x2, gx2, h⟩ := o_bind h
  refine w_invVi (av := [.int 1]) (st := [.int x1]) 7 hX CI_3 s_32 rfl mv_yX3_cellsOf mi_yX3_cellsOf ml_X3_171 (CX3_cellsOf_32 1 u gx2) rfl (by decide) (Nat.le_of_ble_eq_true rfl) (Nat.le_refl _) (Nat.le_refl _) dX3_fight_7 ?_
  refine w_iand 10 hX dX3_fight_10 ?_
  refine w_istore_n (lv' := [(1, .int (x1 &&& x2)), (0, .ref 32)]) 11 hX rfl dX3_fight_11 (by decide) rfl ?_
  refine w_iconst 0 12 hX ic_0 dX3_fight_12 ?_
  refine w_istore_n (lv' := [(2, .int 0), (1, .int (x1 &&& x2)), (0, .ref 32)]) 13 hX rfl dX3_fight_13 (by decide) rfl ?_
  exact w_sub [2, 1, 0] rfl (lX3_fight_32_14 hX hR FU (x1 &&& x2) 0 u h))
def FX3_arrive_32_b66 (u : Mem) : Option Mem :=
  (some (mupd u 23 6 0)).bind fun u1 => some u1
theorem bX3_arrive_32_66 {G : Gt} {X : Xt} {u' : Mem} (hX : CxOk G X cX3_arrive 4 RX3 (none, (SHg G), (RHg G), u') 2) (hR : CxRet G X none (none, (SHg G), (RHg G), u')) (u : Mem) (h : FX3_arrive_32_b66 u = some u') : WM G X 66 [(0, .ref 32)] [] (SHg G) (RHg G) u := by
  unfold FX3_arrive_32_b66 at h
  refine w_aload_n 0 66 hX rfl rfl dX3_arrive_66 ?_
  refine w_getR 67 hX CI_3 s_32 rfl r_32_1 fl_X3_21 rfl dX3_arrive_67 ?_
  refine w_iconst 0 70 hX ic_0 dX3_arrive_70 ?_
  obtain ⟨u1, gu1, h⟩ := o_bind h
  refine w_putI (j := 6) 71 hX CI_0 s_23 rfl fl_X3_33 rfl rfl rfl rfl dX3_arrive_71 ?_
  rw [Option.some.inj gu1]
  exact w_vret 74 hX hR dX3_arrive_74 (by cases h; rfl)
def FX3_arrive_32_b39 (l1 l2 t0 : Int32) (u : Mem) : Option Mem :=
  (if t0 = 0 then ((FX11_endOf 0).bind fun x2 => (FX11_holds l2 x2).bind fun x3 => (if x3 = 0 then (some u) else ((FX11_endOf 0).bind fun x5 => (FX11_holds l1 x5).bind fun x6 => (if x6 = 0 then (FX3_arrive_32_b66 u) else (some u))))) else (FX3_arrive_32_b66 u))
theorem bX3_arrive_32_39 {G : Gt} {X : Xt} {u' : Mem} (hX : CxOk G X cX3_arrive 4 RX3 (none, (SHg G), (RHg G), u') 2) (hR : CxRet G X none (none, (SHg G), (RHg G), u')) (l1 l2 t0 : Int32) (u : Mem) (h : FX3_arrive_32_b39 l1 l2 t0 u = some u') : WM G X 39 [(0, .ref 32), (1, .int l1), (2, .int l2)] [.int t0] (SHg G) (RHg G) u := by
  unfold FX3_arrive_32_b39 at h
  refine w_istore_n (lv' := [(3, .int t0), (0, .ref 32), (1, .int l1), (2, .int l2)]) 39 hX rfl dX3_arrive_39 (by decide) rfl ?_
  refine w_iload_n 0 40 hX rfl rfl dX3_arrive_40 ?_
  refine w_if_ne (tgt := 66) 41 hX dX3_arrive_41 (by decide) (fun c1 => ?_) (fun c1 => ?_)
  · have h := ie h c1
    exact w_sub [1] rfl (bX3_arrive_32_66 hX hR u h)
  · have h := it h c1
    refine w_iload_n 3 44 hX rfl rfl dX3_arrive_44 ?_
    refine w_iconst 0 45 hX ic_0 dX3_arrive_45 ?_
    obtain ⟨x2, gx2, h⟩ := o_bind h
    refine w_invSNi (av := [.int 0]) (st := [.int l2]) 46 hX ms_yX11_endOf mi_yX11_endOf ml_X3_150 (CX11_endOf 0 u gx2) rfl (by decide) (Nat.le_of_ble_eq_true rfl) (Nat.le_refl _) (Nat.le_refl _) dX3_arrive_46 ?_
    obtain ⟨x3, gx3, h⟩ := o_bind h
    refine w_invSNi (av := [.int l2, .int x2]) (st := []) 49 hX ms_yX11_holds mi_yX11_holds ml_X3_174 (CX11_holds l2 x2 u gx3) rfl (by decide) (Nat.le_of_ble_eq_true rfl) (Nat.le_refl _) (Nat.le_refl _) dX3_arrive_49 ?_
    refine w_if_eq (tgt := 74) 52 hX dX3_arrive_52 (by decide) (fun c4 => ?_) (fun c4 => ?_)
    · have h := it h c4
      exact w_vret 74 hX hR dX3_arrive_74 (by cases h; rfl)
    · have h := ie h c4
      refine w_iload_n 2 55 hX rfl rfl dX3_arrive_55 ?_
      refine w_iconst 0 56 hX ic_0 dX3_arrive_56 ?_
      obtain ⟨x5, gx5, h⟩ := o_bind h
      refine w_invSNi (av := [.int 0]) (st := [.int l1]) 57 hX ms_yX11_endOf mi_yX11_endOf ml_X3_150 (CX11_endOf 0 u gx5) rfl (by decide) (Nat.le_of_ble_eq_true rfl) (Nat.le_refl _) (Nat.le_refl _) dX3_arrive_57 ?_
      obtain ⟨x6, gx6, h⟩ := o_bind h
      refine w_invSNi (av := [.int l1, .int x5]) (st := []) 60 hX ms_yX11_holds mi_yX11_holds ml_X3_174 (CX11_holds l1 x5 u gx6) rfl (by decide) (Nat.le_of_ble_eq_true rfl) (Nat.le_refl _) (Nat.le_refl _) dX3_arrive_60 ?_
      refine w_if_ne (tgt := 74) 63 hX dX3_arrive_63 (by decide) (fun c7 => ?_) (fun c7 => ?_)
      · have h := ie h c7
        exact w_vret 74 hX hR dX3_arrive_74 (by cases h; rfl)
      · have h := it h c7
        exact w_sub [1] rfl (bX3_arrive_32_66 hX hR u h)
def FX3_arrive_32 (u : Mem) : Option Mem :=
  (FX3_cellsOf_32 0 u).bind fun x1 => (FX3_cellsOf_32 1 u).bind fun x2 => (FX11_endOf 1).bind fun x3 => (FX11_holds x1 x3).bind fun x4 => (if x4 = 0 then (FX3_arrive_32_b39 x1 x2 0 u) else ((FX11_endOf 1).bind fun x6 => (FX11_holds x2 x6).bind fun x7 => (if x7 = 0 then (FX3_arrive_32_b39 x1 x2 1 u) else (FX3_arrive_32_b39 x1 x2 0 u))))
theorem CX3_arrive_32 {G : Gt} (u : Mem) {u' : Mem} (h : FX3_arrive_32 u = some u') : CT G yX3_arrive cX3_arrive 4 none 2 [.ref 32] (SHg G) (RHg G) u (none, (SHg G), (RHg G), u') :=
  ct_of (by decide) rfl (Nat.le_of_ble_eq_true rfl) (Nat.le_refl _) (Nat.le_refl _) (fun X hX hR => by
  unfold FX3_arrive_32 at h
  refine w_aload_n 0 0 hX rfl rfl dX3_arrive_0 ?_
  refine w_iconst 0 1 hX ic_0 dX3_arrive_1 ?_
  obtain ⟨x1, gx1, h⟩ := o_bind h
  refine w_invVi (av := [.int 0]) (st := []) 2 hX CI_3 s_32 rfl mv_yX3_cellsOf mi_yX3_cellsOf ml_X3_171 (CX3_cellsOf_32 0 u gx1) rfl (by decide) (Nat.le_of_ble_eq_true rfl) (Nat.le_refl _) (Nat.le_refl _) dX3_arrive_2 ?_
  refine w_istore_n (lv' := [(1, .int x1), (0, .ref 32)]) 5 hX rfl dX3_arrive_5 (by decide) rfl ?_
  refine w_aload_n 1 6 hX rfl rfl dX3_arrive_6 ?_
  refine w_iconst 1 7 hX ic_1 dX3_arrive_7 ?_
  obtain ⟨x2, gx2, h⟩ := o_bind h
  refine w_invVi (av := [.int 1]) (st := []) 8 hX CI_3 s_32 rfl mv_yX3_cellsOf mi_yX3_cellsOf ml_X3_171 (CX3_cellsOf_32 1 u gx2) rfl (by decide) (Nat.le_of_ble_eq_true rfl) (Nat.le_refl _) (Nat.le_refl _) dX3_arrive_8 ?_
  refine w_istore_n (lv' := [(2, .int x2), (1, .int x1), (0, .ref 32)]) 11 hX rfl dX3_arrive_11 (by decide) rfl ?_
  refine w_iload_n 1 12 hX rfl rfl dX3_arrive_12 ?_
  refine w_iconst 1 13 hX ic_1 dX3_arrive_13 ?_
  obtain ⟨x3, gx3, h⟩ := o_bind h
  refine w_invSNi (av := [.int 1]) (st := [.int x1]) 14 hX ms_yX11_endOf mi_yX11_endOf ml_X3_150 (CX11_endOf 1 u gx3) rfl (by decide) (Nat.le_of_ble_eq_true rfl) (Nat.le_refl _) (Nat.le_refl _) dX3_arrive_14 ?_
  obtain ⟨x4, gx4, h⟩ := o_bind h
  refine w_invSNi (av := [.int x1, .int x3]) (st := []) 17 hX ms_yX11_holds mi_yX11_holds ml_X3_174 (CX11_holds x1 x3 u gx4) rfl (by decide) (Nat.le_of_ble_eq_true rfl) (Nat.le_refl _) (Nat.le_refl _) dX3_arrive_17 ?_
  refine w_if_eq (tgt := 38) 20 hX dX3_arrive_20 (by decide) (fun c5 => ?_) (fun c5 => ?_)
  · have h := it h c5
    refine w_iconst 0 38 hX ic_0 dX3_arrive_38 ?_
    exact w_sub [2, 1, 0] rfl (bX3_arrive_32_39 hX hR x1 x2 0 u h)
  · have h := ie h c5
    refine w_iload_n 0 23 hX rfl rfl dX3_arrive_23 ?_
    refine w_iconst 1 24 hX ic_1 dX3_arrive_24 ?_
    obtain ⟨x6, gx6, h⟩ := o_bind h
    refine w_invSNi (av := [.int 1]) (st := [.int x2]) 25 hX ms_yX11_endOf mi_yX11_endOf ml_X3_150 (CX11_endOf 1 u gx6) rfl (by decide) (Nat.le_of_ble_eq_true rfl) (Nat.le_refl _) (Nat.le_refl _) dX3_arrive_25 ?_
    obtain ⟨x7, gx7, h⟩ := o_bind h
    refine w_invSNi (av := [.int x2, .int x6]) (st := []) 28 hX ms_yX11_holds mi_yX11_holds ml_X3_174 (CX11_holds x2 x6 u gx7) rfl (by decide) (Nat.le_of_ble_eq_true rfl) (Nat.le_refl _) (Nat.le_refl _) dX3_arrive_28 ?_
    refine w_if_ne (tgt := 38) 31 hX dX3_arrive_31 (by decide) (fun c8 => ?_) (fun c8 => ?_)
    · have h := ie h c8
      refine w_iconst 0 38 hX ic_0 dX3_arrive_38 ?_
      exact w_sub [2, 1, 0] rfl (bX3_arrive_32_39 hX hR x1 x2 0 u h)
    · have h := it h c8
      refine w_iconst 1 34 hX ic_1 dX3_arrive_34 ?_
      refine w_goto (tgt := 39) 35 hX (by decide) dX3_arrive_35 ?_
      exact w_sub [2, 1, 0] rfl (bX3_arrive_32_39 hX hR x1 x2 1 u h))
def FX3_tellOn_32_b115 (k2 : Int32 → Mem → Option Mem) (l1 : Int32) (u : Mem) : Option Mem :=
  k2 (l1 + 1) u
theorem bX3_tellOn_32_115 {G : Gt} {X : Xt} {u' : Mem} (hX : CxOk G X cX3_tellOn 4 RX3 (none, (SHg G), (RHg G), u') 2) (hR : CxRet G X none (none, (SHg G), (RHg G), u')) {k2 : Int32 → Mem → Option Mem} (hk2 : ∀ (l1 : Int32) (u : Mem), k2 l1 u = some u' → WM G X 2 [(0, .ref 32), (1, .int l1)] [] (SHg G) (RHg G) u) (l1 : Int32) (u : Mem) (h : FX3_tellOn_32_b115 k2 l1 u = some u') : WM G X 115 [(0, .ref 32), (1, .int l1)] [] (SHg G) (RHg G) u := by
  unfold FX3_tellOn_32_b115 at h
  refine w_iinc (lv' := [(1, .int (l1 + 1)), (0, .ref 32)]) 115 1 hX dX3_tellOn_115 rfl (inc_1 _) (by decide) rfl ?_
  refine w_goto (tgt := 2) 118 hX (by decide) dX3_tellOn_118 ?_
  exact w_sub [1, 0] rfl (hk2 (l1 + 1) u h)
def FX3_tellOn_32_b109 (k21 : Int32 → Int32 → Mem → Option Mem) (l1 l2 : Int32) (u : Mem) : Option Mem :=
  k21 l1 (l2 + 1) u
theorem bX3_tellOn_32_109 {G : Gt} {X : Xt} {u' : Mem} (hX : CxOk G X cX3_tellOn 4 RX3 (none, (SHg G), (RHg G), u') 2) (hR : CxRet G X none (none, (SHg G), (RHg G), u')) {k21 : Int32 → Int32 → Mem → Option Mem} (hk21 : ∀ (l1 l2 : Int32) (u : Mem), k21 l1 l2 u = some u' → WM G X 21 [(0, .ref 32), (1, .int l1), (2, .int l2)] [] (SHg G) (RHg G) u) (l1 l2 : Int32) (u : Mem) (h : FX3_tellOn_32_b109 k21 l1 l2 u = some u') : WM G X 109 [(0, .ref 32), (1, .int l1), (2, .int l2)] [] (SHg G) (RHg G) u := by
  unfold FX3_tellOn_32_b109 at h
  refine w_iinc (lv' := [(2, .int (l2 + 1)), (0, .ref 32), (1, .int l1)]) 109 2 hX dX3_tellOn_109 rfl (inc_1 _) (by decide) rfl ?_
  refine w_goto (tgt := 21) 112 hX (by decide) dX3_tellOn_112 ?_
  exact w_sub [1, 2, 0] rfl (hk21 l1 (l2 + 1) u h)
def FX3_tellOn_32_b67 (k21 : Int32 → Int32 → Mem → Option Mem) (l1 l2 t0 : Int32) (u : Mem) : Option Mem :=
  (if t0 = 0 then (FX3_tellOn_32_b109 k21 l1 l2 u) else ((rdA u 5 12 l1).bind fun x2 => (FX11_holds x2 l2).bind fun x3 => (if x3 = 0 then (FX3_tellOn_32_b109 k21 l1 l2 u) else ((rdA u 25 12 l2).bind fun x5 => (rdA u 25 12 l1).bind fun x6 => (wrA u 25 12 l2 (x5 ||| x6)).bind fun u7 => FX3_tellOn_32_b109 k21 l1 l2 u7))))
theorem bX3_tellOn_32_67 {G : Gt} {X : Xt} {u' : Mem} (hX : CxOk G X cX3_tellOn 4 RX3 (none, (SHg G), (RHg G), u') 2) (hR : CxRet G X none (none, (SHg G), (RHg G), u')) {k21 : Int32 → Int32 → Mem → Option Mem} (hk21 : ∀ (l1 l2 : Int32) (u : Mem), k21 l1 l2 u = some u' → WM G X 21 [(0, .ref 32), (1, .int l1), (2, .int l2)] [] (SHg G) (RHg G) u) (l1 l2 t0 : Int32) (u : Mem) (h : FX3_tellOn_32_b67 k21 l1 l2 t0 u = some u') : WM G X 67 [(0, .ref 32), (1, .int l1), (2, .int l2)] [.int t0] (SHg G) (RHg G) u := by
  unfold FX3_tellOn_32_b67 at h
  refine w_istore_n (lv' := [(3, .int t0), (0, .ref 32), (1, .int l1), (2, .int l2)]) 67 hX rfl dX3_tellOn_67 (by decide) rfl ?_
  refine w_iload_n 0 68 hX rfl rfl dX3_tellOn_68 ?_
  refine w_if_eq (tgt := 109) 69 hX dX3_tellOn_69 (by decide) (fun c1 => ?_) (fun c1 => ?_)
  · have h := it h c1
    exact w_sub [1, 2, 3] rfl (bX3_tellOn_32_109 hX hR hk21 l1 l2 u h)
  · have h := ie h c1
    refine w_aload_n 1 72 hX rfl rfl dX3_tellOn_72 ?_
    refine w_getR 73 hX CI_3 s_32 rfl r_32_0 fl_X3_17 rfl dX3_tellOn_73 ?_
    refine w_getR 76 hX CI_9 s_1 rfl r_1_4 fl_X3_198 rfl dX3_tellOn_76 ?_
    refine w_iload_n 2 79 hX rfl rfl dX3_tellOn_79 ?_
    obtain ⟨x2, gx2, h⟩ := o_bind h
    refine w_iald 80 hX s_5 gx2 dX3_tellOn_80 ?_
    refine w_iload_n 3 81 hX rfl rfl dX3_tellOn_81 ?_
    obtain ⟨x3, gx3, h⟩ := o_bind h
    refine w_invSNi (av := [.int x2, .int l2]) (st := []) 82 hX ms_yX11_holds mi_yX11_holds ml_X3_174 (CX11_holds x2 l2 u gx3) rfl (by decide) (Nat.le_of_ble_eq_true rfl) (Nat.le_refl _) (Nat.le_refl _) dX3_tellOn_82 ?_
    refine w_if_eq (tgt := 109) 85 hX dX3_tellOn_85 (by decide) (fun c4 => ?_) (fun c4 => ?_)
    · have h := it h c4
      exact w_sub [1, 2, 3] rfl (bX3_tellOn_32_109 hX hR hk21 l1 l2 u h)
    · have h := ie h c4
      refine w_aload_n 1 88 hX rfl rfl dX3_tellOn_88 ?_
      refine w_getR 89 hX CI_3 s_32 rfl r_32_1 fl_X3_21 rfl dX3_tellOn_89 ?_
      refine w_getR 92 hX CI_0 s_23 rfl r_23_1 fl_X3_85 rfl dX3_tellOn_92 ?_
      refine w_iload_n 3 95 hX rfl rfl dX3_tellOn_95 ?_
      refine w_dup2 96 hX rfl rfl dX3_tellOn_96 ?_
      obtain ⟨x5, gx5, h⟩ := o_bind h
      refine w_iald 97 hX s_25 gx5 dX3_tellOn_97 ?_
      refine w_aload_n 1 98 hX rfl rfl dX3_tellOn_98 ?_
      refine w_getR 99 hX CI_3 s_32 rfl r_32_1 fl_X3_21 rfl dX3_tellOn_99 ?_
      refine w_getR 102 hX CI_0 s_23 rfl r_23_1 fl_X3_85 rfl dX3_tellOn_102 ?_
      refine w_iload_n 2 105 hX rfl rfl dX3_tellOn_105 ?_
      obtain ⟨x6, gx6, h⟩ := o_bind h
      refine w_iald 106 hX s_25 gx6 dX3_tellOn_106 ?_
      refine w_ior 107 hX dX3_tellOn_107 ?_
      obtain ⟨u7, gu7, h⟩ := o_bind h
      refine w_iast 108 hX s_25 gu7 dX3_tellOn_108 ?_
      exact w_sub [1, 2, 3] rfl (bX3_tellOn_32_109 hX hR hk21 l1 l2 u7 h)
def FX3_tellOn_32_b21 (k2 : Int32 → Mem → Option Mem) (k21 : Int32 → Int32 → Mem → Option Mem) (l1 l2 : Int32) (u : Mem) : Option Mem :=
  (if 12 ≤ l2 then (FX3_tellOn_32_b115 k2 l1 u) else ((if (u 1 0) ≤ l2 then (FX3_tellOn_32_b115 k2 l1 u) else ((rdA u 27 12 l1).bind fun x3 => (if x3 = 0 then ((rdA u 27 12 l2).bind fun x5 => (if x5 = 0 then (FX3_tellOn_32_b67 k21 l1 l2 1 u) else (FX3_tellOn_32_b67 k21 l1 l2 0 u))) else (FX3_tellOn_32_b67 k21 l1 l2 0 u))))))
theorem bX3_tellOn_32_21 {G : Gt} {X : Xt} {u' : Mem} (hX : CxOk G X cX3_tellOn 4 RX3 (none, (SHg G), (RHg G), u') 2) (hR : CxRet G X none (none, (SHg G), (RHg G), u')) {k2 : Int32 → Mem → Option Mem} (hk2 : ∀ (l1 : Int32) (u : Mem), k2 l1 u = some u' → WM G X 2 [(0, .ref 32), (1, .int l1)] [] (SHg G) (RHg G) u) {k21 : Int32 → Int32 → Mem → Option Mem} (hk21 : ∀ (l1 l2 : Int32) (u : Mem), k21 l1 l2 u = some u' → WM G X 21 [(0, .ref 32), (1, .int l1), (2, .int l2)] [] (SHg G) (RHg G) u) (l1 l2 : Int32) (u : Mem) (h : FX3_tellOn_32_b21 k2 k21 l1 l2 u = some u') : WM G X 21 [(0, .ref 32), (1, .int l1), (2, .int l2)] [] (SHg G) (RHg G) u := by
  unfold FX3_tellOn_32_b21 at h
  refine w_iload_n 2 21 hX rfl rfl dX3_tellOn_21 ?_
  refine w_bipush 12 22 hX ib_12 dX3_tellOn_22 ?_
  refine w_icmp_ge (tgt := 115) 24 hX dX3_tellOn_24 (by decide) (fun c1 => ?_) (fun c1 => ?_)
  · have h := it h c1
    exact w_sub [0, 1] rfl (bX3_tellOn_32_115 hX hR hk2 l1 u h)
  · have h := ie h c1
    refine w_iload_n 2 27 hX rfl rfl dX3_tellOn_27 ?_
    refine w_aload_n 0 28 hX rfl rfl dX3_tellOn_28 ?_
    refine w_getR 29 hX CI_3 s_32 rfl r_32_0 fl_X3_17 rfl dX3_tellOn_29 ?_
    refine w_getI (j := 0) 32 hX CI_9 s_1 rfl fl_X3_123 rfl dX3_tellOn_32 ?_
    refine w_icmp_ge (tgt := 115) 35 hX dX3_tellOn_35 (by decide) (fun c2 => ?_) (fun c2 => ?_)
    · have h := it h c2
      exact w_sub [0, 1] rfl (bX3_tellOn_32_115 hX hR hk2 l1 u h)
    · have h := ie h c2
      refine w_aload_n 0 38 hX rfl rfl dX3_tellOn_38 ?_
      refine w_getR 39 hX CI_3 s_32 rfl r_32_1 fl_X3_21 rfl dX3_tellOn_39 ?_
      refine w_getR 42 hX CI_0 s_23 rfl r_23_3 fl_X3_70 rfl dX3_tellOn_42 ?_
      refine w_iload_n 1 45 hX rfl rfl dX3_tellOn_45 ?_
      obtain ⟨x3, gx3, h⟩ := o_bind h
      refine w_iald 46 hX s_27 gx3 dX3_tellOn_46 ?_
      refine w_if_ne (tgt := 66) 47 hX dX3_tellOn_47 (by decide) (fun c4 => ?_) (fun c4 => ?_)
      · have h := ie h c4
        refine w_iconst 0 66 hX ic_0 dX3_tellOn_66 ?_
        exact bX3_tellOn_32_67 hX hR hk21 l1 l2 0 u h
      · have h := it h c4
        refine w_aload_n 0 50 hX rfl rfl dX3_tellOn_50 ?_
        refine w_getR 51 hX CI_3 s_32 rfl r_32_1 fl_X3_21 rfl dX3_tellOn_51 ?_
        refine w_getR 54 hX CI_0 s_23 rfl r_23_3 fl_X3_70 rfl dX3_tellOn_54 ?_
        refine w_iload_n 2 57 hX rfl rfl dX3_tellOn_57 ?_
        obtain ⟨x5, gx5, h⟩ := o_bind h
        refine w_iald 58 hX s_27 gx5 dX3_tellOn_58 ?_
        refine w_if_ne (tgt := 66) 59 hX dX3_tellOn_59 (by decide) (fun c6 => ?_) (fun c6 => ?_)
        · have h := ie h c6
          refine w_iconst 0 66 hX ic_0 dX3_tellOn_66 ?_
          exact bX3_tellOn_32_67 hX hR hk21 l1 l2 0 u h
        · have h := it h c6
          refine w_iconst 1 62 hX ic_1 dX3_tellOn_62 ?_
          refine w_goto (tgt := 67) 63 hX (by decide) dX3_tellOn_63 ?_
          exact bX3_tellOn_32_67 hX hR hk21 l1 l2 1 u h
def FX3_tellOn_32_L21 (k2 : Int32 → Mem → Option Mem) : Nat → Int32 → Int32 → Mem → Option Mem
  | 0, _, _, _ => none
  | n + 1, l1, l2, u => FX3_tellOn_32_b21 k2 (FX3_tellOn_32_L21 k2 n) l1 l2 u
theorem lX3_tellOn_32_21 {G : Gt} {X : Xt} {u' : Mem} (hX : CxOk G X cX3_tellOn 4 RX3 (none, (SHg G), (RHg G), u') 2) (hR : CxRet G X none (none, (SHg G), (RHg G), u')) {k2 : Int32 → Mem → Option Mem} (hk2 : ∀ (l1 : Int32) (u : Mem), k2 l1 u = some u' → WM G X 2 [(0, .ref 32), (1, .int l1)] [] (SHg G) (RHg G) u) : ∀ (n : Nat) (l1 l2 : Int32) (u : Mem), FX3_tellOn_32_L21 k2 n l1 l2 u = some u' → WM G X 21 [(0, .ref 32), (1, .int l1), (2, .int l2)] [] (SHg G) (RHg G) u := by
  intro n
  induction n with
  | zero =>
    intro l1 l2 u h
    exact nn_ h
  | succ n ih =>
    intro l1 l2 u h
    exact bX3_tellOn_32_21 hX hR hk2 ih l1 l2 u h
def FX3_tellOn_32_b2 (k2 : Int32 → Mem → Option Mem) (l1 : Int32) (u : Mem) : Option Mem :=
  (if 12 ≤ l1 then (some u) else ((if (u 1 0) ≤ l1 then (some u) else (FX3_tellOn_32_L21 k2 FU l1 0 u))))
theorem bX3_tellOn_32_2 {G : Gt} {X : Xt} {u' : Mem} (hX : CxOk G X cX3_tellOn 4 RX3 (none, (SHg G), (RHg G), u') 2) (hR : CxRet G X none (none, (SHg G), (RHg G), u')) {k2 : Int32 → Mem → Option Mem} (hk2 : ∀ (l1 : Int32) (u : Mem), k2 l1 u = some u' → WM G X 2 [(0, .ref 32), (1, .int l1)] [] (SHg G) (RHg G) u) (l1 : Int32) (u : Mem) (h : FX3_tellOn_32_b2 k2 l1 u = some u') : WM G X 2 [(0, .ref 32), (1, .int l1)] [] (SHg G) (RHg G) u := by
  unfold FX3_tellOn_32_b2 at h
  refine w_iload_n 1 2 hX rfl rfl dX3_tellOn_2 ?_
  refine w_bipush 12 3 hX ib_12 dX3_tellOn_3 ?_
  refine w_icmp_ge (tgt := 121) 5 hX dX3_tellOn_5 (by decide) (fun c1 => ?_) (fun c1 => ?_)
  · have h := it h c1
    exact w_vret 121 hX hR dX3_tellOn_121 (by cases h; rfl)
  · have h := ie h c1
    refine w_iload_n 1 8 hX rfl rfl dX3_tellOn_8 ?_
    refine w_aload_n 0 9 hX rfl rfl dX3_tellOn_9 ?_
    refine w_getR 10 hX CI_3 s_32 rfl r_32_0 fl_X3_17 rfl dX3_tellOn_10 ?_
    refine w_getI (j := 0) 13 hX CI_9 s_1 rfl fl_X3_123 rfl dX3_tellOn_13 ?_
    refine w_icmp_ge (tgt := 121) 16 hX dX3_tellOn_16 (by decide) (fun c2 => ?_) (fun c2 => ?_)
    · have h := it h c2
      exact w_vret 121 hX hR dX3_tellOn_121 (by cases h; rfl)
    · have h := ie h c2
      refine w_iconst 0 19 hX ic_0 dX3_tellOn_19 ?_
      refine w_istore_n (lv' := [(2, .int 0), (0, .ref 32), (1, .int l1)]) 20 hX rfl dX3_tellOn_20 (by decide) rfl ?_
      exact w_sub [1, 2, 0] rfl (lX3_tellOn_32_21 hX hR hk2 FU l1 0 u h)
def FX3_tellOn_32_L2 : Nat → Int32 → Mem → Option Mem
  | 0, _, _ => none
  | n + 1, l1, u => FX3_tellOn_32_b2 (FX3_tellOn_32_L2 n) l1 u
theorem lX3_tellOn_32_2 {G : Gt} {X : Xt} {u' : Mem} (hX : CxOk G X cX3_tellOn 4 RX3 (none, (SHg G), (RHg G), u') 2) (hR : CxRet G X none (none, (SHg G), (RHg G), u')) : ∀ (n : Nat) (l1 : Int32) (u : Mem), FX3_tellOn_32_L2 n l1 u = some u' → WM G X 2 [(0, .ref 32), (1, .int l1)] [] (SHg G) (RHg G) u := by
  intro n
  induction n with
  | zero =>
    intro l1 u h
    exact nn_ h
  | succ n ih =>
    intro l1 u h
    exact bX3_tellOn_32_2 hX hR ih l1 u h
def FX3_tellOn_32 (u : Mem) : Option Mem :=
  FX3_tellOn_32_L2 FU 0 u
theorem CX3_tellOn_32 {G : Gt} (u : Mem) {u' : Mem} (h : FX3_tellOn_32 u = some u') : CT G yX3_tellOn cX3_tellOn 4 none 2 [.ref 32] (SHg G) (RHg G) u (none, (SHg G), (RHg G), u') :=
  ct_of (by decide) rfl (Nat.le_of_ble_eq_true rfl) (Nat.le_refl _) (Nat.le_refl _) (fun X hX hR => by
  unfold FX3_tellOn_32 at h
  refine w_iconst 0 0 hX ic_0 dX3_tellOn_0 ?_
  refine w_istore_n (lv' := [(1, .int 0), (0, .ref 32)]) 1 hX rfl dX3_tellOn_1 (by decide) rfl ?_
  exact w_sub [1, 0] rfl (lX3_tellOn_32_2 hX hR FU 0 u h))
def FX0_draw_23 (p1 : Int32) (u : Mem) : Option (Int32 × Mem) :=
  (some (mupd u 23 8 (((u 23 8) * 1664525) + 1013904223))).bind fun u1 => (if p1 ≤ 0 then (some (0, u1)) else ((rmI (((u1 23 8 : Int32).toUInt32 >>> ((8 : Int32).toUInt32 &&& Int32.toUInt32 31)).toInt32) p1).bind fun x3 => some (x3, u1)))
theorem CX0_draw_23 {G : Gt} (p1 : Int32) (u : Mem) {v : Int32} {u' : Mem} (h : FX0_draw_23 p1 u = some (v, u')) : CT G yX0_draw cX0_draw 2 (some .int) 1 [.ref 23, .int p1] (SHg G) (RHg G) u (some (.int v), (SHg G), (RHg G), u') :=
  ct_of (by decide) rfl (Nat.le_of_ble_eq_true rfl) (Nat.le_refl _) (Nat.le_refl _) (fun X hX hR => by
  unfold FX0_draw_23 at h
  refine w_aload_n 0 0 hX rfl rfl dX0_draw_0 ?_
  refine w_aload_n 0 1 hX rfl rfl dX0_draw_1 ?_
  refine w_getI (j := 8) 2 hX CI_0 s_23 rfl fl_X0_41 rfl dX0_draw_2 ?_
  refine w_ldc 1664525 5 hX cs_X0_51 dX0_draw_5 ?_
  refine w_imul 7 hX dX0_draw_7 ?_
  refine w_ldc 1013904223 8 hX cs_X0_52 dX0_draw_8 ?_
  refine w_iadd 10 hX dX0_draw_10 ?_
  obtain ⟨u1, gu1, h⟩ := o_bind h
  refine w_putI (j := 8) 11 hX CI_0 s_23 rfl fl_X0_41 rfl rfl rfl rfl dX0_draw_11 ?_
  rw [Option.some.inj gu1]
  refine w_iload_n 1 14 hX rfl rfl dX0_draw_14 ?_
  refine w_if_le (tgt := 30) 15 hX dX0_draw_15 (by decide) (fun c2 => ?_) (fun c2 => ?_)
  · have h := it h c2
    refine w_iconst 0 30 hX ic_0 dX0_draw_30 ?_
    exact w_iret 31 hX hR dX0_draw_31 (by cases h; rfl)
  · have h := ie h c2
    refine w_aload_n 0 18 hX rfl rfl dX0_draw_18 ?_
    refine w_getI (j := 8) 19 hX CI_0 s_23 rfl fl_X0_41 rfl dX0_draw_19 ?_
    refine w_bipush 8 22 hX ib_8 dX0_draw_22 ?_
    refine w_iushr 24 hX dX0_draw_24 ?_
    refine w_iload_n 1 25 hX rfl rfl dX0_draw_25 ?_
    obtain ⟨x3, gx3, h⟩ := o_bind h
    obtain ⟨qx3, jx3⟩ := rmI_ok gx3
    refine w_irem 26 hX qx3 dX0_draw_26 ?_
    rw [jx3]
    refine w_goto (tgt := 31) 27 hX (by decide) dX0_draw_27 ?_
    exact w_iret 31 hX hR dX0_draw_31 (by cases h; rfl))
def FX3_leastOf_b22 (l1 : Int32) : Option Int32 :=
  some l1
theorem bX3_leastOf_22 {G : Gt} {X : Xt} {v : Int32} {u : Mem} (hX : CxOk G X cX3_leastOf 2 RX3 (some (.int v), (SHg G), (RHg G), u) 2) (hR : CxRet G X (some .int) (some (.int v), (SHg G), (RHg G), u)) (l1 : Int32) (h : FX3_leastOf_b22 l1 = some v) : WM G X 22 [(1, .int l1)] [] (SHg G) (RHg G) u := by
  unfold FX3_leastOf_b22 at h
  refine w_iload_n 0 22 hX rfl rfl dX3_leastOf_22 ?_
  exact w_iret 23 hX hR dX3_leastOf_23 (by cases h; rfl)
def FX3_leastOf_b2 (k2 : Int32 → Int32 → Option Int32) (l0 l1 : Int32) : Option Int32 :=
  (if 7 ≤ l1 then (FX3_leastOf_b22 l1) else ((FX11_holds l0 l1).bind fun x2 => (if x2 = 0 then (k2 l0 (l1 + 1)) else (FX3_leastOf_b22 l1))))
theorem bX3_leastOf_2 {G : Gt} {X : Xt} {v : Int32} {u : Mem} (hX : CxOk G X cX3_leastOf 2 RX3 (some (.int v), (SHg G), (RHg G), u) 2) (hR : CxRet G X (some .int) (some (.int v), (SHg G), (RHg G), u)) {k2 : Int32 → Int32 → Option Int32} (hk2 : ∀ (l0 l1 : Int32), k2 l0 l1 = some v → WM G X 2 [(0, .int l0), (1, .int l1)] [] (SHg G) (RHg G) u) (l0 l1 : Int32) (h : FX3_leastOf_b2 k2 l0 l1 = some v) : WM G X 2 [(0, .int l0), (1, .int l1)] [] (SHg G) (RHg G) u := by
  unfold FX3_leastOf_b2 at h
  refine w_iload_n 1 2 hX rfl rfl dX3_leastOf_2 ?_
  refine w_bipush 7 3 hX ib_7 dX3_leastOf_3 ?_
  refine w_icmp_ge (tgt := 22) 5 hX dX3_leastOf_5 (by decide) (fun c1 => ?_) (fun c1 => ?_)
  · have h := it h c1
    exact w_sub [1] rfl (bX3_leastOf_22 hX hR l1 h)
  · have h := ie h c1
    refine w_iload_n 0 8 hX rfl rfl dX3_leastOf_8 ?_
    refine w_iload_n 1 9 hX rfl rfl dX3_leastOf_9 ?_
    obtain ⟨x2, gx2, h⟩ := o_bind h
    refine w_invSNi (av := [.int l0, .int l1]) (st := []) 10 hX ms_yX11_holds mi_yX11_holds ml_X3_174 (CX11_holds l0 l1 u gx2) rfl (by decide) (Nat.le_of_ble_eq_true rfl) (Nat.le_refl _) (Nat.le_refl _) dX3_leastOf_10 ?_
    refine w_if_ne (tgt := 22) 13 hX dX3_leastOf_13 (by decide) (fun c3 => ?_) (fun c3 => ?_)
    · have h := ie h c3
      exact w_sub [1] rfl (bX3_leastOf_22 hX hR l1 h)
    · have h := it h c3
      refine w_iinc (lv' := [(1, .int (l1 + 1)), (0, .int l0)]) 16 1 hX dX3_leastOf_16 rfl (inc_1 _) (by decide) rfl ?_
      refine w_goto (tgt := 2) 19 hX (by decide) dX3_leastOf_19 ?_
      exact w_sub [1, 0] rfl (hk2 l0 (l1 + 1) h)
def FX3_leastOf_L2 : Nat → Int32 → Int32 → Option Int32
  | 0, _, _ => none
  | n + 1, l0, l1 => FX3_leastOf_b2 (FX3_leastOf_L2 n) l0 l1
theorem lX3_leastOf_2 {G : Gt} {X : Xt} {v : Int32} {u : Mem} (hX : CxOk G X cX3_leastOf 2 RX3 (some (.int v), (SHg G), (RHg G), u) 2) (hR : CxRet G X (some .int) (some (.int v), (SHg G), (RHg G), u)) : ∀ (n : Nat) (l0 l1 : Int32), FX3_leastOf_L2 n l0 l1 = some v → WM G X 2 [(0, .int l0), (1, .int l1)] [] (SHg G) (RHg G) u := by
  intro n
  induction n with
  | zero =>
    intro l0 l1 h
    exact nn_ h
  | succ n ih =>
    intro l0 l1 h
    exact bX3_leastOf_2 hX hR ih l0 l1 h
def FX3_leastOf (p0 : Int32) : Option Int32 :=
  FX3_leastOf_L2 FU p0 0
theorem CX3_leastOf {G : Gt} (p0 : Int32) (u : Mem) {v : Int32} (h : FX3_leastOf p0 = some v) : CT G yX3_leastOf cX3_leastOf 2 (some .int) 2 [.int p0] (SHg G) (RHg G) u (some (.int v), (SHg G), (RHg G), u) :=
  ct_of (by decide) rfl (Nat.le_of_ble_eq_true rfl) (Nat.le_refl _) (Nat.le_refl _) (fun X hX hR => by
  unfold FX3_leastOf at h
  refine w_iconst 0 0 hX ic_0 dX3_leastOf_0 ?_
  refine w_istore_n (lv' := [(1, .int 0), (0, .int p0)]) 1 hX rfl dX3_leastOf_1 (by decide) rfl ?_
  exact w_sub [1, 0] rfl (lX3_leastOf_2 hX hR FU p0 0 h))
def FX3_fade_32_b87 (k2 : Int32 → Mem → Option Mem) (l1 : Int32) (u : Mem) : Option Mem :=
  k2 (l1 + 1) u
theorem bX3_fade_32_87 {G : Gt} {X : Xt} {u' : Mem} (hX : CxOk G X cX3_fade 3 RX3 (none, (SHg G), (RHg G), u') 4) (hR : CxRet G X none (none, (SHg G), (RHg G), u')) {k2 : Int32 → Mem → Option Mem} (hk2 : ∀ (l1 : Int32) (u : Mem), k2 l1 u = some u' → WM G X 2 [(0, .ref 32), (1, .int l1)] [] (SHg G) (RHg G) u) (l1 : Int32) (u : Mem) (h : FX3_fade_32_b87 k2 l1 u = some u') : WM G X 87 [(0, .ref 32), (1, .int l1)] [] (SHg G) (RHg G) u := by
  unfold FX3_fade_32_b87 at h
  refine w_iinc (lv' := [(1, .int (l1 + 1)), (0, .ref 32)]) 87 1 hX dX3_fade_87 rfl (inc_1 _) (by decide) rfl ?_
  refine w_goto (tgt := 2) 90 hX (by decide) dX3_fade_90 ?_
  exact w_sub [1, 0] rfl (hk2 (l1 + 1) u h)
def FX3_fade_32_b2 (k2 : Int32 → Mem → Option Mem) (l1 : Int32) (u : Mem) : Option Mem :=
  (if 12 ≤ l1 then (some u) else ((if (u 1 0) ≤ l1 then (some u) else ((rdA u 25 12 l1).bind fun x3 => (if x3 = 0 then (FX3_fade_32_b87 k2 l1 u) else (bnd2 (FX0_draw_23 1000 u) fun x5 u6 => bnd2 (FX3_asked_32 l1 3 u6) fun x7 u8 => (if x7 ≤ x5 then (FX3_fade_32_b87 k2 l1 u8) else ((rdA u8 25 12 l1).bind fun x10 => (FX3_leastOf x10).bind fun x11 => (rdA u8 25 12 l1).bind fun x12 => (wrA u8 25 12 l1 (x12 &&& (((1 : Int32) <<< (x11 &&& 31)) ^^^ (-1)))).bind fun u13 => (FX3_note_32 3 l1 x11 u13).bind fun u15 => FX3_fade_32_b87 k2 l1 u15))))))))
theorem bX3_fade_32_2 {G : Gt} {X : Xt} {u' : Mem} (hX : CxOk G X cX3_fade 3 RX3 (none, (SHg G), (RHg G), u') 4) (hR : CxRet G X none (none, (SHg G), (RHg G), u')) {k2 : Int32 → Mem → Option Mem} (hk2 : ∀ (l1 : Int32) (u : Mem), k2 l1 u = some u' → WM G X 2 [(0, .ref 32), (1, .int l1)] [] (SHg G) (RHg G) u) (l1 : Int32) (u : Mem) (h : FX3_fade_32_b2 k2 l1 u = some u') : WM G X 2 [(0, .ref 32), (1, .int l1)] [] (SHg G) (RHg G) u := by
  unfold FX3_fade_32_b2 at h
  refine w_iload_n 1 2 hX rfl rfl dX3_fade_2 ?_
  refine w_bipush 12 3 hX ib_12 dX3_fade_3 ?_
  refine w_icmp_ge (tgt := 93) 5 hX dX3_fade_5 (by decide) (fun c1 => ?_) (fun c1 => ?_)
  · have h := it h c1
    exact w_vret 93 hX hR dX3_fade_93 (by cases h; rfl)
  · have h := ie h c1
    refine w_iload_n 1 8 hX rfl rfl dX3_fade_8 ?_
    refine w_aload_n 0 9 hX rfl rfl dX3_fade_9 ?_
    refine w_getR 10 hX CI_3 s_32 rfl r_32_0 fl_X3_17 rfl dX3_fade_10 ?_
    refine w_getI (j := 0) 13 hX CI_9 s_1 rfl fl_X3_123 rfl dX3_fade_13 ?_
    refine w_icmp_ge (tgt := 93) 16 hX dX3_fade_16 (by decide) (fun c2 => ?_) (fun c2 => ?_)
    · have h := it h c2
      exact w_vret 93 hX hR dX3_fade_93 (by cases h; rfl)
    · have h := ie h c2
      refine w_aload_n 0 19 hX rfl rfl dX3_fade_19 ?_
      refine w_getR 20 hX CI_3 s_32 rfl r_32_1 fl_X3_21 rfl dX3_fade_20 ?_
      refine w_getR 23 hX CI_0 s_23 rfl r_23_1 fl_X3_85 rfl dX3_fade_23 ?_
      refine w_iload_n 1 26 hX rfl rfl dX3_fade_26 ?_
      obtain ⟨x3, gx3, h⟩ := o_bind h
      refine w_iald 27 hX s_25 gx3 dX3_fade_27 ?_
      refine w_if_eq (tgt := 87) 28 hX dX3_fade_28 (by decide) (fun c4 => ?_) (fun c4 => ?_)
      · have h := it h c4
        exact bX3_fade_32_87 hX hR hk2 l1 u h
      · have h := ie h c4
        refine w_aload_n 0 31 hX rfl rfl dX3_fade_31 ?_
        refine w_getR 32 hX CI_3 s_32 rfl r_32_1 fl_X3_21 rfl dX3_fade_32 ?_
        refine w_sipush 1000 35 hX isp_1000 dX3_fade_35 ?_
        obtain ⟨x5, u6, gx5, h⟩ := o_bnd2 h
        refine w_invVi (av := [.int 1000]) (st := []) 38 hX CI_0 s_23 rfl mv_yX0_draw mi_yX0_draw ml_X3_201 (CX0_draw_23 1000 u gx5) rfl (by decide) (Nat.le_of_ble_eq_true rfl) (Nat.le_refl _) (Nat.le_refl _) dX3_fade_38 ?_
        refine w_aload_n 0 41 hX rfl rfl dX3_fade_41 ?_
        refine w_iload_n 1 42 hX rfl rfl dX3_fade_42 ?_
        refine w_iconst 3 43 hX ic_3 dX3_fade_43 ?_
        obtain ⟨x7, u8, gx7, h⟩ := o_bnd2 h
        refine w_invVi (av := [.int l1, .int 3]) (st := [.int x5]) 44 hX CI_3 s_32 rfl mv_yX3_asked mi_yX3_asked ml_X3_147 (CX3_asked_32 l1 3 u6 gx7) rfl (by decide) (Nat.le_of_ble_eq_true rfl) (Nat.le_refl _) (Nat.le_refl _) dX3_fade_44 ?_
        refine w_icmp_ge (tgt := 87) 47 hX dX3_fade_47 (by decide) (fun c9 => ?_) (fun c9 => ?_)
        · have h := it h c9
          exact bX3_fade_32_87 hX hR hk2 l1 u8 h
        · have h := ie h c9
          refine w_aload_n 0 50 hX rfl rfl dX3_fade_50 ?_
          refine w_getR 51 hX CI_3 s_32 rfl r_32_1 fl_X3_21 rfl dX3_fade_51 ?_
          refine w_getR 54 hX CI_0 s_23 rfl r_23_1 fl_X3_85 rfl dX3_fade_54 ?_
          refine w_iload_n 1 57 hX rfl rfl dX3_fade_57 ?_
          obtain ⟨x10, gx10, h⟩ := o_bind h
          refine w_iald 58 hX s_25 gx10 dX3_fade_58 ?_
          obtain ⟨x11, gx11, h⟩ := o_bind h
          refine w_invSi (av := [.int x10]) (st := []) 59 hX ms_yX3_leastOf mi_yX3_leastOf ml_X3_204 (CX3_leastOf x10 u8 gx11) rfl (by decide) (Nat.le_of_ble_eq_true rfl) (Nat.le_refl _) (Nat.le_refl _) dX3_fade_59 ?_
          refine w_istore_n (lv' := [(2, .int x11), (0, .ref 32), (1, .int l1)]) 62 hX rfl dX3_fade_62 (by decide) rfl ?_
          refine w_aload_n 1 63 hX rfl rfl dX3_fade_63 ?_
          refine w_getR 64 hX CI_3 s_32 rfl r_32_1 fl_X3_21 rfl dX3_fade_64 ?_
          refine w_getR 67 hX CI_0 s_23 rfl r_23_1 fl_X3_85 rfl dX3_fade_67 ?_
          refine w_iload_n 2 70 hX rfl rfl dX3_fade_70 ?_
          refine w_dup2 71 hX rfl rfl dX3_fade_71 ?_
          obtain ⟨x12, gx12, h⟩ := o_bind h
          refine w_iald 72 hX s_25 gx12 dX3_fade_72 ?_
          refine w_iconst 1 73 hX ic_1 dX3_fade_73 ?_
          refine w_iload_n 0 74 hX rfl rfl dX3_fade_74 ?_
          refine w_ishl 75 hX dX3_fade_75 ?_
          refine w_iconst (-1) 76 hX ic_m1 dX3_fade_76 ?_
          refine w_ixor 77 hX dX3_fade_77 ?_
          refine w_iand 78 hX dX3_fade_78 ?_
          obtain ⟨u13, gu13, h⟩ := o_bind h
          refine w_iast 79 hX s_25 gu13 dX3_fade_79 ?_
          refine w_aload_n 1 80 hX rfl rfl dX3_fade_80 ?_
          refine w_iconst 3 81 hX ic_3 dX3_fade_81 ?_
          refine w_iload_n 2 82 hX rfl rfl dX3_fade_82 ?_
          refine w_iload_n 0 83 hX rfl rfl dX3_fade_83 ?_
          obtain ⟨u15, gu15, h⟩ := o_bind h
          refine w_invVv (av := [.int 3, .int l1, .int x11]) (st := []) 84 hX CI_3 s_32 rfl mv_yX3_note mi_yX3_note ml_X3_153 (CX3_note_32 3 l1 x11 u13 gu15) rfl (by decide) (Nat.le_of_ble_eq_true rfl) (Nat.le_refl _) (Nat.le_refl _) dX3_fade_84 ?_
          exact w_sub [1, 2] rfl (bX3_fade_32_87 hX hR hk2 l1 u15 h)
def FX3_fade_32_L2 : Nat → Int32 → Mem → Option Mem
  | 0, _, _ => none
  | n + 1, l1, u => FX3_fade_32_b2 (FX3_fade_32_L2 n) l1 u
theorem lX3_fade_32_2 {G : Gt} {X : Xt} {u' : Mem} (hX : CxOk G X cX3_fade 3 RX3 (none, (SHg G), (RHg G), u') 4) (hR : CxRet G X none (none, (SHg G), (RHg G), u')) : ∀ (n : Nat) (l1 : Int32) (u : Mem), FX3_fade_32_L2 n l1 u = some u' → WM G X 2 [(0, .ref 32), (1, .int l1)] [] (SHg G) (RHg G) u := by
  intro n
  induction n with
  | zero =>
    intro l1 u h
    exact nn_ h
  | succ n ih =>
    intro l1 u h
    exact bX3_fade_32_2 hX hR ih l1 u h
def FX3_fade_32 (u : Mem) : Option Mem :=
  FX3_fade_32_L2 FU 0 u
theorem CX3_fade_32 {G : Gt} (u : Mem) {u' : Mem} (h : FX3_fade_32 u = some u') : CT G yX3_fade cX3_fade 3 none 4 [.ref 32] (SHg G) (RHg G) u (none, (SHg G), (RHg G), u') :=
  ct_of (by decide) rfl (Nat.le_of_ble_eq_true rfl) (Nat.le_refl _) (Nat.le_refl _) (fun X hX hR => by
  unfold FX3_fade_32 at h
  refine w_iconst 0 0 hX ic_0 dX3_fade_0 ?_
  refine w_istore_n (lv' := [(1, .int 0), (0, .ref 32)]) 1 hX rfl dX3_fade_1 (by decide) rfl ?_
  exact w_sub [1, 0] rfl (lX3_fade_32_2 hX hR FU 0 u h))
def FX3_known_32_b56 (l2 : Int32) (u : Mem) : Option Int32 :=
  some l2
theorem bX3_known_32_56 {G : Gt} {X : Xt} {v : Int32} {u : Mem} (hX : CxOk G X cX3_known 4 RX3 (some (.int v), (SHg G), (RHg G), u) 1) (hR : CxRet G X (some .int) (some (.int v), (SHg G), (RHg G), u)) (l2 : Int32) (h : FX3_known_32_b56 l2 u = some v) : WM G X 56 [(2, .int l2)] [] (SHg G) (RHg G) u := by
  unfold FX3_known_32_b56 at h
  refine w_iload_n 0 56 hX rfl rfl dX3_known_56 ?_
  exact w_iret 57 hX hR dX3_known_57 (by cases h; rfl)
def FX3_known_32_b48 (k4 : Int32 → Int32 → Int32 → Mem → Option Int32) (l1 l3 t0 t1 : Int32) (u : Mem) : Option Int32 :=
  k4 l1 (t0 ||| t1) (l3 + 1) u
theorem bX3_known_32_48 {G : Gt} {X : Xt} {v : Int32} {u : Mem} (hX : CxOk G X cX3_known 4 RX3 (some (.int v), (SHg G), (RHg G), u) 1) (hR : CxRet G X (some .int) (some (.int v), (SHg G), (RHg G), u)) {k4 : Int32 → Int32 → Int32 → Mem → Option Int32} (hk4 : ∀ (l1 l2 l3 : Int32), k4 l1 l2 l3 u = some v → WM G X 4 [(0, .ref 32), (1, .int l1), (2, .int l2), (3, .int l3)] [] (SHg G) (RHg G) u) (l1 l3 t0 t1 : Int32) (h : FX3_known_32_b48 k4 l1 l3 t0 t1 u = some v) : WM G X 48 [(0, .ref 32), (1, .int l1), (3, .int l3)] [.int t1, .int t0] (SHg G) (RHg G) u := by
  unfold FX3_known_32_b48 at h
  refine w_ior 48 hX dX3_known_48 ?_
  refine w_istore_n (lv' := [(2, .int (t0 ||| t1)), (0, .ref 32), (1, .int l1), (3, .int l3)]) 49 hX rfl dX3_known_49 (by decide) rfl ?_
  refine w_iinc (lv' := [(3, .int (l3 + 1)), (2, .int (t0 ||| t1)), (0, .ref 32), (1, .int l1)]) 50 3 hX dX3_known_50 rfl (inc_1 _) (by decide) rfl ?_
  refine w_goto (tgt := 4) 53 hX (by decide) dX3_known_53 ?_
  exact w_sub [2, 3, 1, 0] rfl (hk4 l1 (t0 ||| t1) (l3 + 1) h)
def FX3_known_32_b4 (k4 : Int32 → Int32 → Int32 → Mem → Option Int32) (l1 l2 l3 : Int32) (u : Mem) : Option Int32 :=
  (if 12 ≤ l3 then (FX3_known_32_b56 l2 u) else ((if (u 1 0) ≤ l3 then (FX3_known_32_b56 l2 u) else ((rdA u 2 12 l3).bind fun x3 => (if x3 = l1 then ((rdA u 25 12 l3).bind fun x5 => FX3_known_32_b48 k4 l1 l3 l2 x5 u) else (FX3_known_32_b48 k4 l1 l3 l2 0 u))))))
theorem bX3_known_32_4 {G : Gt} {X : Xt} {v : Int32} {u : Mem} (hX : CxOk G X cX3_known 4 RX3 (some (.int v), (SHg G), (RHg G), u) 1) (hR : CxRet G X (some .int) (some (.int v), (SHg G), (RHg G), u)) {k4 : Int32 → Int32 → Int32 → Mem → Option Int32} (hk4 : ∀ (l1 l2 l3 : Int32), k4 l1 l2 l3 u = some v → WM G X 4 [(0, .ref 32), (1, .int l1), (2, .int l2), (3, .int l3)] [] (SHg G) (RHg G) u) (l1 l2 l3 : Int32) (h : FX3_known_32_b4 k4 l1 l2 l3 u = some v) : WM G X 4 [(0, .ref 32), (1, .int l1), (2, .int l2), (3, .int l3)] [] (SHg G) (RHg G) u := by
  unfold FX3_known_32_b4 at h
  refine w_iload_n 3 4 hX rfl rfl dX3_known_4 ?_
  refine w_bipush 12 5 hX ib_12 dX3_known_5 ?_
  refine w_icmp_ge (tgt := 56) 7 hX dX3_known_7 (by decide) (fun c1 => ?_) (fun c1 => ?_)
  · have h := it h c1
    exact w_sub [2] rfl (bX3_known_32_56 hX hR l2 h)
  · have h := ie h c1
    refine w_iload_n 3 10 hX rfl rfl dX3_known_10 ?_
    refine w_aload_n 0 11 hX rfl rfl dX3_known_11 ?_
    refine w_getR 12 hX CI_3 s_32 rfl r_32_0 fl_X3_17 rfl dX3_known_12 ?_
    refine w_getI (j := 0) 15 hX CI_9 s_1 rfl fl_X3_123 rfl dX3_known_15 ?_
    refine w_icmp_ge (tgt := 56) 18 hX dX3_known_18 (by decide) (fun c2 => ?_) (fun c2 => ?_)
    · have h := it h c2
      exact w_sub [2] rfl (bX3_known_32_56 hX hR l2 h)
    · have h := ie h c2
      refine w_iload_n 2 21 hX rfl rfl dX3_known_21 ?_
      refine w_aload_n 0 22 hX rfl rfl dX3_known_22 ?_
      refine w_getR 23 hX CI_3 s_32 rfl r_32_0 fl_X3_17 rfl dX3_known_23 ?_
      refine w_getR 26 hX CI_9 s_1 rfl r_1_1 fl_X3_73 rfl dX3_known_26 ?_
      refine w_iload_n 3 29 hX rfl rfl dX3_known_29 ?_
      obtain ⟨x3, gx3, h⟩ := o_bind h
      refine w_iald 30 hX s_2 gx3 dX3_known_30 ?_
      refine w_iload_n 1 31 hX rfl rfl dX3_known_31 ?_
      refine w_icmp_ne (tgt := 47) 32 hX dX3_known_32 (by decide) (fun c4 => ?_) (fun c4 => ?_)
      · have h := ie h c4
        refine w_iconst 0 47 hX ic_0 dX3_known_47 ?_
        exact w_sub [0, 1, 3] rfl (bX3_known_32_48 hX hR hk4 l1 l3 l2 0 h)
      · have h := it h c4
        refine w_aload_n 0 35 hX rfl rfl dX3_known_35 ?_
        refine w_getR 36 hX CI_3 s_32 rfl r_32_1 fl_X3_21 rfl dX3_known_36 ?_
        refine w_getR 39 hX CI_0 s_23 rfl r_23_1 fl_X3_85 rfl dX3_known_39 ?_
        refine w_iload_n 3 42 hX rfl rfl dX3_known_42 ?_
        obtain ⟨x5, gx5, h⟩ := o_bind h
        refine w_iald 43 hX s_25 gx5 dX3_known_43 ?_
        refine w_goto (tgt := 48) 44 hX (by decide) dX3_known_44 ?_
        exact w_sub [0, 1, 3] rfl (bX3_known_32_48 hX hR hk4 l1 l3 l2 x5 h)
def FX3_known_32_L4 : Nat → Int32 → Int32 → Int32 → Mem → Option Int32
  | 0, _, _, _, _ => none
  | n + 1, l1, l2, l3, u => FX3_known_32_b4 (FX3_known_32_L4 n) l1 l2 l3 u
theorem lX3_known_32_4 {G : Gt} {X : Xt} {v : Int32} {u : Mem} (hX : CxOk G X cX3_known 4 RX3 (some (.int v), (SHg G), (RHg G), u) 1) (hR : CxRet G X (some .int) (some (.int v), (SHg G), (RHg G), u)) : ∀ (n : Nat) (l1 l2 l3 : Int32), FX3_known_32_L4 n l1 l2 l3 u = some v → WM G X 4 [(0, .ref 32), (1, .int l1), (2, .int l2), (3, .int l3)] [] (SHg G) (RHg G) u := by
  intro n
  induction n with
  | zero =>
    intro l1 l2 l3 h
    exact nn_ h
  | succ n ih =>
    intro l1 l2 l3 h
    exact bX3_known_32_4 hX hR ih l1 l2 l3 h
def FX3_known_32 (p1 : Int32) (u : Mem) : Option Int32 :=
  FX3_known_32_L4 FU p1 0 0 u
theorem CX3_known_32 {G : Gt} (p1 : Int32) (u : Mem) {v : Int32} (h : FX3_known_32 p1 u = some v) : CT G yX3_known cX3_known 4 (some .int) 1 [.ref 32, .int p1] (SHg G) (RHg G) u (some (.int v), (SHg G), (RHg G), u) :=
  ct_of (by decide) rfl (Nat.le_of_ble_eq_true rfl) (Nat.le_refl _) (Nat.le_refl _) (fun X hX hR => by
  unfold FX3_known_32 at h
  refine w_iconst 0 0 hX ic_0 dX3_known_0 ?_
  refine w_istore_n (lv' := [(2, .int 0), (0, .ref 32), (1, .int p1)]) 1 hX rfl dX3_known_1 (by decide) rfl ?_
  refine w_iconst 0 2 hX ic_0 dX3_known_2 ?_
  refine w_istore_n (lv' := [(3, .int 0), (2, .int 0), (0, .ref 32), (1, .int p1)]) 3 hX rfl dX3_known_3 (by decide) rfl ?_
  exact w_sub [2, 3, 1, 0] rfl (lX3_known_32_4 hX hR FU p1 0 0 h))
def FX9_weightOf_1_b29 (k4 : Int32 → Int32 → Int32 → Mem → Option Int32) (l1 l3 t0 t1 : Int32) (u : Mem) : Option Int32 :=
  k4 l1 (t0 + t1) (l3 + 1) u
theorem bX9_weightOf_1_29 {G : Gt} {X : Xt} {v : Int32} {u : Mem} (hX : CxOk G X cX9_weightOf 4 RX9 (some (.int v), (SHg G), (RHg G), u) 2) (hR : CxRet G X (some .int) (some (.int v), (SHg G), (RHg G), u)) {k4 : Int32 → Int32 → Int32 → Mem → Option Int32} (hk4 : ∀ (l1 l2 l3 : Int32), k4 l1 l2 l3 u = some v → WM G X 4 [(0, .ref 1), (1, .int l1), (2, .int l2), (3, .int l3)] [] (SHg G) (RHg G) u) (l1 l3 t0 t1 : Int32) (h : FX9_weightOf_1_b29 k4 l1 l3 t0 t1 u = some v) : WM G X 29 [(0, .ref 1), (1, .int l1), (3, .int l3)] [.int t1, .int t0] (SHg G) (RHg G) u := by
  unfold FX9_weightOf_1_b29 at h
  refine w_iadd 29 hX dX9_weightOf_29 ?_
  refine w_istore_n (lv' := [(2, .int (t0 + t1)), (0, .ref 1), (1, .int l1), (3, .int l3)]) 30 hX rfl dX9_weightOf_30 (by decide) rfl ?_
  refine w_iinc (lv' := [(3, .int (l3 + 1)), (2, .int (t0 + t1)), (0, .ref 1), (1, .int l1)]) 31 3 hX dX9_weightOf_31 rfl (inc_1 _) (by decide) rfl ?_
  refine w_goto (tgt := 4) 34 hX (by decide) dX9_weightOf_34 ?_
  exact w_sub [2, 3, 1, 0] rfl (hk4 l1 (t0 + t1) (l3 + 1) h)
def FX9_weightOf_1_b4 (k4 : Int32 → Int32 → Int32 → Mem → Option Int32) (l1 l2 l3 : Int32) (u : Mem) : Option Int32 :=
  (if 8 ≤ l3 then (some l2) else ((FX11_holds l1 l3).bind fun x2 => (if x2 = 0 then (FX9_weightOf_1_b29 k4 l1 l3 l2 0 u) else ((rdA u 7 8 l3).bind fun x4 => FX9_weightOf_1_b29 k4 l1 l3 l2 x4 u))))
theorem bX9_weightOf_1_4 {G : Gt} {X : Xt} {v : Int32} {u : Mem} (hX : CxOk G X cX9_weightOf 4 RX9 (some (.int v), (SHg G), (RHg G), u) 2) (hR : CxRet G X (some .int) (some (.int v), (SHg G), (RHg G), u)) {k4 : Int32 → Int32 → Int32 → Mem → Option Int32} (hk4 : ∀ (l1 l2 l3 : Int32), k4 l1 l2 l3 u = some v → WM G X 4 [(0, .ref 1), (1, .int l1), (2, .int l2), (3, .int l3)] [] (SHg G) (RHg G) u) (l1 l2 l3 : Int32) (h : FX9_weightOf_1_b4 k4 l1 l2 l3 u = some v) : WM G X 4 [(0, .ref 1), (1, .int l1), (2, .int l2), (3, .int l3)] [] (SHg G) (RHg G) u := by
  unfold FX9_weightOf_1_b4 at h
  refine w_iload_n 3 4 hX rfl rfl dX9_weightOf_4 ?_
  refine w_bipush 8 5 hX ib_8 dX9_weightOf_5 ?_
  refine w_icmp_ge (tgt := 37) 7 hX dX9_weightOf_7 (by decide) (fun c1 => ?_) (fun c1 => ?_)
  · have h := it h c1
    refine w_iload_n 2 37 hX rfl rfl dX9_weightOf_37 ?_
    exact w_iret 38 hX hR dX9_weightOf_38 (by cases h; rfl)
  · have h := ie h c1
    refine w_iload_n 2 10 hX rfl rfl dX9_weightOf_10 ?_
    refine w_iload_n 1 11 hX rfl rfl dX9_weightOf_11 ?_
    refine w_iload_n 3 12 hX rfl rfl dX9_weightOf_12 ?_
    obtain ⟨x2, gx2, h⟩ := o_bind h
    refine w_invSNi (av := [.int l1, .int l3]) (st := [.int l2]) 13 hX ms_yX11_holds mi_yX11_holds ml_X9_105 (CX11_holds l1 l3 u gx2) rfl (by decide) (Nat.le_of_ble_eq_true rfl) (Nat.le_refl _) (Nat.le_refl _) dX9_weightOf_13 ?_
    refine w_if_eq (tgt := 28) 16 hX dX9_weightOf_16 (by decide) (fun c3 => ?_) (fun c3 => ?_)
    · have h := it h c3
      refine w_iconst 0 28 hX ic_0 dX9_weightOf_28 ?_
      exact w_sub [0, 1, 3] rfl (bX9_weightOf_1_29 hX hR hk4 l1 l3 l2 0 h)
    · have h := ie h c3
      refine w_aload_n 0 19 hX rfl rfl dX9_weightOf_19 ?_
      refine w_getR 20 hX CI_9 s_1 rfl r_1_6 fl_X9_27 rfl dX9_weightOf_20 ?_
      refine w_iload_n 3 23 hX rfl rfl dX9_weightOf_23 ?_
      obtain ⟨x4, gx4, h⟩ := o_bind h
      refine w_iald 24 hX s_7 gx4 dX9_weightOf_24 ?_
      refine w_goto (tgt := 29) 25 hX (by decide) dX9_weightOf_25 ?_
      exact w_sub [0, 1, 3] rfl (bX9_weightOf_1_29 hX hR hk4 l1 l3 l2 x4 h)
def FX9_weightOf_1_L4 : Nat → Int32 → Int32 → Int32 → Mem → Option Int32
  | 0, _, _, _, _ => none
  | n + 1, l1, l2, l3, u => FX9_weightOf_1_b4 (FX9_weightOf_1_L4 n) l1 l2 l3 u
theorem lX9_weightOf_1_4 {G : Gt} {X : Xt} {v : Int32} {u : Mem} (hX : CxOk G X cX9_weightOf 4 RX9 (some (.int v), (SHg G), (RHg G), u) 2) (hR : CxRet G X (some .int) (some (.int v), (SHg G), (RHg G), u)) : ∀ (n : Nat) (l1 l2 l3 : Int32), FX9_weightOf_1_L4 n l1 l2 l3 u = some v → WM G X 4 [(0, .ref 1), (1, .int l1), (2, .int l2), (3, .int l3)] [] (SHg G) (RHg G) u := by
  intro n
  induction n with
  | zero =>
    intro l1 l2 l3 h
    exact nn_ h
  | succ n ih =>
    intro l1 l2 l3 h
    exact bX9_weightOf_1_4 hX hR ih l1 l2 l3 h
def FX9_weightOf_1 (p1 : Int32) (u : Mem) : Option Int32 :=
  FX9_weightOf_1_L4 FU p1 0 0 u
theorem CX9_weightOf_1 {G : Gt} (p1 : Int32) (u : Mem) {v : Int32} (h : FX9_weightOf_1 p1 u = some v) : CT G yX9_weightOf cX9_weightOf 4 (some .int) 2 [.ref 1, .int p1] (SHg G) (RHg G) u (some (.int v), (SHg G), (RHg G), u) :=
  ct_of (by decide) rfl (Nat.le_of_ble_eq_true rfl) (Nat.le_refl _) (Nat.le_refl _) (fun X hX hR => by
  unfold FX9_weightOf_1 at h
  refine w_iconst 0 0 hX ic_0 dX9_weightOf_0 ?_
  refine w_istore_n (lv' := [(2, .int 0), (0, .ref 1), (1, .int p1)]) 1 hX rfl dX9_weightOf_1 (by decide) rfl ?_
  refine w_iconst 0 2 hX ic_0 dX9_weightOf_2 ?_
  refine w_istore_n (lv' := [(3, .int 0), (2, .int 0), (0, .ref 1), (1, .int p1)]) 3 hX rfl dX9_weightOf_3 (by decide) rfl ?_
  exact w_sub [2, 3, 1, 0] rfl (lX9_weightOf_1_4 hX hR FU p1 0 0 h))
def FJ7_fill_53178_27_b5 (k5 : Int32 → Int32 → Int32 → Mem → Option Mem) (l1 l2 l3 : Int32) (u : Mem) : Option Mem :=
  (if l3 ≤ l2 then (some u) else ((wrA u 27 12 l2 l1).bind fun u2 => k5 l1 (l2 + 1) l3 u2))
theorem bJ7_fill_53178_27_5 {G : Gt} {X : Xt} {u' : Mem} (hX : CxOk G X cJ7_fill_53178 4 RJ7 (none, (SHg G), (RHg G), u') 1) (hR : CxRet G X none (none, (SHg G), (RHg G), u')) {k5 : Int32 → Int32 → Int32 → Mem → Option Mem} (hk5 : ∀ (l1 l2 l3 : Int32) (u : Mem), k5 l1 l2 l3 u = some u' → WM G X 5 [(0, .ref 27), (1, .int l1), (2, .int l2), (3, .int l3)] [] (SHg G) (RHg G) u) (l1 l2 l3 : Int32) (u : Mem) (h : FJ7_fill_53178_27_b5 k5 l1 l2 l3 u = some u') : WM G X 5 [(0, .ref 27), (1, .int l1), (2, .int l2), (3, .int l3)] [] (SHg G) (RHg G) u := by
  unfold FJ7_fill_53178_27_b5 at h
  refine w_iload_n 2 5 hX rfl rfl dJ7_fill_53178_5 ?_
  refine w_iload_n 3 6 hX rfl rfl dJ7_fill_53178_6 ?_
  refine w_icmp_ge (tgt := 20) 7 hX dJ7_fill_53178_7 (by decide) (fun c1 => ?_) (fun c1 => ?_)
  · have h := it h c1
    exact w_vret 20 hX hR dJ7_fill_53178_20 (by cases h; rfl)
  · have h := ie h c1
    refine w_aload_n 0 10 hX rfl rfl dJ7_fill_53178_10 ?_
    refine w_iload_n 2 11 hX rfl rfl dJ7_fill_53178_11 ?_
    refine w_iload_n 1 12 hX rfl rfl dJ7_fill_53178_12 ?_
    obtain ⟨u2, gu2, h⟩ := o_bind h
    refine w_iast 13 hX s_27 gu2 dJ7_fill_53178_13 ?_
    refine w_iinc (lv' := [(2, .int (l2 + 1)), (0, .ref 27), (1, .int l1), (3, .int l3)]) 14 2 hX dJ7_fill_53178_14 rfl (inc_1 _) (by decide) rfl ?_
    refine w_goto (tgt := 5) 17 hX (by decide) dJ7_fill_53178_17 ?_
    exact w_sub [1, 2, 0, 3] rfl (hk5 l1 (l2 + 1) l3 u2 h)
def FJ7_fill_53178_27_L5 : Nat → Int32 → Int32 → Int32 → Mem → Option Mem
  | 0, _, _, _, _ => none
  | n + 1, l1, l2, l3, u => FJ7_fill_53178_27_b5 (FJ7_fill_53178_27_L5 n) l1 l2 l3 u
theorem lJ7_fill_53178_27_5 {G : Gt} {X : Xt} {u' : Mem} (hX : CxOk G X cJ7_fill_53178 4 RJ7 (none, (SHg G), (RHg G), u') 1) (hR : CxRet G X none (none, (SHg G), (RHg G), u')) : ∀ (n : Nat) (l1 l2 l3 : Int32) (u : Mem), FJ7_fill_53178_27_L5 n l1 l2 l3 u = some u' → WM G X 5 [(0, .ref 27), (1, .int l1), (2, .int l2), (3, .int l3)] [] (SHg G) (RHg G) u := by
  intro n
  induction n with
  | zero =>
    intro l1 l2 l3 u h
    exact nn_ h
  | succ n ih =>
    intro l1 l2 l3 u h
    exact bJ7_fill_53178_27_5 hX hR ih l1 l2 l3 u h
def FJ7_fill_53178_27 (p1 : Int32) (u : Mem) : Option Mem :=
  FJ7_fill_53178_27_L5 FU p1 0 12 u
theorem CJ7_fill_53178_27 {G : Gt} (p1 : Int32) (u : Mem) {u' : Mem} (h : FJ7_fill_53178_27 p1 u = some u') : CT G yJ7_fill_53178 cJ7_fill_53178 4 none 1 [.ref 27, .int p1] (SHg G) (RHg G) u (none, (SHg G), (RHg G), u') :=
  ct_of (by decide) rfl (Nat.le_of_ble_eq_true rfl) (Nat.le_refl _) (Nat.le_refl _) (fun X hX hR => by
  unfold FJ7_fill_53178_27 at h
  refine w_iconst 0 0 hX ic_0 dJ7_fill_53178_0 ?_
  refine w_istore_n (lv' := [(2, .int 0), (0, .ref 27), (1, .int p1)]) 1 hX rfl dJ7_fill_53178_1 (by decide) rfl ?_
  refine w_aload_n 1 2 hX rfl rfl dJ7_fill_53178_2 ?_
  refine w_alen 12 3 hX s_27 (by decide) dJ7_fill_53178_3 ?_
  refine w_istore_n (lv' := [(3, .int 12), (2, .int 0), (0, .ref 27), (1, .int p1)]) 4 hX rfl dJ7_fill_53178_4 (by decide) rfl ?_
  exact w_sub [2, 3, 1, 0] rfl (lJ7_fill_53178_27_5 hX hR FU p1 0 12 u h))
def FX3_endDay_32_b134 (u : Mem) : Option Mem :=
  (if (u 23 6) = 0 then ((FJ7_fill_53178_27 0 u).bind fun u3 => (FX3_note_32 4 (-1) 0 u3).bind fun u5 => some u5) else (some u))
theorem bX3_endDay_32_134 {G : Gt} {X : Xt} {u' : Mem} (hX : CxOk G X cX3_endDay 2 RX3 (none, (SHg G), (RHg G), u') 3) (hR : CxRet G X none (none, (SHg G), (RHg G), u')) (u : Mem) (h : FX3_endDay_32_b134 u = some u') : WM G X 134 [(0, .ref 32)] [] (SHg G) (RHg G) u := by
  unfold FX3_endDay_32_b134 at h
  refine w_aload_n 0 134 hX rfl rfl dX3_endDay_134 ?_
  refine w_getR 135 hX CI_3 s_32 rfl r_32_1 fl_X3_21 rfl dX3_endDay_135 ?_
  refine w_getI (j := 6) 138 hX CI_0 s_23 rfl fl_X3_33 rfl dX3_endDay_138 ?_
  refine w_if_ne (tgt := 162) 141 hX dX3_endDay_141 (by decide) (fun c1 => ?_) (fun c1 => ?_)
  · have h := ie h c1
    exact w_vret 162 hX hR dX3_endDay_162 (by cases h; rfl)
  · have h := it h c1
    refine w_aload_n 0 144 hX rfl rfl dX3_endDay_144 ?_
    refine w_getR 145 hX CI_3 s_32 rfl r_32_1 fl_X3_21 rfl dX3_endDay_145 ?_
    refine w_getR 148 hX CI_0 s_23 rfl r_23_3 fl_X3_70 rfl dX3_endDay_148 ?_
    refine w_iconst 0 151 hX ic_0 dX3_endDay_151 ?_
    obtain ⟨u3, gu3, h⟩ := o_bind h
    refine w_invSv (av := [.ref 27, .int 0]) (st := []) 152 hX ms_yJ7_fill_53178 mi_yJ7_fill_53178 ml_X3_219 (CJ7_fill_53178_27 0 u gu3) rfl (by decide) (Nat.le_of_ble_eq_true rfl) (Nat.le_refl _) (Nat.le_refl _) dX3_endDay_152 ?_
    refine w_aload_n 0 155 hX rfl rfl dX3_endDay_155 ?_
    refine w_iconst 4 156 hX ic_4 dX3_endDay_156 ?_
    refine w_iconst (-1) 157 hX ic_m1 dX3_endDay_157 ?_
    refine w_iconst 0 158 hX ic_0 dX3_endDay_158 ?_
    obtain ⟨u5, gu5, h⟩ := o_bind h
    refine w_invVv (av := [.int 4, .int (-1), .int 0]) (st := []) 159 hX CI_3 s_32 rfl mv_yX3_note mi_yX3_note ml_X3_153 (CX3_note_32 4 (-1) 0 u3 gu5) rfl (by decide) (Nat.le_of_ble_eq_true rfl) (Nat.le_refl _) (Nat.le_refl _) dX3_endDay_159 ?_
    exact w_vret 162 hX hR dX3_endDay_162 (by cases h; rfl)
def FX3_endDay_32_b128 (k54 : Int32 → Mem → Option Mem) (l1 : Int32) (u : Mem) : Option Mem :=
  k54 (l1 + 1) u
theorem bX3_endDay_32_128 {G : Gt} {X : Xt} {u' : Mem} (hX : CxOk G X cX3_endDay 2 RX3 (none, (SHg G), (RHg G), u') 3) (hR : CxRet G X none (none, (SHg G), (RHg G), u')) {k54 : Int32 → Mem → Option Mem} (hk54 : ∀ (l1 : Int32) (u : Mem), k54 l1 u = some u' → WM G X 54 [(0, .ref 32), (1, .int l1)] [] (SHg G) (RHg G) u) (l1 : Int32) (u : Mem) (h : FX3_endDay_32_b128 k54 l1 u = some u') : WM G X 128 [(0, .ref 32), (1, .int l1)] [] (SHg G) (RHg G) u := by
  unfold FX3_endDay_32_b128 at h
  refine w_iinc (lv' := [(1, .int (l1 + 1)), (0, .ref 32)]) 128 1 hX dX3_endDay_128 rfl (inc_1 _) (by decide) rfl ?_
  refine w_goto (tgt := 54) 131 hX (by decide) dX3_endDay_131 ?_
  exact w_sub [1, 0] rfl (hk54 (l1 + 1) u h)
def FX3_endDay_32_b54 (k54 : Int32 → Mem → Option Mem) (l1 : Int32) (u : Mem) : Option Mem :=
  (if 12 ≤ l1 then (FX3_endDay_32_b134 u) else ((if (u 1 0) ≤ l1 then (FX3_endDay_32_b134 u) else ((rdA u 27 12 l1).bind fun x3 => (if x3 = 2 then ((rdA u 29 12 l1).bind fun x5 => (if ((u 23 7) - x5) < (u 1 9) then (FX3_endDay_32_b128 k54 l1 u) else ((wrA u 27 12 l1 0).bind fun u7 => (FX3_note_32 5 l1 0 u7).bind fun u9 => FX3_endDay_32_b128 k54 l1 u9))) else (FX3_endDay_32_b128 k54 l1 u))))))
theorem bX3_endDay_32_54 {G : Gt} {X : Xt} {u' : Mem} (hX : CxOk G X cX3_endDay 2 RX3 (none, (SHg G), (RHg G), u') 3) (hR : CxRet G X none (none, (SHg G), (RHg G), u')) {k54 : Int32 → Mem → Option Mem} (hk54 : ∀ (l1 : Int32) (u : Mem), k54 l1 u = some u' → WM G X 54 [(0, .ref 32), (1, .int l1)] [] (SHg G) (RHg G) u) (l1 : Int32) (u : Mem) (h : FX3_endDay_32_b54 k54 l1 u = some u') : WM G X 54 [(0, .ref 32), (1, .int l1)] [] (SHg G) (RHg G) u := by
  unfold FX3_endDay_32_b54 at h
  refine w_iload_n 1 54 hX rfl rfl dX3_endDay_54 ?_
  refine w_bipush 12 55 hX ib_12 dX3_endDay_55 ?_
  refine w_icmp_ge (tgt := 134) 57 hX dX3_endDay_57 (by decide) (fun c1 => ?_) (fun c1 => ?_)
  · have h := it h c1
    exact w_sub [0] rfl (bX3_endDay_32_134 hX hR u h)
  · have h := ie h c1
    refine w_iload_n 1 60 hX rfl rfl dX3_endDay_60 ?_
    refine w_aload_n 0 61 hX rfl rfl dX3_endDay_61 ?_
    refine w_getR 62 hX CI_3 s_32 rfl r_32_0 fl_X3_17 rfl dX3_endDay_62 ?_
    refine w_getI (j := 0) 65 hX CI_9 s_1 rfl fl_X3_123 rfl dX3_endDay_65 ?_
    refine w_icmp_ge (tgt := 134) 68 hX dX3_endDay_68 (by decide) (fun c2 => ?_) (fun c2 => ?_)
    · have h := it h c2
      exact w_sub [0] rfl (bX3_endDay_32_134 hX hR u h)
    · have h := ie h c2
      refine w_aload_n 0 71 hX rfl rfl dX3_endDay_71 ?_
      refine w_getR 72 hX CI_3 s_32 rfl r_32_1 fl_X3_21 rfl dX3_endDay_72 ?_
      refine w_getR 75 hX CI_0 s_23 rfl r_23_3 fl_X3_70 rfl dX3_endDay_75 ?_
      refine w_iload_n 1 78 hX rfl rfl dX3_endDay_78 ?_
      obtain ⟨x3, gx3, h⟩ := o_bind h
      refine w_iald 79 hX s_27 gx3 dX3_endDay_79 ?_
      refine w_iconst 2 80 hX ic_2 dX3_endDay_80 ?_
      refine w_icmp_ne (tgt := 128) 81 hX dX3_endDay_81 (by decide) (fun c4 => ?_) (fun c4 => ?_)
      · have h := ie h c4
        exact bX3_endDay_32_128 hX hR hk54 l1 u h
      · have h := it h c4
        refine w_aload_n 0 84 hX rfl rfl dX3_endDay_84 ?_
        refine w_getR 85 hX CI_3 s_32 rfl r_32_1 fl_X3_21 rfl dX3_endDay_85 ?_
        refine w_getI (j := 7) 88 hX CI_0 s_23 rfl fl_X3_52 rfl dX3_endDay_88 ?_
        refine w_aload_n 0 91 hX rfl rfl dX3_endDay_91 ?_
        refine w_getR 92 hX CI_3 s_32 rfl r_32_1 fl_X3_21 rfl dX3_endDay_92 ?_
        refine w_getR 95 hX CI_0 s_23 rfl r_23_5 fl_X3_192 rfl dX3_endDay_95 ?_
        refine w_iload_n 1 98 hX rfl rfl dX3_endDay_98 ?_
        obtain ⟨x5, gx5, h⟩ := o_bind h
        refine w_iald 99 hX s_29 gx5 dX3_endDay_99 ?_
        refine w_isub 100 hX dX3_endDay_100 ?_
        refine w_aload_n 0 101 hX rfl rfl dX3_endDay_101 ?_
        refine w_getR 102 hX CI_3 s_32 rfl r_32_0 fl_X3_17 rfl dX3_endDay_102 ?_
        refine w_getI (j := 9) 105 hX CI_9 s_1 rfl fl_X3_216 rfl dX3_endDay_105 ?_
        refine w_icmp_lt (tgt := 128) 108 hX dX3_endDay_108 (by decide) (fun c6 => ?_) (fun c6 => ?_)
        · have h := it h c6
          exact bX3_endDay_32_128 hX hR hk54 l1 u h
        · have h := ie h c6
          refine w_aload_n 0 111 hX rfl rfl dX3_endDay_111 ?_
          refine w_getR 112 hX CI_3 s_32 rfl r_32_1 fl_X3_21 rfl dX3_endDay_112 ?_
          refine w_getR 115 hX CI_0 s_23 rfl r_23_3 fl_X3_70 rfl dX3_endDay_115 ?_
          refine w_iload_n 1 118 hX rfl rfl dX3_endDay_118 ?_
          refine w_iconst 0 119 hX ic_0 dX3_endDay_119 ?_
          obtain ⟨u7, gu7, h⟩ := o_bind h
          refine w_iast 120 hX s_27 gu7 dX3_endDay_120 ?_
          refine w_aload_n 0 121 hX rfl rfl dX3_endDay_121 ?_
          refine w_iconst 5 122 hX ic_5 dX3_endDay_122 ?_
          refine w_iload_n 1 123 hX rfl rfl dX3_endDay_123 ?_
          refine w_iconst 0 124 hX ic_0 dX3_endDay_124 ?_
          obtain ⟨u9, gu9, h⟩ := o_bind h
          refine w_invVv (av := [.int 5, .int l1, .int 0]) (st := []) 125 hX CI_3 s_32 rfl mv_yX3_note mi_yX3_note ml_X3_153 (CX3_note_32 5 l1 0 u7 gu9) rfl (by decide) (Nat.le_of_ble_eq_true rfl) (Nat.le_refl _) (Nat.le_refl _) dX3_endDay_125 ?_
          exact bX3_endDay_32_128 hX hR hk54 l1 u9 h
def FX3_endDay_32_L54 : Nat → Int32 → Mem → Option Mem
  | 0, _, _ => none
  | n + 1, l1, u => FX3_endDay_32_b54 (FX3_endDay_32_L54 n) l1 u
theorem lX3_endDay_32_54 {G : Gt} {X : Xt} {u' : Mem} (hX : CxOk G X cX3_endDay 2 RX3 (none, (SHg G), (RHg G), u') 3) (hR : CxRet G X none (none, (SHg G), (RHg G), u')) : ∀ (n : Nat) (l1 : Int32) (u : Mem), FX3_endDay_32_L54 n l1 u = some u' → WM G X 54 [(0, .ref 32), (1, .int l1)] [] (SHg G) (RHg G) u := by
  intro n
  induction n with
  | zero =>
    intro l1 u h
    exact nn_ h
  | succ n ih =>
    intro l1 u h
    exact bX3_endDay_32_54 hX hR ih l1 u h
def FX3_endDay_32_b52 (u : Mem) : Option Mem :=
  FX3_endDay_32_L54 FU 0 u
theorem bX3_endDay_32_52 {G : Gt} {X : Xt} {u' : Mem} (hX : CxOk G X cX3_endDay 2 RX3 (none, (SHg G), (RHg G), u') 3) (hR : CxRet G X none (none, (SHg G), (RHg G), u')) (u : Mem) (h : FX3_endDay_32_b52 u = some u') : WM G X 52 [(0, .ref 32)] [] (SHg G) (RHg G) u := by
  unfold FX3_endDay_32_b52 at h
  refine w_iconst 0 52 hX ic_0 dX3_endDay_52 ?_
  refine w_istore_n (lv' := [(1, .int 0), (0, .ref 32)]) 53 hX rfl dX3_endDay_53 (by decide) rfl ?_
  exact w_sub [1, 0] rfl (lX3_endDay_32_54 hX hR FU 0 u h)
def FX3_endDay_32_b44 (u : Mem) : Option Mem :=
  (some (mupd u 23 6 0)).bind fun u1 => FX3_endDay_32_b52 u1
theorem bX3_endDay_32_44 {G : Gt} {X : Xt} {u' : Mem} (hX : CxOk G X cX3_endDay 2 RX3 (none, (SHg G), (RHg G), u') 3) (hR : CxRet G X none (none, (SHg G), (RHg G), u')) (u : Mem) (h : FX3_endDay_32_b44 u = some u') : WM G X 44 [(0, .ref 32)] [] (SHg G) (RHg G) u := by
  unfold FX3_endDay_32_b44 at h
  refine w_aload_n 0 44 hX rfl rfl dX3_endDay_44 ?_
  refine w_getR 45 hX CI_3 s_32 rfl r_32_1 fl_X3_21 rfl dX3_endDay_45 ?_
  refine w_iconst 0 48 hX ic_0 dX3_endDay_48 ?_
  obtain ⟨u1, gu1, h⟩ := o_bind h
  refine w_putI (j := 6) 49 hX CI_0 s_23 rfl fl_X3_33 rfl rfl rfl rfl dX3_endDay_49 ?_
  rw [Option.some.inj gu1]
  exact bX3_endDay_32_52 hX hR u1 h
def FX3_endDay_32 (u : Mem) : Option Mem :=
  (FX3_known_32 0 u).bind fun x1 => (FX9_weightOf_1 x1 u).bind fun x2 => (if x2 < (u 1 7) then (FX3_endDay_32_b44 u) else ((FX3_known_32 1 u).bind fun x4 => (FX9_weightOf_1 x4 u).bind fun x5 => (if (u 1 7) ≤ x5 then (FX3_endDay_32_b52 u) else (FX3_endDay_32_b44 u))))
theorem CX3_endDay_32 {G : Gt} (u : Mem) {u' : Mem} (h : FX3_endDay_32 u = some u') : CT G yX3_endDay cX3_endDay 2 none 3 [.ref 32] (SHg G) (RHg G) u (none, (SHg G), (RHg G), u') :=
  ct_of (by decide) rfl (Nat.le_of_ble_eq_true rfl) (Nat.le_refl _) (Nat.le_refl _) (fun X hX hR => by
  unfold FX3_endDay_32 at h
  refine w_aload_n 0 0 hX rfl rfl dX3_endDay_0 ?_
  refine w_getR 1 hX CI_3 s_32 rfl r_32_0 fl_X3_17 rfl dX3_endDay_1 ?_
  refine w_aload_n 0 4 hX rfl rfl dX3_endDay_4 ?_
  refine w_iconst 0 5 hX ic_0 dX3_endDay_5 ?_
  obtain ⟨x1, gx1, h⟩ := o_bind h
  refine w_invVi (av := [.int 0]) (st := [.ref 1]) 6 hX CI_3 s_32 rfl mv_yX3_known mi_yX3_known ml_X3_207 (CX3_known_32 0 u gx1) rfl (by decide) (Nat.le_of_ble_eq_true rfl) (Nat.le_refl _) (Nat.le_refl _) dX3_endDay_6 ?_
  obtain ⟨x2, gx2, h⟩ := o_bind h
  refine w_invVi (av := [.int x1]) (st := []) 9 hX CI_9 s_1 rfl mv_yX9_weightOf mi_yX9_weightOf ml_X3_210 (CX9_weightOf_1 x1 u gx2) rfl (by decide) (Nat.le_of_ble_eq_true rfl) (Nat.le_refl _) (Nat.le_refl _) dX3_endDay_9 ?_
  refine w_aload_n 0 12 hX rfl rfl dX3_endDay_12 ?_
  refine w_getR 13 hX CI_3 s_32 rfl r_32_0 fl_X3_17 rfl dX3_endDay_13 ?_
  refine w_getI (j := 7) 16 hX CI_9 s_1 rfl fl_X3_213 rfl dX3_endDay_16 ?_
  refine w_icmp_lt (tgt := 44) 19 hX dX3_endDay_19 (by decide) (fun c3 => ?_) (fun c3 => ?_)
  · have h := it h c3
    exact bX3_endDay_32_44 hX hR u h
  · have h := ie h c3
    refine w_aload_n 0 22 hX rfl rfl dX3_endDay_22 ?_
    refine w_getR 23 hX CI_3 s_32 rfl r_32_0 fl_X3_17 rfl dX3_endDay_23 ?_
    refine w_aload_n 0 26 hX rfl rfl dX3_endDay_26 ?_
    refine w_iconst 1 27 hX ic_1 dX3_endDay_27 ?_
    obtain ⟨x4, gx4, h⟩ := o_bind h
    refine w_invVi (av := [.int 1]) (st := [.ref 1]) 28 hX CI_3 s_32 rfl mv_yX3_known mi_yX3_known ml_X3_207 (CX3_known_32 1 u gx4) rfl (by decide) (Nat.le_of_ble_eq_true rfl) (Nat.le_refl _) (Nat.le_refl _) dX3_endDay_28 ?_
    obtain ⟨x5, gx5, h⟩ := o_bind h
    refine w_invVi (av := [.int x4]) (st := []) 31 hX CI_9 s_1 rfl mv_yX9_weightOf mi_yX9_weightOf ml_X3_210 (CX9_weightOf_1 x4 u gx5) rfl (by decide) (Nat.le_of_ble_eq_true rfl) (Nat.le_refl _) (Nat.le_refl _) dX3_endDay_31 ?_
    refine w_aload_n 0 34 hX rfl rfl dX3_endDay_34 ?_
    refine w_getR 35 hX CI_3 s_32 rfl r_32_0 fl_X3_17 rfl dX3_endDay_35 ?_
    refine w_getI (j := 7) 38 hX CI_9 s_1 rfl fl_X3_213 rfl dX3_endDay_38 ?_
    refine w_icmp_ge (tgt := 52) 41 hX dX3_endDay_41 (by decide) (fun c6 => ?_) (fun c6 => ?_)
    · have h := it h c6
      exact bX3_endDay_32_52 hX hR u h
    · have h := ie h c6
      exact bX3_endDay_32_44 hX hR u h)
def FX3_pass_32_b79 (u : Mem) : Option Mem :=
  (some (mupd u 23 7 ((u 23 7) + 1))).bind fun u1 => some u1
theorem bX3_pass_32_79 {G : Gt} {X : Xt} {u' : Mem} (hX : CxOk G X cX3_pass 2 RX3 (none, (SHg G), (RHg G), u') 5) (hR : CxRet G X none (none, (SHg G), (RHg G), u')) (u : Mem) (h : FX3_pass_32_b79 u = some u') : WM G X 79 [(0, .ref 32)] [] (SHg G) (RHg G) u := by
  unfold FX3_pass_32_b79 at h
  refine w_aload_n 0 79 hX rfl rfl dX3_pass_79 ?_
  refine w_getR 80 hX CI_3 s_32 rfl r_32_1 fl_X3_21 rfl dX3_pass_80 ?_
  refine w_dup 83 hX rfl dX3_pass_83 ?_
  refine w_getI (j := 7) 84 hX CI_0 s_23 rfl fl_X3_52 rfl dX3_pass_84 ?_
  refine w_iconst 1 87 hX ic_1 dX3_pass_87 ?_
  refine w_iadd 88 hX dX3_pass_88 ?_
  obtain ⟨u1, gu1, h⟩ := o_bind h
  refine w_putI (j := 7) 89 hX CI_0 s_23 rfl fl_X3_52 rfl rfl rfl rfl dX3_pass_89 ?_
  rw [Option.some.inj gu1]
  exact w_vret 92 hX hR dX3_pass_92 (by cases h; rfl)
def FX3_pass_32_b71 (l1 : Int32) (u : Mem) : Option Mem :=
  (if l1 = 0 then (FX3_pass_32_b79 u) else ((FX3_endDay_32 u).bind fun u3 => FX3_pass_32_b79 u3))
theorem bX3_pass_32_71 {G : Gt} {X : Xt} {u' : Mem} (hX : CxOk G X cX3_pass 2 RX3 (none, (SHg G), (RHg G), u') 5) (hR : CxRet G X none (none, (SHg G), (RHg G), u')) (l1 : Int32) (u : Mem) (h : FX3_pass_32_b71 l1 u = some u') : WM G X 71 [(0, .ref 32), (1, .int l1)] [] (SHg G) (RHg G) u := by
  unfold FX3_pass_32_b71 at h
  refine w_iload_n 1 71 hX rfl rfl dX3_pass_71 ?_
  refine w_if_eq (tgt := 79) 72 hX dX3_pass_72 (by decide) (fun c1 => ?_) (fun c1 => ?_)
  · have h := it h c1
    exact w_sub [0] rfl (bX3_pass_32_79 hX hR u h)
  · have h := ie h c1
    refine w_aload_n 0 75 hX rfl rfl dX3_pass_75 ?_
    obtain ⟨u3, gu3, h⟩ := o_bind h
    refine w_invVv (av := []) (st := []) 76 hX CI_3 s_32 rfl mv_yX3_endDay mi_yX3_endDay ml_X3_61 (CX3_endDay_32 u gu3) rfl (by decide) (Nat.le_of_ble_eq_true rfl) (Nat.le_refl _) (Nat.le_refl _) dX3_pass_76 ?_
    exact w_sub [0] rfl (bX3_pass_32_79 hX hR u3 h)
def FX3_pass_32_b60 (l1 : Int32) (u : Mem) : Option Mem :=
  (if (u 32 3) = 0 then (FX3_pass_32_b71 l1 u) else ((FX3_fade_32 u).bind fun u3 => FX3_pass_32_b71 l1 u3))
theorem bX3_pass_32_60 {G : Gt} {X : Xt} {u' : Mem} (hX : CxOk G X cX3_pass 2 RX3 (none, (SHg G), (RHg G), u') 5) (hR : CxRet G X none (none, (SHg G), (RHg G), u')) (l1 : Int32) (u : Mem) (h : FX3_pass_32_b60 l1 u = some u') : WM G X 60 [(0, .ref 32), (1, .int l1)] [] (SHg G) (RHg G) u := by
  unfold FX3_pass_32_b60 at h
  refine w_aload_n 0 60 hX rfl rfl dX3_pass_60 ?_
  refine w_getI (j := 3) 61 hX CI_3 s_32 rfl fl_X3_29 rfl dX3_pass_61 ?_
  refine w_if_eq (tgt := 71) 64 hX dX3_pass_64 (by decide) (fun c1 => ?_) (fun c1 => ?_)
  · have h := it h c1
    exact bX3_pass_32_71 hX hR l1 u h
  · have h := ie h c1
    refine w_aload_n 0 67 hX rfl rfl dX3_pass_67 ?_
    obtain ⟨u3, gu3, h⟩ := o_bind h
    refine w_invVv (av := []) (st := []) 68 hX CI_3 s_32 rfl mv_yX3_fade mi_yX3_fade ml_X3_58 (CX3_fade_32 u gu3) rfl (by decide) (Nat.le_of_ble_eq_true rfl) (Nat.le_refl _) (Nat.le_refl _) dX3_pass_68 ?_
    exact bX3_pass_32_71 hX hR l1 u3 h
def FX3_pass_32_b43 (l1 : Int32) (u : Mem) : Option Mem :=
  (rmI (u 23 7) 7).bind fun x1 => (if x1 = 0 then ((FX3_tellOn_32 u).bind fun u4 => FX3_pass_32_b60 l1 u4) else (FX3_pass_32_b60 l1 u))
theorem bX3_pass_32_43 {G : Gt} {X : Xt} {u' : Mem} (hX : CxOk G X cX3_pass 2 RX3 (none, (SHg G), (RHg G), u') 5) (hR : CxRet G X none (none, (SHg G), (RHg G), u')) (l1 : Int32) (u : Mem) (h : FX3_pass_32_b43 l1 u = some u') : WM G X 43 [(0, .ref 32), (1, .int l1)] [] (SHg G) (RHg G) u := by
  unfold FX3_pass_32_b43 at h
  refine w_aload_n 0 43 hX rfl rfl dX3_pass_43 ?_
  refine w_getR 44 hX CI_3 s_32 rfl r_32_1 fl_X3_21 rfl dX3_pass_44 ?_
  refine w_getI (j := 7) 47 hX CI_0 s_23 rfl fl_X3_52 rfl dX3_pass_47 ?_
  refine w_bipush 7 50 hX ib_7 dX3_pass_50 ?_
  obtain ⟨x1, gx1, h⟩ := o_bind h
  obtain ⟨qx1, jx1⟩ := rmI_ok gx1
  refine w_irem 52 hX qx1 dX3_pass_52 ?_
  rw [jx1]
  refine w_if_ne (tgt := 60) 53 hX dX3_pass_53 (by decide) (fun c2 => ?_) (fun c2 => ?_)
  · have h := ie h c2
    exact bX3_pass_32_60 hX hR l1 u h
  · have h := it h c2
    refine w_aload_n 0 56 hX rfl rfl dX3_pass_56 ?_
    obtain ⟨u4, gu4, h⟩ := o_bind h
    refine w_invVv (av := []) (st := []) 57 hX CI_3 s_32 rfl mv_yX3_tellOn mi_yX3_tellOn ml_X3_55 (CX3_tellOn_32 u gu4) rfl (by decide) (Nat.le_of_ble_eq_true rfl) (Nat.le_refl _) (Nat.le_refl _) dX3_pass_57 ?_
    exact bX3_pass_32_60 hX hR l1 u4 h
def FX3_pass_32_b16 (t0 : Int32) (u : Mem) : Option Mem :=
  (if t0 = 0 then (FX3_pass_32_b43 t0 u) else ((FX3_callUp_32 0 u).bind fun u3 => (FX3_callUp_32 1 u3).bind fun u5 => (FX3_goOn_32 u5).bind fun u7 => (FX3_fight_32 u7).bind fun u9 => (FX3_arrive_32 u9).bind fun u11 => FX3_pass_32_b43 t0 u11))
theorem bX3_pass_32_16 {G : Gt} {X : Xt} {u' : Mem} (hX : CxOk G X cX3_pass 2 RX3 (none, (SHg G), (RHg G), u') 5) (hR : CxRet G X none (none, (SHg G), (RHg G), u')) (t0 : Int32) (u : Mem) (h : FX3_pass_32_b16 t0 u = some u') : WM G X 16 [(0, .ref 32)] [.int t0] (SHg G) (RHg G) u := by
  unfold FX3_pass_32_b16 at h
  refine w_istore_n (lv' := [(1, .int t0), (0, .ref 32)]) 16 hX rfl dX3_pass_16 (by decide) rfl ?_
  refine w_iload_n 0 17 hX rfl rfl dX3_pass_17 ?_
  refine w_if_eq (tgt := 43) 18 hX dX3_pass_18 (by decide) (fun c1 => ?_) (fun c1 => ?_)
  · have h := it h c1
    exact w_sub [1, 0] rfl (bX3_pass_32_43 hX hR t0 u h)
  · have h := ie h c1
    refine w_aload_n 1 21 hX rfl rfl dX3_pass_21 ?_
    refine w_iconst 0 22 hX ic_0 dX3_pass_22 ?_
    obtain ⟨u3, gu3, h⟩ := o_bind h
    refine w_invVv (av := [.int 0]) (st := []) 23 hX CI_3 s_32 rfl mv_yX3_callUp mi_yX3_callUp ml_X3_39 (CX3_callUp_32 0 u gu3) rfl (by decide) (Nat.le_of_ble_eq_true rfl) (Nat.le_refl _) (Nat.le_refl _) dX3_pass_23 ?_
    refine w_aload_n 1 26 hX rfl rfl dX3_pass_26 ?_
    refine w_iconst 1 27 hX ic_1 dX3_pass_27 ?_
    obtain ⟨u5, gu5, h⟩ := o_bind h
    refine w_invVv (av := [.int 1]) (st := []) 28 hX CI_3 s_32 rfl mv_yX3_callUp mi_yX3_callUp ml_X3_39 (CX3_callUp_32 1 u3 gu5) rfl (by decide) (Nat.le_of_ble_eq_true rfl) (Nat.le_refl _) (Nat.le_refl _) dX3_pass_28 ?_
    refine w_aload_n 1 31 hX rfl rfl dX3_pass_31 ?_
    obtain ⟨u7, gu7, h⟩ := o_bind h
    refine w_invVv (av := []) (st := []) 32 hX CI_3 s_32 rfl mv_yX3_goOn mi_yX3_goOn ml_X3_43 (CX3_goOn_32 u5 gu7) rfl (by decide) (Nat.le_of_ble_eq_true rfl) (Nat.le_refl _) (Nat.le_refl _) dX3_pass_32 ?_
    refine w_aload_n 1 35 hX rfl rfl dX3_pass_35 ?_
    obtain ⟨u9, gu9, h⟩ := o_bind h
    refine w_invVv (av := []) (st := []) 36 hX CI_3 s_32 rfl mv_yX3_fight mi_yX3_fight ml_X3_46 (CX3_fight_32 u7 gu9) rfl (by decide) (Nat.le_of_ble_eq_true rfl) (Nat.le_refl _) (Nat.le_refl _) dX3_pass_36 ?_
    refine w_aload_n 1 39 hX rfl rfl dX3_pass_39 ?_
    obtain ⟨u11, gu11, h⟩ := o_bind h
    refine w_invVv (av := []) (st := []) 40 hX CI_3 s_32 rfl mv_yX3_arrive mi_yX3_arrive ml_X3_49 (CX3_arrive_32 u9 gu11) rfl (by decide) (Nat.le_of_ble_eq_true rfl) (Nat.le_refl _) (Nat.le_refl _) dX3_pass_40 ?_
    exact w_sub [1, 0] rfl (bX3_pass_32_43 hX hR t0 u11 h)
def FX3_pass_32 (u : Mem) : Option Mem :=
  (if (u 23 6) = 1 then (FX3_pass_32_b16 1 u) else (FX3_pass_32_b16 0 u))
theorem CX3_pass_32 {G : Gt} (u : Mem) {u' : Mem} (h : FX3_pass_32 u = some u') : CT G yX3_pass cX3_pass 2 none 5 [.ref 32] (SHg G) (RHg G) u (none, (SHg G), (RHg G), u') :=
  ct_of (by decide) rfl (Nat.le_of_ble_eq_true rfl) (Nat.le_refl _) (Nat.le_refl _) (fun X hX hR => by
  unfold FX3_pass_32 at h
  refine w_aload_n 0 0 hX rfl rfl dX3_pass_0 ?_
  refine w_getR 1 hX CI_3 s_32 rfl r_32_1 fl_X3_21 rfl dX3_pass_1 ?_
  refine w_getI (j := 6) 4 hX CI_0 s_23 rfl fl_X3_33 rfl dX3_pass_4 ?_
  refine w_iconst 1 7 hX ic_1 dX3_pass_7 ?_
  refine w_icmp_ne (tgt := 15) 8 hX dX3_pass_8 (by decide) (fun c1 => ?_) (fun c1 => ?_)
  · have h := ie h c1
    refine w_iconst 0 15 hX ic_0 dX3_pass_15 ?_
    exact bX3_pass_32_16 hX hR 0 u h
  · have h := it h c1
    refine w_iconst 1 11 hX ic_1 dX3_pass_11 ?_
    refine w_goto (tgt := 16) 12 hX (by decide) dX3_pass_12 ?_
    exact bX3_pass_32_16 hX hR 1 u h)
def FX11_days_0_b32 (k32 : Int32 → Int32 → Int32 → Mem → Option (Int32 × Mem)) (l1 l2 l3 : Int32) (u : Mem) : Option (Int32 × Mem) :=
  (if l1 ≤ l3 then (some (l2, u)) else ((FX10_remember_52_23 u).bind fun u3 => (FX3_pass_32 u3).bind fun u5 => k32 l1 (l2 + (u3 23 6)) (l3 + 1) u5))
theorem bX11_days_0_32 {G : Gt} {X : Xt} {v : Int32} {u' : Mem} (hX : CxOk G X cX11_days 4 RX11 (some (.int v), (SHg G), (RHg G), u') 6) (hR : CxRet G X (some .int) (some (.int v), (SHg G), (RHg G), u')) {k32 : Int32 → Int32 → Int32 → Mem → Option (Int32 × Mem)} (hk32 : ∀ (l1 l2 l3 : Int32) (u : Mem), k32 l1 l2 l3 u = some (v, u') → WM G X 32 [(0, .ref 0), (1, .int l1), (2, .int l2), (3, .int l3)] [] (SHg G) (RHg G) u) (l1 l2 l3 : Int32) (u : Mem) (h : FX11_days_0_b32 k32 l1 l2 l3 u = some (v, u')) : WM G X 32 [(0, .ref 0), (1, .int l1), (2, .int l2), (3, .int l3)] [] (SHg G) (RHg G) u := by
  unfold FX11_days_0_b32 at h
  refine w_iload_n 3 32 hX rfl rfl dX11_days_32 ?_
  refine w_iload_n 1 33 hX rfl rfl dX11_days_33 ?_
  refine w_icmp_ge (tgt := 71) 34 hX dX11_days_34 (by decide) (fun c1 => ?_) (fun c1 => ?_)
  · have h := it h c1
    refine w_iload_n 2 71 hX rfl rfl dX11_days_71 ?_
    exact w_iret 72 hX hR dX11_days_72 (by cases h; rfl)
  · have h := ie h c1
    refine w_aload_n 0 37 hX rfl rfl dX11_days_37 ?_
    refine w_getR 38 hX CI_11 s_0 rfl r_0_5 fl_X11_49 rfl dX11_days_38 ?_
    refine w_aload_n 0 41 hX rfl rfl dX11_days_41 ?_
    refine w_getR 42 hX CI_11 s_0 rfl r_0_1 fl_X11_19 rfl dX11_days_42 ?_
    obtain ⟨u3, gu3, h⟩ := o_bind h
    refine w_invVv (av := [.ref 23]) (st := []) 45 hX CI_10 s_52 rfl mv_yX10_remember mi_yX10_remember ml_X11_135 (CX10_remember_52_23 u gu3) rfl (by decide) (Nat.le_of_ble_eq_true rfl) (Nat.le_refl _) (Nat.le_refl _) dX11_days_45 ?_
    refine w_iload_n 2 48 hX rfl rfl dX11_days_48 ?_
    refine w_aload_n 0 49 hX rfl rfl dX11_days_49 ?_
    refine w_getR 50 hX CI_11 s_0 rfl r_0_1 fl_X11_19 rfl dX11_days_50 ?_
    refine w_getI (j := 6) 53 hX CI_0 s_23 rfl fl_X11_156 rfl dX11_days_53 ?_
    refine w_iadd 56 hX dX11_days_56 ?_
    refine w_istore_n (lv' := [(2, .int (l2 + (u3 23 6))), (0, .ref 0), (1, .int l1), (3, .int l3)]) 57 hX rfl dX11_days_57 (by decide) rfl ?_
    refine w_aload_n 1 58 hX rfl rfl dX11_days_58 ?_
    refine w_getR 59 hX CI_11 s_0 rfl r_0_3 fl_X11_35 rfl dX11_days_59 ?_
    obtain ⟨u5, gu5, h⟩ := o_bind h
    refine w_invVv (av := []) (st := []) 62 hX CI_3 s_32 rfl mv_yX3_pass mi_yX3_pass ml_X11_159 (CX3_pass_32 u3 gu5) rfl (by decide) (Nat.le_of_ble_eq_true rfl) (Nat.le_refl _) (Nat.le_refl _) dX11_days_62 ?_
    refine w_iinc (lv' := [(3, .int (l3 + 1)), (2, .int (l2 + (u3 23 6))), (0, .ref 0), (1, .int l1)]) 65 3 hX dX11_days_65 rfl (inc_1 _) (by decide) rfl ?_
    refine w_goto (tgt := 32) 68 hX (by decide) dX11_days_68 ?_
    exact w_sub [2, 3, 1, 0] rfl (hk32 l1 (l2 + (u3 23 6)) (l3 + 1) u5 h)
def FX11_days_0_L32 : Nat → Int32 → Int32 → Int32 → Mem → Option (Int32 × Mem)
  | 0, _, _, _, _ => none
  | n + 1, l1, l2, l3, u => FX11_days_0_b32 (FX11_days_0_L32 n) l1 l2 l3 u
theorem lX11_days_0_32 {G : Gt} {X : Xt} {v : Int32} {u' : Mem} (hX : CxOk G X cX11_days 4 RX11 (some (.int v), (SHg G), (RHg G), u') 6) (hR : CxRet G X (some .int) (some (.int v), (SHg G), (RHg G), u')) : ∀ (n : Nat) (l1 l2 l3 : Int32) (u : Mem), FX11_days_0_L32 n l1 l2 l3 u = some (v, u') → WM G X 32 [(0, .ref 0), (1, .int l1), (2, .int l2), (3, .int l3)] [] (SHg G) (RHg G) u := by
  intro n
  induction n with
  | zero =>
    intro l1 l2 l3 u h
    exact nn_ h
  | succ n ih =>
    intro l1 l2 l3 u h
    exact bX11_days_0_32 hX hR ih l1 l2 l3 u h
def FX11_days_0 (p1 : Int32) (u : Mem) : Option (Int32 × Mem) :=
  (if p1 < 1 then (some ((-1), u)) else ((if 60 < p1 then (some ((-1), u)) else ((if ((u 23 7) + p1) ≤ 9999 then (FX11_days_0_L32 FU p1 0 0 u) else (some ((-1), u)))))))
theorem CX11_days_0 {G : Gt} (p1 : Int32) (u : Mem) {v : Int32} {u' : Mem} (h : FX11_days_0 p1 u = some (v, u')) : CT G yX11_days cX11_days 4 (some .int) 6 [.ref 0, .int p1] (SHg G) (RHg G) u (some (.int v), (SHg G), (RHg G), u') :=
  ct_of (by decide) rfl (Nat.le_of_ble_eq_true rfl) (Nat.le_refl _) (Nat.le_refl _) (fun X hX hR => by
  unfold FX11_days_0 at h
  refine w_iload_n 1 0 hX rfl rfl dX11_days_0 ?_
  refine w_iconst 1 1 hX ic_1 dX11_days_1 ?_
  refine w_icmp_lt (tgt := 26) 2 hX dX11_days_2 (by decide) (fun c1 => ?_) (fun c1 => ?_)
  · have h := it h c1
    refine w_iconst (-1) 26 hX ic_m1 dX11_days_26 ?_
    exact w_iret 27 hX hR dX11_days_27 (by cases h; rfl)
  · have h := ie h c1
    refine w_iload_n 1 5 hX rfl rfl dX11_days_5 ?_
    refine w_bipush 60 6 hX ib_60 dX11_days_6 ?_
    refine w_icmp_gt (tgt := 26) 8 hX dX11_days_8 (by decide) (fun c2 => ?_) (fun c2 => ?_)
    · have h := it h c2
      refine w_iconst (-1) 26 hX ic_m1 dX11_days_26 ?_
      exact w_iret 27 hX hR dX11_days_27 (by cases h; rfl)
    · have h := ie h c2
      refine w_aload_n 0 11 hX rfl rfl dX11_days_11 ?_
      refine w_getR 12 hX CI_11 s_0 rfl r_0_1 fl_X11_19 rfl dX11_days_12 ?_
      refine w_getI (j := 7) 15 hX CI_0 s_23 rfl fl_X11_153 rfl dX11_days_15 ?_
      refine w_iload_n 1 18 hX rfl rfl dX11_days_18 ?_
      refine w_iadd 19 hX dX11_days_19 ?_
      refine w_sipush 9999 20 hX isp_9999 dX11_days_20 ?_
      refine w_icmp_le (tgt := 28) 23 hX dX11_days_23 (by decide) (fun c3 => ?_) (fun c3 => ?_)
      · have h := it h c3
        refine w_iconst 0 28 hX ic_0 dX11_days_28 ?_
        refine w_istore_n (lv' := [(2, .int 0), (0, .ref 0), (1, .int p1)]) 29 hX rfl dX11_days_29 (by decide) rfl ?_
        refine w_iconst 0 30 hX ic_0 dX11_days_30 ?_
        refine w_istore_n (lv' := [(3, .int 0), (2, .int 0), (0, .ref 0), (1, .int p1)]) 31 hX rfl dX11_days_31 (by decide) rfl ?_
        exact w_sub [2, 3, 1, 0] rfl (lX11_days_0_32 hX hR FU p1 0 0 u h)
      · have h := ie h c3
        refine w_iconst (-1) 26 hX ic_m1 dX11_days_26 ?_
        exact w_iret 27 hX hR dX11_days_27 (by cases h; rfl))
def FX6_hasRoom_34 (u : Mem) : Option Int32 :=
  (if (u 34 12) < 0 then (some 0) else ((if 400 < ((u 34 12) + 20) then (some 0) else (some 1))))
theorem CX6_hasRoom_34 {G : Gt} (u : Mem) {v : Int32} (h : FX6_hasRoom_34 u = some v) : CT G yX6_hasRoom cX6_hasRoom 1 (some .boolean) 1 [.ref 34] (SHg G) (RHg G) u (some (.int v), (SHg G), (RHg G), u) :=
  ct_of (by decide) rfl (Nat.le_of_ble_eq_true rfl) (Nat.le_refl _) (Nat.le_refl _) (fun X hX hR => by
  unfold FX6_hasRoom_34 at h
  refine w_aload_n 0 0 hX rfl rfl dX6_hasRoom_0 ?_
  refine w_getI (j := 12) 1 hX CI_6 s_34 rfl fl_X6_48 rfl dX6_hasRoom_1 ?_
  refine w_if_lt (tgt := 24) 4 hX dX6_hasRoom_4 (by decide) (fun c1 => ?_) (fun c1 => ?_)
  · have h := it h c1
    refine w_iconst 0 24 hX ic_0 dX6_hasRoom_24 ?_
    exact w_zret 25 hX hR (by decide) dX6_hasRoom_25 (by cases h; rfl)
  · have h := ie h c1
    refine w_aload_n 0 7 hX rfl rfl dX6_hasRoom_7 ?_
    refine w_getI (j := 12) 8 hX CI_6 s_34 rfl fl_X6_48 rfl dX6_hasRoom_8 ?_
    refine w_bipush 20 11 hX ib_20 dX6_hasRoom_11 ?_
    refine w_iadd 13 hX dX6_hasRoom_13 ?_
    refine w_sipush 400 14 hX isp_400 dX6_hasRoom_14 ?_
    refine w_icmp_gt (tgt := 24) 17 hX dX6_hasRoom_17 (by decide) (fun c2 => ?_) (fun c2 => ?_)
    · have h := it h c2
      refine w_iconst 0 24 hX ic_0 dX6_hasRoom_24 ?_
      exact w_zret 25 hX hR (by decide) dX6_hasRoom_25 (by cases h; rfl)
    · have h := ie h c2
      refine w_iconst 1 20 hX ic_1 dX6_hasRoom_20 ?_
      refine w_goto (tgt := 25) 21 hX (by decide) dX6_hasRoom_21 ?_
      exact w_zret 25 hX hR (by decide) dX6_hasRoom_25 (by cases h; rfl))
def FX6_add_34_b50 (k3 : Int32 → Int32 → Mem → Option Mem) (l1 l2 : Int32) (u : Mem) : Option Mem :=
  k3 l1 (l2 + (-8)) u
theorem bX6_add_34_50 {G : Gt} {X : Xt} {u' : Mem} (hX : CxOk G X cX6_add 3 RX6 (none, (SHg G), (RHg G), u') 1) (hR : CxRet G X none (none, (SHg G), (RHg G), u')) {k3 : Int32 → Int32 → Mem → Option Mem} (hk3 : ∀ (l1 l2 : Int32) (u : Mem), k3 l1 l2 u = some u' → WM G X 3 [(0, .ref 34), (1, .int l1), (2, .int l2)] [] (SHg G) (RHg G) u) (l1 l2 : Int32) (u : Mem) (h : FX6_add_34_b50 k3 l1 l2 u = some u') : WM G X 50 [(0, .ref 34), (1, .int l1), (2, .int l2)] [] (SHg G) (RHg G) u := by
  unfold FX6_add_34_b50 at h
  refine w_iinc (lv' := [(2, .int (l2 + (-8))), (0, .ref 34), (1, .int l1)]) 50 2 hX dX6_add_50 rfl (inc_m8 _) (by decide) rfl ?_
  refine w_goto (tgt := 3) 53 hX (by decide) dX6_add_53 ?_
  exact w_sub [1, 2, 0] rfl (hk3 l1 (l2 + (-8)) u h)
def FX6_add_34_b3 (k3 : Int32 → Int32 → Mem → Option Mem) (l1 l2 : Int32) (u : Mem) : Option Mem :=
  (if l2 < 0 then (some u) else ((if (u 34 12) < 0 then (FX6_add_34_b50 k3 l1 l2 u) else ((if 400 ≤ (u 34 12) then (FX6_add_34_b50 k3 l1 l2 u) else ((wrA u 35 400 (u 34 12) ((((l1 : Int32).toUInt32 >>> ((l2 : Int32).toUInt32 &&& Int32.toUInt32 31)).toInt32) &&& 255)).bind fun u4 => (some (mupd u4 34 12 ((u4 34 12) + 1))).bind fun u5 => FX6_add_34_b50 k3 l1 l2 u5))))))
theorem bX6_add_34_3 {G : Gt} {X : Xt} {u' : Mem} (hX : CxOk G X cX6_add 3 RX6 (none, (SHg G), (RHg G), u') 1) (hR : CxRet G X none (none, (SHg G), (RHg G), u')) {k3 : Int32 → Int32 → Mem → Option Mem} (hk3 : ∀ (l1 l2 : Int32) (u : Mem), k3 l1 l2 u = some u' → WM G X 3 [(0, .ref 34), (1, .int l1), (2, .int l2)] [] (SHg G) (RHg G) u) (l1 l2 : Int32) (u : Mem) (h : FX6_add_34_b3 k3 l1 l2 u = some u') : WM G X 3 [(0, .ref 34), (1, .int l1), (2, .int l2)] [] (SHg G) (RHg G) u := by
  unfold FX6_add_34_b3 at h
  refine w_iload_n 2 3 hX rfl rfl dX6_add_3 ?_
  refine w_if_lt (tgt := 56) 4 hX dX6_add_4 (by decide) (fun c1 => ?_) (fun c1 => ?_)
  · have h := it h c1
    exact w_vret 56 hX hR dX6_add_56 (by cases h; rfl)
  · have h := ie h c1
    refine w_aload_n 0 7 hX rfl rfl dX6_add_7 ?_
    refine w_getI (j := 12) 8 hX CI_6 s_34 rfl fl_X6_48 rfl dX6_add_8 ?_
    refine w_if_lt (tgt := 50) 11 hX dX6_add_11 (by decide) (fun c2 => ?_) (fun c2 => ?_)
    · have h := it h c2
      exact bX6_add_34_50 hX hR hk3 l1 l2 u h
    · have h := ie h c2
      refine w_aload_n 0 14 hX rfl rfl dX6_add_14 ?_
      refine w_getI (j := 12) 15 hX CI_6 s_34 rfl fl_X6_48 rfl dX6_add_15 ?_
      refine w_sipush 400 18 hX isp_400 dX6_add_18 ?_
      refine w_icmp_ge (tgt := 50) 21 hX dX6_add_21 (by decide) (fun c3 => ?_) (fun c3 => ?_)
      · have h := it h c3
        exact bX6_add_34_50 hX hR hk3 l1 l2 u h
      · have h := ie h c3
        refine w_aload_n 0 24 hX rfl rfl dX6_add_24 ?_
        refine w_getR 25 hX CI_6 s_34 rfl r_34_0 fl_X6_11 rfl dX6_add_25 ?_
        refine w_aload_n 0 28 hX rfl rfl dX6_add_28 ?_
        refine w_getI (j := 12) 29 hX CI_6 s_34 rfl fl_X6_48 rfl dX6_add_29 ?_
        refine w_iload_n 1 32 hX rfl rfl dX6_add_32 ?_
        refine w_iload_n 2 33 hX rfl rfl dX6_add_33 ?_
        refine w_iushr 34 hX dX6_add_34 ?_
        refine w_sipush 255 35 hX isp_255 dX6_add_35 ?_
        refine w_iand 38 hX dX6_add_38 ?_
        obtain ⟨u4, gu4, h⟩ := o_bind h
        refine w_iast 39 hX s_35 gu4 dX6_add_39 ?_
        refine w_aload_n 0 40 hX rfl rfl dX6_add_40 ?_
        refine w_dup 41 hX rfl dX6_add_41 ?_
        refine w_getI (j := 12) 42 hX CI_6 s_34 rfl fl_X6_48 rfl dX6_add_42 ?_
        refine w_iconst 1 45 hX ic_1 dX6_add_45 ?_
        refine w_iadd 46 hX dX6_add_46 ?_
        obtain ⟨u5, gu5, h⟩ := o_bind h
        refine w_putI (j := 12) 47 hX CI_6 s_34 rfl fl_X6_48 rfl rfl rfl rfl dX6_add_47 ?_
        rw [Option.some.inj gu5]
        exact bX6_add_34_50 hX hR hk3 l1 l2 u5 h
def FX6_add_34_L3 : Nat → Int32 → Int32 → Mem → Option Mem
  | 0, _, _, _ => none
  | n + 1, l1, l2, u => FX6_add_34_b3 (FX6_add_34_L3 n) l1 l2 u
theorem lX6_add_34_3 {G : Gt} {X : Xt} {u' : Mem} (hX : CxOk G X cX6_add 3 RX6 (none, (SHg G), (RHg G), u') 1) (hR : CxRet G X none (none, (SHg G), (RHg G), u')) : ∀ (n : Nat) (l1 l2 : Int32) (u : Mem), FX6_add_34_L3 n l1 l2 u = some u' → WM G X 3 [(0, .ref 34), (1, .int l1), (2, .int l2)] [] (SHg G) (RHg G) u := by
  intro n
  induction n with
  | zero =>
    intro l1 l2 u h
    exact nn_ h
  | succ n ih =>
    intro l1 l2 u h
    exact bX6_add_34_3 hX hR ih l1 l2 u h
def FX6_add_34 (p1 : Int32) (u : Mem) : Option Mem :=
  FX6_add_34_L3 FU p1 24 u
theorem CX6_add_34 {G : Gt} (p1 : Int32) (u : Mem) {u' : Mem} (h : FX6_add_34 p1 u = some u') : CT G yX6_add cX6_add 3 none 1 [.ref 34, .int p1] (SHg G) (RHg G) u (none, (SHg G), (RHg G), u') :=
  ct_of (by decide) rfl (Nat.le_of_ble_eq_true rfl) (Nat.le_refl _) (Nat.le_refl _) (fun X hX hR => by
  unfold FX6_add_34 at h
  refine w_bipush 24 0 hX ib_24 dX6_add_0 ?_
  refine w_istore_n (lv' := [(2, .int 24), (0, .ref 34), (1, .int p1)]) 2 hX rfl dX6_add_2 (by decide) rfl ?_
  exact w_sub [1, 2, 0] rfl (lX6_add_34_3 hX hR FU p1 24 u h))
def FX11_feed_0 (p1 p2 p3 p4 p5 : Int32) (u : Mem) : Option (Int32 × Mem) :=
  (FX6_hasRoom_34 u).bind fun x1 => (if x1 = 0 then (some ((-1), u)) else ((FX6_add_34 p1 u).bind fun u4 => (FX6_add_34 p2 u4).bind fun u6 => (FX6_add_34 p3 u6).bind fun u8 => (FX6_add_34 p4 u8).bind fun u10 => (FX6_add_34 p5 u10).bind fun u12 => some (u12 34 12, u12)))
theorem CX11_feed_0 {G : Gt} (p1 p2 p3 p4 p5 : Int32) (u : Mem) {v : Int32} {u' : Mem} (h : FX11_feed_0 p1 p2 p3 p4 p5 u = some (v, u')) : CT G yX11_feed cX11_feed 6 (some .int) 2 [.ref 0, .int p1, .int p2, .int p3, .int p4, .int p5] (SHg G) (RHg G) u (some (.int v), (SHg G), (RHg G), u') :=
  ct_of (by decide) rfl (Nat.le_of_ble_eq_true rfl) (Nat.le_refl _) (Nat.le_refl _) (fun X hX hR => by
  unfold FX11_feed_0 at h
  refine w_aload_n 0 0 hX rfl rfl dX11_feed_0 ?_
  refine w_getR 1 hX CI_11 s_0 rfl r_0_4 fl_X11_42 rfl dX11_feed_1 ?_
  obtain ⟨x1, gx1, h⟩ := o_bind h
  refine w_invVi (av := []) (st := []) 4 hX CI_6 s_34 rfl mv_yX6_hasRoom mi_yX6_hasRoom ml_X11_162 (CX6_hasRoom_34 u gx1) rfl (by decide) (Nat.le_of_ble_eq_true rfl) (Nat.le_refl _) (Nat.le_refl _) dX11_feed_4 ?_
  refine w_if_ne (tgt := 12) 7 hX dX11_feed_7 (by decide) (fun c2 => ?_) (fun c2 => ?_)
  · have h := ie h c2
    refine w_aload_n 0 12 hX rfl rfl dX11_feed_12 ?_
    refine w_getR 13 hX CI_11 s_0 rfl r_0_4 fl_X11_42 rfl dX11_feed_13 ?_
    refine w_iload_n 1 16 hX rfl rfl dX11_feed_16 ?_
    obtain ⟨u4, gu4, h⟩ := o_bind h
    refine w_invVv (av := [.int p1]) (st := []) 17 hX CI_6 s_34 rfl mv_yX6_add mi_yX6_add ml_X11_166 (CX6_add_34 p1 u gu4) rfl (by decide) (Nat.le_of_ble_eq_true rfl) (Nat.le_refl _) (Nat.le_refl _) dX11_feed_17 ?_
    refine w_aload_n 0 20 hX rfl rfl dX11_feed_20 ?_
    refine w_getR 21 hX CI_11 s_0 rfl r_0_4 fl_X11_42 rfl dX11_feed_21 ?_
    refine w_iload_n 2 24 hX rfl rfl dX11_feed_24 ?_
    obtain ⟨u6, gu6, h⟩ := o_bind h
    refine w_invVv (av := [.int p2]) (st := []) 25 hX CI_6 s_34 rfl mv_yX6_add mi_yX6_add ml_X11_166 (CX6_add_34 p2 u4 gu6) rfl (by decide) (Nat.le_of_ble_eq_true rfl) (Nat.le_refl _) (Nat.le_refl _) dX11_feed_25 ?_
    refine w_aload_n 0 28 hX rfl rfl dX11_feed_28 ?_
    refine w_getR 29 hX CI_11 s_0 rfl r_0_4 fl_X11_42 rfl dX11_feed_29 ?_
    refine w_iload_n 3 32 hX rfl rfl dX11_feed_32 ?_
    obtain ⟨u8, gu8, h⟩ := o_bind h
    refine w_invVv (av := [.int p3]) (st := []) 33 hX CI_6 s_34 rfl mv_yX6_add mi_yX6_add ml_X11_166 (CX6_add_34 p3 u6 gu8) rfl (by decide) (Nat.le_of_ble_eq_true rfl) (Nat.le_refl _) (Nat.le_refl _) dX11_feed_33 ?_
    refine w_aload_n 0 36 hX rfl rfl dX11_feed_36 ?_
    refine w_getR 37 hX CI_11 s_0 rfl r_0_4 fl_X11_42 rfl dX11_feed_37 ?_
    refine w_iload 4 40 hX rfl dX11_feed_40 ?_
    obtain ⟨u10, gu10, h⟩ := o_bind h
    refine w_invVv (av := [.int p4]) (st := []) 42 hX CI_6 s_34 rfl mv_yX6_add mi_yX6_add ml_X11_166 (CX6_add_34 p4 u8 gu10) rfl (by decide) (Nat.le_of_ble_eq_true rfl) (Nat.le_refl _) (Nat.le_refl _) dX11_feed_42 ?_
    refine w_aload_n 0 45 hX rfl rfl dX11_feed_45 ?_
    refine w_getR 46 hX CI_11 s_0 rfl r_0_4 fl_X11_42 rfl dX11_feed_46 ?_
    refine w_iload 5 49 hX rfl dX11_feed_49 ?_
    obtain ⟨u12, gu12, h⟩ := o_bind h
    refine w_invVv (av := [.int p5]) (st := []) 51 hX CI_6 s_34 rfl mv_yX6_add mi_yX6_add ml_X11_166 (CX6_add_34 p5 u10 gu12) rfl (by decide) (Nat.le_of_ble_eq_true rfl) (Nat.le_refl _) (Nat.le_refl _) dX11_feed_51 ?_
    refine w_aload_n 0 54 hX rfl rfl dX11_feed_54 ?_
    refine w_getR 55 hX CI_11 s_0 rfl r_0_4 fl_X11_42 rfl dX11_feed_55 ?_
    refine w_getI (j := 12) 58 hX CI_6 s_34 rfl fl_X11_169 rfl dX11_feed_58 ?_
    exact w_iret 61 hX hR dX11_feed_61 (by cases h; rfl)
  · have h := it h c2
    refine w_iconst (-1) 10 hX ic_m1 dX11_feed_10 ?_
    exact w_iret 11 hX hR dX11_feed_11 (by cases h; rfl))
def FX11_end_0 (p1 : Int32) (u : Mem) : Option (Int32 × Mem) :=
  (if p1 < 0 then (some (0, u)) else ((if p1 ≤ (u 34 12) then ((some (mupd u 34 12 p1)).bind fun u3 => some (1, u3)) else (some (0, u)))))
theorem CX11_end_0 {G : Gt} (p1 : Int32) (u : Mem) {v : Int32} {u' : Mem} (h : FX11_end_0 p1 u = some (v, u')) : CT G yX11_end cX11_end 2 (some .boolean) 1 [.ref 0, .int p1] (SHg G) (RHg G) u (some (.int v), (SHg G), (RHg G), u') :=
  ct_of (by decide) rfl (Nat.le_of_ble_eq_true rfl) (Nat.le_refl _) (Nat.le_refl _) (fun X hX hR => by
  unfold FX11_end_0 at h
  refine w_iload_n 1 0 hX rfl rfl dX11_end_0 ?_
  refine w_if_lt (tgt := 15) 1 hX dX11_end_1 (by decide) (fun c1 => ?_) (fun c1 => ?_)
  · have h := it h c1
    refine w_iconst 0 15 hX ic_0 dX11_end_15 ?_
    exact w_zret 16 hX hR (by decide) dX11_end_16 (by cases h; rfl)
  · have h := ie h c1
    refine w_iload_n 1 4 hX rfl rfl dX11_end_4 ?_
    refine w_aload_n 0 5 hX rfl rfl dX11_end_5 ?_
    refine w_getR 6 hX CI_11 s_0 rfl r_0_4 fl_X11_42 rfl dX11_end_6 ?_
    refine w_getI (j := 12) 9 hX CI_6 s_34 rfl fl_X11_169 rfl dX11_end_9 ?_
    refine w_icmp_le (tgt := 17) 12 hX dX11_end_12 (by decide) (fun c2 => ?_) (fun c2 => ?_)
    · have h := it h c2
      refine w_aload_n 0 17 hX rfl rfl dX11_end_17 ?_
      refine w_getR 18 hX CI_11 s_0 rfl r_0_4 fl_X11_42 rfl dX11_end_18 ?_
      refine w_iload_n 1 21 hX rfl rfl dX11_end_21 ?_
      obtain ⟨u3, gu3, h⟩ := o_bind h
      refine w_putI (j := 12) 22 hX CI_6 s_34 rfl fl_X11_169 rfl rfl rfl rfl dX11_end_22 ?_
      rw [Option.some.inj gu3]
      refine w_iconst 1 25 hX ic_1 dX11_end_25 ?_
      exact w_zret 26 hX hR (by decide) dX11_end_26 (by cases h; rfl)
    · have h := ie h c2
      refine w_iconst 0 15 hX ic_0 dX11_end_15 ?_
      exact w_zret 16 hX hR (by decide) dX11_end_16 (by cases h; rfl))
def FX6_isLetter_b12 (l0 : Int32) : Option Int32 :=
  (if l0 < 65 then (some 0) else ((if 90 < l0 then (some 0) else (some 1))))
theorem bX6_isLetter_12 {G : Gt} {X : Xt} {v : Int32} {u : Mem} (hX : CxOk G X cX6_isLetter 1 RX6 (some (.int v), (SHg G), (RHg G), u) 1) (hR : CxRet G X (some .boolean) (some (.int v), (SHg G), (RHg G), u)) (l0 : Int32) (h : FX6_isLetter_b12 l0 = some v) : WM G X 12 [(0, .int l0)] [] (SHg G) (RHg G) u := by
  unfold FX6_isLetter_b12 at h
  refine w_iload_n 0 12 hX rfl rfl dX6_isLetter_12 ?_
  refine w_bipush 65 13 hX ib_65 dX6_isLetter_13 ?_
  refine w_icmp_lt (tgt := 28) 15 hX dX6_isLetter_15 (by decide) (fun c1 => ?_) (fun c1 => ?_)
  · have h := it h c1
    refine w_iconst 0 28 hX ic_0 dX6_isLetter_28 ?_
    exact w_zret 29 hX hR (by decide) dX6_isLetter_29 (by cases h; rfl)
  · have h := ie h c1
    refine w_iload_n 0 18 hX rfl rfl dX6_isLetter_18 ?_
    refine w_bipush 90 19 hX ib_90 dX6_isLetter_19 ?_
    refine w_icmp_gt (tgt := 28) 21 hX dX6_isLetter_21 (by decide) (fun c2 => ?_) (fun c2 => ?_)
    · have h := it h c2
      refine w_iconst 0 28 hX ic_0 dX6_isLetter_28 ?_
      exact w_zret 29 hX hR (by decide) dX6_isLetter_29 (by cases h; rfl)
    · have h := ie h c2
      refine w_iconst 1 24 hX ic_1 dX6_isLetter_24 ?_
      refine w_goto (tgt := 29) 25 hX (by decide) dX6_isLetter_25 ?_
      exact w_zret 29 hX hR (by decide) dX6_isLetter_29 (by cases h; rfl)
def FX6_isLetter (p0 : Int32) : Option Int32 :=
  (if p0 < 97 then (FX6_isLetter_b12 p0) else ((if p0 ≤ 122 then (some 1) else (FX6_isLetter_b12 p0))))
theorem CX6_isLetter {G : Gt} (p0 : Int32) (u : Mem) {v : Int32} (h : FX6_isLetter p0 = some v) : CT G yX6_isLetter cX6_isLetter 1 (some .boolean) 1 [.int p0] (SHg G) (RHg G) u (some (.int v), (SHg G), (RHg G), u) :=
  ct_of (by decide) rfl (Nat.le_of_ble_eq_true rfl) (Nat.le_refl _) (Nat.le_refl _) (fun X hX hR => by
  unfold FX6_isLetter at h
  refine w_iload_n 0 0 hX rfl rfl dX6_isLetter_0 ?_
  refine w_bipush 97 1 hX ib_97 dX6_isLetter_1 ?_
  refine w_icmp_lt (tgt := 12) 3 hX dX6_isLetter_3 (by decide) (fun c1 => ?_) (fun c1 => ?_)
  · have h := it h c1
    exact bX6_isLetter_12 hX hR p0 h
  · have h := ie h c1
    refine w_iload_n 0 6 hX rfl rfl dX6_isLetter_6 ?_
    refine w_bipush 122 7 hX ib_122 dX6_isLetter_7 ?_
    refine w_icmp_le (tgt := 24) 9 hX dX6_isLetter_9 (by decide) (fun c2 => ?_) (fun c2 => ?_)
    · have h := it h c2
      refine w_iconst 1 24 hX ic_1 dX6_isLetter_24 ?_
      refine w_goto (tgt := 29) 25 hX (by decide) dX6_isLetter_25 ?_
      exact w_zret 29 hX hR (by decide) dX6_isLetter_29 (by cases h; rfl)
    · have h := ie h c2
      exact bX6_isLetter_12 hX hR p0 h)
def FX6_isDigit (p0 : Int32) : Option Int32 :=
  (if p0 < 48 then (some 0) else ((if 57 < p0 then (some 0) else (some 1))))
theorem CX6_isDigit {G : Gt} (p0 : Int32) (u : Mem) {v : Int32} (h : FX6_isDigit p0 = some v) : CT G yX6_isDigit cX6_isDigit 1 (some .boolean) 1 [.int p0] (SHg G) (RHg G) u (some (.int v), (SHg G), (RHg G), u) :=
  ct_of (by decide) rfl (Nat.le_of_ble_eq_true rfl) (Nat.le_refl _) (Nat.le_refl _) (fun X hX hR => by
  unfold FX6_isDigit at h
  refine w_iload_n 0 0 hX rfl rfl dX6_isDigit_0 ?_
  refine w_bipush 48 1 hX ib_48 dX6_isDigit_1 ?_
  refine w_icmp_lt (tgt := 16) 3 hX dX6_isDigit_3 (by decide) (fun c1 => ?_) (fun c1 => ?_)
  · have h := it h c1
    refine w_iconst 0 16 hX ic_0 dX6_isDigit_16 ?_
    exact w_zret 17 hX hR (by decide) dX6_isDigit_17 (by cases h; rfl)
  · have h := ie h c1
    refine w_iload_n 0 6 hX rfl rfl dX6_isDigit_6 ?_
    refine w_bipush 57 7 hX ib_57 dX6_isDigit_7 ?_
    refine w_icmp_gt (tgt := 16) 9 hX dX6_isDigit_9 (by decide) (fun c2 => ?_) (fun c2 => ?_)
    · have h := it h c2
      refine w_iconst 0 16 hX ic_0 dX6_isDigit_16 ?_
      exact w_zret 17 hX hR (by decide) dX6_isDigit_17 (by cases h; rfl)
    · have h := ie h c2
      refine w_iconst 1 12 hX ic_1 dX6_isDigit_12 ?_
      refine w_goto (tgt := 17) 13 hX (by decide) dX6_isDigit_13 ?_
      exact w_zret 17 hX hR (by decide) dX6_isDigit_17 (by cases h; rfl))
def FX6_endOfDigits_34_b36 (l3 : Int32) (u : Mem) : Option Int32 :=
  some l3
theorem bX6_endOfDigits_34_36 {G : Gt} {X : Xt} {v : Int32} {u : Mem} (hX : CxOk G X cX6_endOfDigits 4 RX6 (some (.int v), (SHg G), (RHg G), u) 2) (hR : CxRet G X (some .int) (some (.int v), (SHg G), (RHg G), u)) (l3 : Int32) (h : FX6_endOfDigits_34_b36 l3 u = some v) : WM G X 36 [(3, .int l3)] [] (SHg G) (RHg G) u := by
  unfold FX6_endOfDigits_34_b36 at h
  refine w_iload_n 0 36 hX rfl rfl dX6_endOfDigits_36 ?_
  exact w_iret 37 hX hR dX6_endOfDigits_37 (by cases h; rfl)
def FX6_endOfDigits_34_b6 (k6 : Int32 → Int32 → Mem → Option Int32) (l2 l3 : Int32) (u : Mem) : Option Int32 :=
  (if l2 ≤ l3 then (FX6_endOfDigits_34_b36 l3 u) else ((if 400 ≤ l3 then (FX6_endOfDigits_34_b36 l3 u) else ((rdA u 35 400 l3).bind fun x3 => (FX6_isDigit x3).bind fun x4 => (if x4 = 0 then (FX6_endOfDigits_34_b36 l3 u) else (k6 l2 (l3 + 1) u))))))
theorem bX6_endOfDigits_34_6 {G : Gt} {X : Xt} {v : Int32} {u : Mem} (hX : CxOk G X cX6_endOfDigits 4 RX6 (some (.int v), (SHg G), (RHg G), u) 2) (hR : CxRet G X (some .int) (some (.int v), (SHg G), (RHg G), u)) {k6 : Int32 → Int32 → Mem → Option Int32} (hk6 : ∀ (l2 l3 : Int32), k6 l2 l3 u = some v → WM G X 6 [(0, .ref 34), (2, .int l2), (3, .int l3)] [] (SHg G) (RHg G) u) (l2 l3 : Int32) (h : FX6_endOfDigits_34_b6 k6 l2 l3 u = some v) : WM G X 6 [(0, .ref 34), (2, .int l2), (3, .int l3)] [] (SHg G) (RHg G) u := by
  unfold FX6_endOfDigits_34_b6 at h
  refine w_iload_n 2 6 hX rfl rfl dX6_endOfDigits_6 ?_
  refine w_iload_n 1 7 hX rfl rfl dX6_endOfDigits_7 ?_
  refine w_icmp_ge (tgt := 36) 8 hX dX6_endOfDigits_8 (by decide) (fun c1 => ?_) (fun c1 => ?_)
  · have h := it h c1
    exact w_sub [2] rfl (bX6_endOfDigits_34_36 hX hR l3 h)
  · have h := ie h c1
    refine w_iload_n 2 11 hX rfl rfl dX6_endOfDigits_11 ?_
    refine w_sipush 400 12 hX isp_400 dX6_endOfDigits_12 ?_
    refine w_icmp_ge (tgt := 36) 15 hX dX6_endOfDigits_15 (by decide) (fun c2 => ?_) (fun c2 => ?_)
    · have h := it h c2
      exact w_sub [2] rfl (bX6_endOfDigits_34_36 hX hR l3 h)
    · have h := ie h c2
      refine w_aload_n 0 18 hX rfl rfl dX6_endOfDigits_18 ?_
      refine w_getR 19 hX CI_6 s_34 rfl r_34_0 fl_X6_11 rfl dX6_endOfDigits_19 ?_
      refine w_iload_n 2 22 hX rfl rfl dX6_endOfDigits_22 ?_
      obtain ⟨x3, gx3, h⟩ := o_bind h
      refine w_iald 23 hX s_35 gx3 dX6_endOfDigits_23 ?_
      obtain ⟨x4, gx4, h⟩ := o_bind h
      refine w_invSi (av := [.int x3]) (st := []) 24 hX ms_yX6_isDigit mi_yX6_isDigit ml_X6_157 (CX6_isDigit x3 u gx4) rfl (by decide) (Nat.le_of_ble_eq_true rfl) (Nat.le_refl _) (Nat.le_refl _) dX6_endOfDigits_24 ?_
      refine w_if_eq (tgt := 36) 27 hX dX6_endOfDigits_27 (by decide) (fun c5 => ?_) (fun c5 => ?_)
      · have h := it h c5
        exact w_sub [2] rfl (bX6_endOfDigits_34_36 hX hR l3 h)
      · have h := ie h c5
        refine w_iinc (lv' := [(3, .int (l3 + 1)), (0, .ref 34), (2, .int l2)]) 30 2 hX dX6_endOfDigits_30 rfl (inc_1 _) (by decide) rfl ?_
        refine w_goto (tgt := 6) 33 hX (by decide) dX6_endOfDigits_33 ?_
        exact w_sub [1, 2, 0] rfl (hk6 l2 (l3 + 1) h)
def FX6_endOfDigits_34_L6 : Nat → Int32 → Int32 → Mem → Option Int32
  | 0, _, _, _ => none
  | n + 1, l2, l3, u => FX6_endOfDigits_34_b6 (FX6_endOfDigits_34_L6 n) l2 l3 u
theorem lX6_endOfDigits_34_6 {G : Gt} {X : Xt} {v : Int32} {u : Mem} (hX : CxOk G X cX6_endOfDigits 4 RX6 (some (.int v), (SHg G), (RHg G), u) 2) (hR : CxRet G X (some .int) (some (.int v), (SHg G), (RHg G), u)) : ∀ (n : Nat) (l2 l3 : Int32), FX6_endOfDigits_34_L6 n l2 l3 u = some v → WM G X 6 [(0, .ref 34), (2, .int l2), (3, .int l3)] [] (SHg G) (RHg G) u := by
  intro n
  induction n with
  | zero =>
    intro l2 l3 h
    exact nn_ h
  | succ n ih =>
    intro l2 l3 h
    exact bX6_endOfDigits_34_6 hX hR ih l2 l3 h
def FX6_endOfDigits_34 (p1 p2 : Int32) (u : Mem) : Option Int32 :=
  FX6_endOfDigits_34_L6 FU p2 (if 0 < p1 then p1 else 0) u
theorem CX6_endOfDigits_34 {G : Gt} (p1 p2 : Int32) (u : Mem) {v : Int32} (h : FX6_endOfDigits_34 p1 p2 u = some v) : CT G yX6_endOfDigits cX6_endOfDigits 4 (some .int) 2 [.ref 34, .int p1, .int p2] (SHg G) (RHg G) u (some (.int v), (SHg G), (RHg G), u) :=
  ct_of (by decide) rfl (Nat.le_of_ble_eq_true rfl) (Nat.le_refl _) (Nat.le_refl _) (fun X hX hR => by
  unfold FX6_endOfDigits_34 at h
  refine w_iconst 0 0 hX ic_0 dX6_endOfDigits_0 ?_
  refine w_iload_n 1 1 hX rfl rfl dX6_endOfDigits_1 ?_
  refine w_max 2 hX ml_X6_174 jm_max_s jm_i jm_max_c (by decide) (Nat.le_of_ble_eq_true rfl) (Nat.le_refl _) (Nat.le_refl _) dX6_endOfDigits_2 ?_
  refine w_istore_n (lv' := [(3, .int (if 0 < p1 then p1 else 0)), (0, .ref 34), (1, .int p1), (2, .int p2)]) 5 hX rfl dX6_endOfDigits_5 (by decide) rfl ?_
  exact w_sub [1, 3, 0] rfl (lX6_endOfDigits_34_6 hX hR FU p2 (if 0 < p1 then p1 else 0) h))
def FX6_endOfWord_34_b36 (l3 : Int32) (u : Mem) : Option Int32 :=
  some l3
theorem bX6_endOfWord_34_36 {G : Gt} {X : Xt} {v : Int32} {u : Mem} (hX : CxOk G X cX6_endOfWord 4 RX6 (some (.int v), (SHg G), (RHg G), u) 2) (hR : CxRet G X (some .int) (some (.int v), (SHg G), (RHg G), u)) (l3 : Int32) (h : FX6_endOfWord_34_b36 l3 u = some v) : WM G X 36 [(3, .int l3)] [] (SHg G) (RHg G) u := by
  unfold FX6_endOfWord_34_b36 at h
  refine w_iload_n 0 36 hX rfl rfl dX6_endOfWord_36 ?_
  exact w_iret 37 hX hR dX6_endOfWord_37 (by cases h; rfl)
def FX6_endOfWord_34_b6 (k6 : Int32 → Int32 → Mem → Option Int32) (l2 l3 : Int32) (u : Mem) : Option Int32 :=
  (if l2 ≤ l3 then (FX6_endOfWord_34_b36 l3 u) else ((if 400 ≤ l3 then (FX6_endOfWord_34_b36 l3 u) else ((rdA u 35 400 l3).bind fun x3 => (FX6_isLetter x3).bind fun x4 => (if x4 = 0 then (FX6_endOfWord_34_b36 l3 u) else (k6 l2 (l3 + 1) u))))))
theorem bX6_endOfWord_34_6 {G : Gt} {X : Xt} {v : Int32} {u : Mem} (hX : CxOk G X cX6_endOfWord 4 RX6 (some (.int v), (SHg G), (RHg G), u) 2) (hR : CxRet G X (some .int) (some (.int v), (SHg G), (RHg G), u)) {k6 : Int32 → Int32 → Mem → Option Int32} (hk6 : ∀ (l2 l3 : Int32), k6 l2 l3 u = some v → WM G X 6 [(0, .ref 34), (2, .int l2), (3, .int l3)] [] (SHg G) (RHg G) u) (l2 l3 : Int32) (h : FX6_endOfWord_34_b6 k6 l2 l3 u = some v) : WM G X 6 [(0, .ref 34), (2, .int l2), (3, .int l3)] [] (SHg G) (RHg G) u := by
  unfold FX6_endOfWord_34_b6 at h
  refine w_iload_n 2 6 hX rfl rfl dX6_endOfWord_6 ?_
  refine w_iload_n 1 7 hX rfl rfl dX6_endOfWord_7 ?_
  refine w_icmp_ge (tgt := 36) 8 hX dX6_endOfWord_8 (by decide) (fun c1 => ?_) (fun c1 => ?_)
  · have h := it h c1
    exact w_sub [2] rfl (bX6_endOfWord_34_36 hX hR l3 h)
  · have h := ie h c1
    refine w_iload_n 2 11 hX rfl rfl dX6_endOfWord_11 ?_
    refine w_sipush 400 12 hX isp_400 dX6_endOfWord_12 ?_
    refine w_icmp_ge (tgt := 36) 15 hX dX6_endOfWord_15 (by decide) (fun c2 => ?_) (fun c2 => ?_)
    · have h := it h c2
      exact w_sub [2] rfl (bX6_endOfWord_34_36 hX hR l3 h)
    · have h := ie h c2
      refine w_aload_n 0 18 hX rfl rfl dX6_endOfWord_18 ?_
      refine w_getR 19 hX CI_6 s_34 rfl r_34_0 fl_X6_11 rfl dX6_endOfWord_19 ?_
      refine w_iload_n 2 22 hX rfl rfl dX6_endOfWord_22 ?_
      obtain ⟨x3, gx3, h⟩ := o_bind h
      refine w_iald 23 hX s_35 gx3 dX6_endOfWord_23 ?_
      obtain ⟨x4, gx4, h⟩ := o_bind h
      refine w_invSi (av := [.int x3]) (st := []) 24 hX ms_yX6_isLetter mi_yX6_isLetter ml_X6_138 (CX6_isLetter x3 u gx4) rfl (by decide) (Nat.le_of_ble_eq_true rfl) (Nat.le_refl _) (Nat.le_refl _) dX6_endOfWord_24 ?_
      refine w_if_eq (tgt := 36) 27 hX dX6_endOfWord_27 (by decide) (fun c5 => ?_) (fun c5 => ?_)
      · have h := it h c5
        exact w_sub [2] rfl (bX6_endOfWord_34_36 hX hR l3 h)
      · have h := ie h c5
        refine w_iinc (lv' := [(3, .int (l3 + 1)), (0, .ref 34), (2, .int l2)]) 30 2 hX dX6_endOfWord_30 rfl (inc_1 _) (by decide) rfl ?_
        refine w_goto (tgt := 6) 33 hX (by decide) dX6_endOfWord_33 ?_
        exact w_sub [1, 2, 0] rfl (hk6 l2 (l3 + 1) h)
def FX6_endOfWord_34_L6 : Nat → Int32 → Int32 → Mem → Option Int32
  | 0, _, _, _ => none
  | n + 1, l2, l3, u => FX6_endOfWord_34_b6 (FX6_endOfWord_34_L6 n) l2 l3 u
theorem lX6_endOfWord_34_6 {G : Gt} {X : Xt} {v : Int32} {u : Mem} (hX : CxOk G X cX6_endOfWord 4 RX6 (some (.int v), (SHg G), (RHg G), u) 2) (hR : CxRet G X (some .int) (some (.int v), (SHg G), (RHg G), u)) : ∀ (n : Nat) (l2 l3 : Int32), FX6_endOfWord_34_L6 n l2 l3 u = some v → WM G X 6 [(0, .ref 34), (2, .int l2), (3, .int l3)] [] (SHg G) (RHg G) u := by
  intro n
  induction n with
  | zero =>
    intro l2 l3 h
    exact nn_ h
  | succ n ih =>
    intro l2 l3 h
    exact bX6_endOfWord_34_6 hX hR ih l2 l3 h
def FX6_endOfWord_34 (p1 p2 : Int32) (u : Mem) : Option Int32 :=
  FX6_endOfWord_34_L6 FU p2 (if 0 < p1 then p1 else 0) u
theorem CX6_endOfWord_34 {G : Gt} (p1 p2 : Int32) (u : Mem) {v : Int32} (h : FX6_endOfWord_34 p1 p2 u = some v) : CT G yX6_endOfWord cX6_endOfWord 4 (some .int) 2 [.ref 34, .int p1, .int p2] (SHg G) (RHg G) u (some (.int v), (SHg G), (RHg G), u) :=
  ct_of (by decide) rfl (Nat.le_of_ble_eq_true rfl) (Nat.le_refl _) (Nat.le_refl _) (fun X hX hR => by
  unfold FX6_endOfWord_34 at h
  refine w_iconst 0 0 hX ic_0 dX6_endOfWord_0 ?_
  refine w_iload_n 1 1 hX rfl rfl dX6_endOfWord_1 ?_
  refine w_max 2 hX ml_X6_174 jm_max_s jm_i jm_max_c (by decide) (Nat.le_of_ble_eq_true rfl) (Nat.le_refl _) (Nat.le_refl _) dX6_endOfWord_2 ?_
  refine w_istore_n (lv' := [(3, .int (if 0 < p1 then p1 else 0)), (0, .ref 34), (1, .int p1), (2, .int p2)]) 5 hX rfl dX6_endOfWord_5 (by decide) rfl ?_
  exact w_sub [1, 3, 0] rfl (lX6_endOfWord_34_6 hX hR FU p2 (if 0 < p1 then p1 else 0) h))
def FX6_keywords (p0 : Int32) : Option Nat :=
  (if p0 = 0 then (some 2000000) else ((if p0 = 1 then (some 2000001) else ((if p0 = 2 then (some 2000002) else (some 2000003))))))
theorem CX6_keywords {G : Gt} (p0 : Int32) (u : Mem) {v : Nat} (h : FX6_keywords p0 = some v) : CT G yX6_keywords cX6_keywords 1 (some (.object "java/lang/String")) 1 [.int p0] (SHg G) (RHg G) u (some (.ref v), (SHg G), (RHg G), u) :=
  ct_of (by decide) rfl (Nat.le_of_ble_eq_true rfl) (Nat.le_refl _) (Nat.le_refl _) (fun X hX hR => by
  unfold FX6_keywords at h
  refine w_iload_n 0 0 hX rfl rfl dX6_keywords_0 ?_
  by_cases c1 : p0 = 0
  · have h := it h c1
    refine w_tabIn (tgt := 28) (off := 27) 1 hX dX6_keywords_1 (by rw [c1]; decide) (by rw [c1]; decide) (by rw [c1]; decide) (by decide) ?_
    refine w_ldcs 0 28 hX (by decide) rfl rfl dX6_keywords_28 ?_
    exact w_aret 30 hX hR (Or.inl ⟨_, rfl⟩) dX6_keywords_30 (by cases h; rfl)
  · have h := ie h c1
    by_cases c2 : p0 = 1
    · have h := it h c2
      refine w_tabIn (tgt := 31) (off := 30) 1 hX dX6_keywords_1 (by rw [c2]; decide) (by rw [c2]; decide) (by rw [c2]; decide) (by decide) ?_
      refine w_ldcs 1 31 hX (by decide) rfl rfl dX6_keywords_31 ?_
      exact w_aret 33 hX hR (Or.inl ⟨_, rfl⟩) dX6_keywords_33 (by cases h; rfl)
    · have h := ie h c2
      by_cases c3 : p0 = 2
      · have h := it h c3
        refine w_tabIn (tgt := 34) (off := 33) 1 hX dX6_keywords_1 (by rw [c3]; decide) (by rw [c3]; decide) (by rw [c3]; decide) (by decide) ?_
        refine w_ldcs 2 34 hX (by decide) rfl rfl dX6_keywords_34 ?_
        exact w_aret 36 hX hR (Or.inl ⟨_, rfl⟩) dX6_keywords_36 (by cases h; rfl)
      · have h := ie h c3
        have zc1 := lv_neT c1 (a := 0) (by decide)
        have zc2 := lv_neT c2 (a := 1) (by decide)
        have zc3 := lv_neT c3 (a := 2) (by decide)
        refine w_tabOut (tgt := 37) 1 hX dX6_keywords_1 (by omega) (by decide) ?_
        refine w_ldcs 3 37 hX (by decide) rfl rfl dX6_keywords_37 ?_
        exact w_aret 39 hX hR (Or.inl ⟨_, rfl⟩) dX6_keywords_39 (by cases h; rfl))
def FX6_same_34_2000000_b38 (k3 : Int32 → Int32 → Int32 → Int32 → Mem → Option Int32) (l2 l3 l4 l5 t0 : Int32) (u : Mem) : Option Int32 :=
  (if t0 = 0 then (some 0) else ((S_chr 0 (l2 + l5)).bind fun x2 => (rdA u 35 400 (l3 + l5)).bind fun x3 => (if x2 = x3 then (k3 l2 l3 l4 (l5 + 1) u) else (some 0))))
theorem bX6_same_34_2000000_38 {G : Gt} {X : Xt} {v : Int32} {u : Mem} (hX : CxOk G X cX6_same 7 RX6 (some (.int v), (SHg G), (RHg G), u) 7) (hR : CxRet G X (some .boolean) (some (.int v), (SHg G), (RHg G), u)) {k3 : Int32 → Int32 → Int32 → Int32 → Mem → Option Int32} (hk3 : ∀ (l2 l3 l4 l5 : Int32), k3 l2 l3 l4 l5 u = some v → WM G X 3 [(0, .ref 34), (1, .ref 2000000), (2, .int l2), (3, .int l3), (4, .int l4), (5, .int l5)] [] (SHg G) (RHg G) u) (l2 l3 l4 l5 t0 : Int32) (h : FX6_same_34_2000000_b38 k3 l2 l3 l4 l5 t0 u = some v) : WM G X 38 [(0, .ref 34), (1, .ref 2000000), (2, .int l2), (3, .int l3), (4, .int l4), (5, .int l5)] [.int t0] (SHg G) (RHg G) u := by
  unfold FX6_same_34_2000000_b38 at h
  refine w_istore (lv' := [(6, .int t0), (0, .ref 34), (1, .ref 2000000), (2, .int l2), (3, .int l3), (4, .int l4), (5, .int l5)]) 38 hX dX6_same_38 (by decide) rfl ?_
  refine w_iload 0 40 hX rfl dX6_same_40 ?_
  refine w_if_eq (tgt := 65) 42 hX dX6_same_42 (by decide) (fun c1 => ?_) (fun c1 => ?_)
  · have h := it h c1
    refine w_iconst 0 65 hX ic_0 dX6_same_65 ?_
    exact w_zret 66 hX hR (by decide) dX6_same_66 (by cases h; rfl)
  · have h := ie h c1
    refine w_aload_n 2 45 hX rfl rfl dX6_same_45 ?_
    refine w_iload_n 3 46 hX rfl rfl dX6_same_46 ?_
    refine w_iload 6 47 hX rfl dX6_same_47 ?_
    refine w_iadd 49 hX dX6_same_49 ?_
    obtain ⟨x2, gx2, h⟩ := o_bind h
    refine w_S_chr (i := 0) (st := []) 50 hX ml_X6_180 gx2 (by decide) (by decide) (Nat.le_of_ble_eq_true rfl) dX6_same_50 ?_
    refine w_aload_n 1 53 hX rfl rfl dX6_same_53 ?_
    refine w_getR 54 hX CI_6 s_34 rfl r_34_0 fl_X6_11 rfl dX6_same_54 ?_
    refine w_iload_n 4 57 hX rfl rfl dX6_same_57 ?_
    refine w_iload 6 58 hX rfl dX6_same_58 ?_
    refine w_iadd 60 hX dX6_same_60 ?_
    obtain ⟨x3, gx3, h⟩ := o_bind h
    refine w_iald 61 hX s_35 gx3 dX6_same_61 ?_
    refine w_icmp_eq (tgt := 67) 62 hX dX6_same_62 (by decide) (fun c4 => ?_) (fun c4 => ?_)
    · have h := it h c4
      refine w_iinc (lv' := [(5, .int (l5 + 1)), (6, .int t0), (0, .ref 34), (1, .ref 2000000), (2, .int l2), (3, .int l3), (4, .int l4)]) 67 6 hX dX6_same_67 rfl (inc_1 _) (by decide) rfl ?_
      refine w_goto (tgt := 3) 70 hX (by decide) dX6_same_70 ?_
      exact w_sub [2, 3, 4, 5, 6, 0] rfl (hk3 l2 l3 l4 (l5 + 1) h)
    · have h := ie h c4
      refine w_iconst 0 65 hX ic_0 dX6_same_65 ?_
      exact w_zret 66 hX hR (by decide) dX6_same_66 (by cases h; rfl)
def FX6_same_34_2000000_b3 (k3 : Int32 → Int32 → Int32 → Int32 → Mem → Option Int32) (l2 l3 l4 l5 : Int32) (u : Mem) : Option Int32 :=
  (if l4 ≤ (l3 + l5) then (some 1) else ((S_len 0).bind fun x2 => (if x2 ≤ (l2 + l5) then (FX6_same_34_2000000_b38 k3 l2 l3 l4 l5 0 u) else ((if 400 ≤ (l3 + l5) then (FX6_same_34_2000000_b38 k3 l2 l3 l4 l5 0 u) else (FX6_same_34_2000000_b38 k3 l2 l3 l4 l5 1 u))))))
theorem bX6_same_34_2000000_3 {G : Gt} {X : Xt} {v : Int32} {u : Mem} (hX : CxOk G X cX6_same 7 RX6 (some (.int v), (SHg G), (RHg G), u) 7) (hR : CxRet G X (some .boolean) (some (.int v), (SHg G), (RHg G), u)) {k3 : Int32 → Int32 → Int32 → Int32 → Mem → Option Int32} (hk3 : ∀ (l2 l3 l4 l5 : Int32), k3 l2 l3 l4 l5 u = some v → WM G X 3 [(0, .ref 34), (1, .ref 2000000), (2, .int l2), (3, .int l3), (4, .int l4), (5, .int l5)] [] (SHg G) (RHg G) u) (l2 l3 l4 l5 : Int32) (h : FX6_same_34_2000000_b3 k3 l2 l3 l4 l5 u = some v) : WM G X 3 [(0, .ref 34), (1, .ref 2000000), (2, .int l2), (3, .int l3), (4, .int l4), (5, .int l5)] [] (SHg G) (RHg G) u := by
  unfold FX6_same_34_2000000_b3 at h
  refine w_iload_n 3 3 hX rfl rfl dX6_same_3 ?_
  refine w_iload 5 4 hX rfl dX6_same_4 ?_
  refine w_iadd 6 hX dX6_same_6 ?_
  refine w_iload 4 7 hX rfl dX6_same_7 ?_
  refine w_icmp_ge (tgt := 73) 9 hX dX6_same_9 (by decide) (fun c1 => ?_) (fun c1 => ?_)
  · have h := it h c1
    refine w_iconst 1 73 hX ic_1 dX6_same_73 ?_
    exact w_zret 74 hX hR (by decide) dX6_same_74 (by cases h; rfl)
  · have h := ie h c1
    refine w_iload_n 2 12 hX rfl rfl dX6_same_12 ?_
    refine w_iload 5 13 hX rfl dX6_same_13 ?_
    refine w_iadd 15 hX dX6_same_15 ?_
    refine w_aload_n 1 16 hX rfl rfl dX6_same_16 ?_
    obtain ⟨x2, gx2, h⟩ := o_bind h
    refine w_S_len (i := 0) (st := [.int (l2 + l5)]) 17 hX ml_X6_177 gx2 (by decide) (by decide) (Nat.le_of_ble_eq_true rfl) dX6_same_17 ?_
    refine w_icmp_ge (tgt := 37) 20 hX dX6_same_20 (by decide) (fun c3 => ?_) (fun c3 => ?_)
    · have h := it h c3
      refine w_iconst 0 37 hX ic_0 dX6_same_37 ?_
      exact bX6_same_34_2000000_38 hX hR hk3 l2 l3 l4 l5 0 h
    · have h := ie h c3
      refine w_iload_n 3 23 hX rfl rfl dX6_same_23 ?_
      refine w_iload 5 24 hX rfl dX6_same_24 ?_
      refine w_iadd 26 hX dX6_same_26 ?_
      refine w_sipush 400 27 hX isp_400 dX6_same_27 ?_
      refine w_icmp_ge (tgt := 37) 30 hX dX6_same_30 (by decide) (fun c4 => ?_) (fun c4 => ?_)
      · have h := it h c4
        refine w_iconst 0 37 hX ic_0 dX6_same_37 ?_
        exact bX6_same_34_2000000_38 hX hR hk3 l2 l3 l4 l5 0 h
      · have h := ie h c4
        refine w_iconst 1 33 hX ic_1 dX6_same_33 ?_
        refine w_goto (tgt := 38) 34 hX (by decide) dX6_same_34 ?_
        exact bX6_same_34_2000000_38 hX hR hk3 l2 l3 l4 l5 1 h
def FX6_same_34_2000000_L3 : Nat → Int32 → Int32 → Int32 → Int32 → Mem → Option Int32
  | 0, _, _, _, _, _ => none
  | n + 1, l2, l3, l4, l5, u => FX6_same_34_2000000_b3 (FX6_same_34_2000000_L3 n) l2 l3 l4 l5 u
theorem lX6_same_34_2000000_3 {G : Gt} {X : Xt} {v : Int32} {u : Mem} (hX : CxOk G X cX6_same 7 RX6 (some (.int v), (SHg G), (RHg G), u) 7) (hR : CxRet G X (some .boolean) (some (.int v), (SHg G), (RHg G), u)) : ∀ (n : Nat) (l2 l3 l4 l5 : Int32), FX6_same_34_2000000_L3 n l2 l3 l4 l5 u = some v → WM G X 3 [(0, .ref 34), (1, .ref 2000000), (2, .int l2), (3, .int l3), (4, .int l4), (5, .int l5)] [] (SHg G) (RHg G) u := by
  intro n
  induction n with
  | zero =>
    intro l2 l3 l4 l5 h
    exact nn_ h
  | succ n ih =>
    intro l2 l3 l4 l5 h
    exact bX6_same_34_2000000_3 hX hR ih l2 l3 l4 l5 h
def FX6_same_34_2000000 (p2 p3 p4 : Int32) (u : Mem) : Option Int32 :=
  FX6_same_34_2000000_L3 FU p2 p3 p4 0 u
theorem CX6_same_34_2000000 {G : Gt} (p2 p3 p4 : Int32) (u : Mem) {v : Int32} (h : FX6_same_34_2000000 p2 p3 p4 u = some v) : CT G yX6_same cX6_same 7 (some .boolean) 7 [.ref 34, .ref 2000000, .int p2, .int p3, .int p4] (SHg G) (RHg G) u (some (.int v), (SHg G), (RHg G), u) :=
  ct_of (by decide) rfl (Nat.le_of_ble_eq_true rfl) (Nat.le_refl _) (Nat.le_refl _) (fun X hX hR => by
  unfold FX6_same_34_2000000 at h
  refine w_iconst 0 0 hX ic_0 dX6_same_0 ?_
  refine w_istore (lv' := [(5, .int 0), (0, .ref 34), (1, .ref 2000000), (2, .int p2), (3, .int p3), (4, .int p4)]) 1 hX dX6_same_1 (by decide) rfl ?_
  exact w_sub [1, 2, 3, 4, 5, 0] rfl (lX6_same_34_2000000_3 hX hR FU p2 p3 p4 0 h))
def FX6_keyword_34_2000000_b73 (k9 : Int32 → Int32 → Int32 → Int32 → Int32 → Mem → Option Int32) (l2 l3 l4 l5 l6 : Int32) (u : Mem) : Option Int32 :=
  k9 l2 l3 l4 l5 (l6 + 1) u
theorem bX6_keyword_34_2000000_73 {G : Gt} {X : Xt} {v : Int32} {u : Mem} (hX : CxOk G X cX6_keyword 7 RX6 (some (.int v), (SHg G), (RHg G), u) 8) (hR : CxRet G X (some .int) (some (.int v), (SHg G), (RHg G), u)) {k9 : Int32 → Int32 → Int32 → Int32 → Int32 → Mem → Option Int32} (hk9 : ∀ (l2 l3 l4 l5 l6 : Int32), k9 l2 l3 l4 l5 l6 u = some v → WM G X 9 [(0, .ref 34), (1, .ref 2000000), (2, .int l2), (3, .int l3), (4, .int l4), (5, .int l5), (6, .int l6)] [] (SHg G) (RHg G) u) (l2 l3 l4 l5 l6 : Int32) (h : FX6_keyword_34_2000000_b73 k9 l2 l3 l4 l5 l6 u = some v) : WM G X 73 [(0, .ref 34), (1, .ref 2000000), (2, .int l2), (3, .int l3), (4, .int l4), (5, .int l5), (6, .int l6)] [] (SHg G) (RHg G) u := by
  unfold FX6_keyword_34_2000000_b73 at h
  refine w_iinc (lv' := [(6, .int (l6 + 1)), (0, .ref 34), (1, .ref 2000000), (2, .int l2), (3, .int l3), (4, .int l4), (5, .int l5)]) 73 6 hX dX6_keyword_73 rfl (inc_1 _) (by decide) rfl ?_
  refine w_goto (tgt := 9) 76 hX (by decide) dX6_keyword_76 ?_
  exact w_sub [1, 2, 3, 4, 5, 6, 0] rfl (hk9 l2 l3 l4 l5 (l6 + 1) h)
def FX6_keyword_34_2000000_b64 (k9 : Int32 → Int32 → Int32 → Int32 → Int32 → Mem → Option Int32) (l2 l3 l4 l6 : Int32) (u : Mem) : Option Int32 :=
  FX6_keyword_34_2000000_b73 k9 l2 l3 (l4 + 1) (l6 + 1) l6 u
theorem bX6_keyword_34_2000000_64 {G : Gt} {X : Xt} {v : Int32} {u : Mem} (hX : CxOk G X cX6_keyword 7 RX6 (some (.int v), (SHg G), (RHg G), u) 8) (hR : CxRet G X (some .int) (some (.int v), (SHg G), (RHg G), u)) {k9 : Int32 → Int32 → Int32 → Int32 → Int32 → Mem → Option Int32} (hk9 : ∀ (l2 l3 l4 l5 l6 : Int32), k9 l2 l3 l4 l5 l6 u = some v → WM G X 9 [(0, .ref 34), (1, .ref 2000000), (2, .int l2), (3, .int l3), (4, .int l4), (5, .int l5), (6, .int l6)] [] (SHg G) (RHg G) u) (l2 l3 l4 l6 : Int32) (h : FX6_keyword_34_2000000_b64 k9 l2 l3 l4 l6 u = some v) : WM G X 64 [(0, .ref 34), (1, .ref 2000000), (2, .int l2), (3, .int l3), (4, .int l4), (6, .int l6)] [] (SHg G) (RHg G) u := by
  unfold FX6_keyword_34_2000000_b64 at h
  refine w_iinc (lv' := [(4, .int (l4 + 1)), (0, .ref 34), (1, .ref 2000000), (2, .int l2), (3, .int l3), (6, .int l6)]) 64 4 hX dX6_keyword_64 rfl (inc_1 _) (by decide) rfl ?_
  refine w_iload 5 67 hX rfl dX6_keyword_67 ?_
  refine w_iconst 1 69 hX ic_1 dX6_keyword_69 ?_
  refine w_iadd 70 hX dX6_keyword_70 ?_
  refine w_istore (lv' := [(5, .int (l6 + 1)), (4, .int (l4 + 1)), (0, .ref 34), (1, .ref 2000000), (2, .int l2), (3, .int l3), (6, .int l6)]) 71 hX dX6_keyword_71 (by decide) rfl ?_
  exact w_sub [2, 3, 4, 5, 1, 0, 6] rfl (bX6_keyword_34_2000000_73 hX hR hk9 l2 l3 (l4 + 1) (l6 + 1) l6 h)
def FX6_keyword_34_2000000_b38 (k9 : Int32 → Int32 → Int32 → Int32 → Int32 → Mem → Option Int32) (l2 l3 l4 l5 l6 : Int32) (u : Mem) : Option Int32 :=
  (if (l6 - l5) = (l3 - l2) then ((FX6_same_34_2000000 l5 l2 l3 u).bind fun x2 => (if x2 = 0 then (FX6_keyword_34_2000000_b64 k9 l2 l3 l4 l6 u) else (some l4))) else (FX6_keyword_34_2000000_b64 k9 l2 l3 l4 l6 u))
theorem bX6_keyword_34_2000000_38 {G : Gt} {X : Xt} {v : Int32} {u : Mem} (hX : CxOk G X cX6_keyword 7 RX6 (some (.int v), (SHg G), (RHg G), u) 8) (hR : CxRet G X (some .int) (some (.int v), (SHg G), (RHg G), u)) {k9 : Int32 → Int32 → Int32 → Int32 → Int32 → Mem → Option Int32} (hk9 : ∀ (l2 l3 l4 l5 l6 : Int32), k9 l2 l3 l4 l5 l6 u = some v → WM G X 9 [(0, .ref 34), (1, .ref 2000000), (2, .int l2), (3, .int l3), (4, .int l4), (5, .int l5), (6, .int l6)] [] (SHg G) (RHg G) u) (l2 l3 l4 l5 l6 : Int32) (h : FX6_keyword_34_2000000_b38 k9 l2 l3 l4 l5 l6 u = some v) : WM G X 38 [(0, .ref 34), (1, .ref 2000000), (2, .int l2), (3, .int l3), (4, .int l4), (5, .int l5), (6, .int l6)] [] (SHg G) (RHg G) u := by
  unfold FX6_keyword_34_2000000_b38 at h
  refine w_iload 6 38 hX rfl dX6_keyword_38 ?_
  refine w_iload 5 40 hX rfl dX6_keyword_40 ?_
  refine w_isub 42 hX dX6_keyword_42 ?_
  refine w_iload_n 3 43 hX rfl rfl dX6_keyword_43 ?_
  refine w_iload_n 2 44 hX rfl rfl dX6_keyword_44 ?_
  refine w_isub 45 hX dX6_keyword_45 ?_
  refine w_icmp_ne (tgt := 64) 46 hX dX6_keyword_46 (by decide) (fun c1 => ?_) (fun c1 => ?_)
  · have h := ie h c1
    exact w_sub [0, 1, 2, 3, 4, 6] rfl (bX6_keyword_34_2000000_64 hX hR hk9 l2 l3 l4 l6 h)
  · have h := it h c1
    refine w_aload_n 0 49 hX rfl rfl dX6_keyword_49 ?_
    refine w_aload_n 1 50 hX rfl rfl dX6_keyword_50 ?_
    refine w_iload 5 51 hX rfl dX6_keyword_51 ?_
    refine w_iload_n 2 53 hX rfl rfl dX6_keyword_53 ?_
    refine w_iload_n 3 54 hX rfl rfl dX6_keyword_54 ?_
    obtain ⟨x2, gx2, h⟩ := o_bind h
    refine w_invVi (av := [.ref 2000000, .int l5, .int l2, .int l3]) (st := []) 55 hX CI_6 s_34 rfl mv_yX6_same mi_yX6_same ml_X6_184 (CX6_same_34_2000000 l5 l2 l3 u gx2) rfl (by decide) (Nat.le_of_ble_eq_true rfl) (Nat.le_refl _) (Nat.le_refl _) dX6_keyword_55 ?_
    refine w_if_eq (tgt := 64) 58 hX dX6_keyword_58 (by decide) (fun c3 => ?_) (fun c3 => ?_)
    · have h := it h c3
      exact w_sub [0, 1, 2, 3, 4, 6] rfl (bX6_keyword_34_2000000_64 hX hR hk9 l2 l3 l4 l6 h)
    · have h := ie h c3
      refine w_iload 4 61 hX rfl dX6_keyword_61 ?_
      exact w_iret 63 hX hR dX6_keyword_63 (by cases h; rfl)
def FX6_keyword_34_2000000_b9 (k9 : Int32 → Int32 → Int32 → Int32 → Int32 → Mem → Option Int32) (l2 l3 l4 l5 l6 : Int32) (u : Mem) : Option Int32 :=
  (S_len 0).bind fun x1 => (if x1 < l6 then (some (-1)) else ((S_len 0).bind fun x3 => (if l6 = x3 then (FX6_keyword_34_2000000_b38 k9 l2 l3 l4 l5 l6 u) else ((S_chr 0 l6).bind fun x5 => (if x5 = 32 then (FX6_keyword_34_2000000_b38 k9 l2 l3 l4 l5 l6 u) else (FX6_keyword_34_2000000_b73 k9 l2 l3 l4 l5 l6 u))))))
theorem bX6_keyword_34_2000000_9 {G : Gt} {X : Xt} {v : Int32} {u : Mem} (hX : CxOk G X cX6_keyword 7 RX6 (some (.int v), (SHg G), (RHg G), u) 8) (hR : CxRet G X (some .int) (some (.int v), (SHg G), (RHg G), u)) {k9 : Int32 → Int32 → Int32 → Int32 → Int32 → Mem → Option Int32} (hk9 : ∀ (l2 l3 l4 l5 l6 : Int32), k9 l2 l3 l4 l5 l6 u = some v → WM G X 9 [(0, .ref 34), (1, .ref 2000000), (2, .int l2), (3, .int l3), (4, .int l4), (5, .int l5), (6, .int l6)] [] (SHg G) (RHg G) u) (l2 l3 l4 l5 l6 : Int32) (h : FX6_keyword_34_2000000_b9 k9 l2 l3 l4 l5 l6 u = some v) : WM G X 9 [(0, .ref 34), (1, .ref 2000000), (2, .int l2), (3, .int l3), (4, .int l4), (5, .int l5), (6, .int l6)] [] (SHg G) (RHg G) u := by
  unfold FX6_keyword_34_2000000_b9 at h
  refine w_iload 6 9 hX rfl dX6_keyword_9 ?_
  refine w_aload_n 1 11 hX rfl rfl dX6_keyword_11 ?_
  obtain ⟨x1, gx1, h⟩ := o_bind h
  refine w_S_len (i := 0) (st := [.int l6]) 12 hX ml_X6_177 gx1 (by decide) (by decide) (Nat.le_of_ble_eq_true rfl) dX6_keyword_12 ?_
  refine w_icmp_gt (tgt := 79) 15 hX dX6_keyword_15 (by decide) (fun c2 => ?_) (fun c2 => ?_)
  · have h := it h c2
    refine w_iconst (-1) 79 hX ic_m1 dX6_keyword_79 ?_
    exact w_iret 80 hX hR dX6_keyword_80 (by cases h; rfl)
  · have h := ie h c2
    refine w_iload 6 18 hX rfl dX6_keyword_18 ?_
    refine w_aload_n 1 20 hX rfl rfl dX6_keyword_20 ?_
    obtain ⟨x3, gx3, h⟩ := o_bind h
    refine w_S_len (i := 0) (st := [.int l6]) 21 hX ml_X6_177 gx3 (by decide) (by decide) (Nat.le_of_ble_eq_true rfl) dX6_keyword_21 ?_
    refine w_icmp_eq (tgt := 38) 24 hX dX6_keyword_24 (by decide) (fun c4 => ?_) (fun c4 => ?_)
    · have h := it h c4
      exact bX6_keyword_34_2000000_38 hX hR hk9 l2 l3 l4 l5 l6 h
    · have h := ie h c4
      refine w_aload_n 1 27 hX rfl rfl dX6_keyword_27 ?_
      refine w_iload 6 28 hX rfl dX6_keyword_28 ?_
      obtain ⟨x5, gx5, h⟩ := o_bind h
      refine w_S_chr (i := 0) (st := []) 30 hX ml_X6_180 gx5 (by decide) (by decide) (Nat.le_of_ble_eq_true rfl) dX6_keyword_30 ?_
      refine w_bipush 32 33 hX ib_32 dX6_keyword_33 ?_
      refine w_icmp_ne (tgt := 73) 35 hX dX6_keyword_35 (by decide) (fun c6 => ?_) (fun c6 => ?_)
      · have h := ie h c6
        exact bX6_keyword_34_2000000_73 hX hR hk9 l2 l3 l4 l5 l6 h
      · have h := it h c6
        exact bX6_keyword_34_2000000_38 hX hR hk9 l2 l3 l4 l5 l6 h
def FX6_keyword_34_2000000_L9 : Nat → Int32 → Int32 → Int32 → Int32 → Int32 → Mem → Option Int32
  | 0, _, _, _, _, _, _ => none
  | n + 1, l2, l3, l4, l5, l6, u => FX6_keyword_34_2000000_b9 (FX6_keyword_34_2000000_L9 n) l2 l3 l4 l5 l6 u
theorem lX6_keyword_34_2000000_9 {G : Gt} {X : Xt} {v : Int32} {u : Mem} (hX : CxOk G X cX6_keyword 7 RX6 (some (.int v), (SHg G), (RHg G), u) 8) (hR : CxRet G X (some .int) (some (.int v), (SHg G), (RHg G), u)) : ∀ (n : Nat) (l2 l3 l4 l5 l6 : Int32), FX6_keyword_34_2000000_L9 n l2 l3 l4 l5 l6 u = some v → WM G X 9 [(0, .ref 34), (1, .ref 2000000), (2, .int l2), (3, .int l3), (4, .int l4), (5, .int l5), (6, .int l6)] [] (SHg G) (RHg G) u := by
  intro n
  induction n with
  | zero =>
    intro l2 l3 l4 l5 l6 h
    exact nn_ h
  | succ n ih =>
    intro l2 l3 l4 l5 l6 h
    exact bX6_keyword_34_2000000_9 hX hR ih l2 l3 l4 l5 l6 h
def FX6_keyword_34_2000000 (p2 p3 : Int32) (u : Mem) : Option Int32 :=
  FX6_keyword_34_2000000_L9 FU p2 p3 0 0 0 u
theorem CX6_keyword_34_2000000 {G : Gt} (p2 p3 : Int32) (u : Mem) {v : Int32} (h : FX6_keyword_34_2000000 p2 p3 u = some v) : CT G yX6_keyword cX6_keyword 7 (some .int) 8 [.ref 34, .ref 2000000, .int p2, .int p3] (SHg G) (RHg G) u (some (.int v), (SHg G), (RHg G), u) :=
  ct_of (by decide) rfl (Nat.le_of_ble_eq_true rfl) (Nat.le_refl _) (Nat.le_refl _) (fun X hX hR => by
  unfold FX6_keyword_34_2000000 at h
  refine w_iconst 0 0 hX ic_0 dX6_keyword_0 ?_
  refine w_istore (lv' := [(4, .int 0), (0, .ref 34), (1, .ref 2000000), (2, .int p2), (3, .int p3)]) 1 hX dX6_keyword_1 (by decide) rfl ?_
  refine w_iconst 0 3 hX ic_0 dX6_keyword_3 ?_
  refine w_istore (lv' := [(5, .int 0), (4, .int 0), (0, .ref 34), (1, .ref 2000000), (2, .int p2), (3, .int p3)]) 4 hX dX6_keyword_4 (by decide) rfl ?_
  refine w_iconst 0 6 hX ic_0 dX6_keyword_6 ?_
  refine w_istore (lv' := [(6, .int 0), (5, .int 0), (4, .int 0), (0, .ref 34), (1, .ref 2000000), (2, .int p2), (3, .int p3)]) 7 hX dX6_keyword_7 (by decide) rfl ?_
  exact w_sub [3, 4, 5, 6, 2, 1, 0] rfl (lX6_keyword_34_2000000_9 hX hR FU p2 p3 0 0 0 h))
def FX6_token_34 (p1 p2 p3 : Int32) (u : Mem) : Option Mem :=
  (if (u 34 8) < 0 then (some u) else ((if 401 ≤ (u 34 8) then (some u) else ((wrA u 36 401 (u 34 8) p1).bind fun u3 => (wrA u3 37 401 (u3 34 8) p2).bind fun u4 => (wrA u4 38 401 (u4 34 8) p3).bind fun u5 => (some (mupd u5 34 8 ((u5 34 8) + 1))).bind fun u6 => some u6))))
theorem CX6_token_34 {G : Gt} (p1 p2 p3 : Int32) (u : Mem) {u' : Mem} (h : FX6_token_34 p1 p2 p3 u = some u') : CT G yX6_token cX6_token 4 none 1 [.ref 34, .int p1, .int p2, .int p3] (SHg G) (RHg G) u (none, (SHg G), (RHg G), u') :=
  ct_of (by decide) rfl (Nat.le_of_ble_eq_true rfl) (Nat.le_refl _) (Nat.le_refl _) (fun X hX hR => by
  unfold FX6_token_34 at h
  refine w_aload_n 0 0 hX rfl rfl dX6_token_0 ?_
  refine w_getI (j := 8) 1 hX CI_6 s_34 rfl fl_X6_135 rfl dX6_token_1 ?_
  refine w_if_lt (tgt := 59) 4 hX dX6_token_4 (by decide) (fun c1 => ?_) (fun c1 => ?_)
  · have h := it h c1
    exact w_vret 59 hX hR dX6_token_59 (by cases h; rfl)
  · have h := ie h c1
    refine w_aload_n 0 7 hX rfl rfl dX6_token_7 ?_
    refine w_getI (j := 8) 8 hX CI_6 s_34 rfl fl_X6_135 rfl dX6_token_8 ?_
    refine w_aload_n 0 11 hX rfl rfl dX6_token_11 ?_
    refine w_getR 12 hX CI_6 s_34 rfl r_34_1 fl_X6_15 rfl dX6_token_12 ?_
    refine w_alen 401 15 hX s_36 (by decide) dX6_token_15 ?_
    refine w_icmp_ge (tgt := 59) 16 hX dX6_token_16 (by decide) (fun c2 => ?_) (fun c2 => ?_)
    · have h := it h c2
      exact w_vret 59 hX hR dX6_token_59 (by cases h; rfl)
    · have h := ie h c2
      refine w_aload_n 0 19 hX rfl rfl dX6_token_19 ?_
      refine w_getR 20 hX CI_6 s_34 rfl r_34_1 fl_X6_15 rfl dX6_token_20 ?_
      refine w_aload_n 0 23 hX rfl rfl dX6_token_23 ?_
      refine w_getI (j := 8) 24 hX CI_6 s_34 rfl fl_X6_135 rfl dX6_token_24 ?_
      refine w_iload_n 1 27 hX rfl rfl dX6_token_27 ?_
      obtain ⟨u3, gu3, h⟩ := o_bind h
      refine w_iast 28 hX s_36 gu3 dX6_token_28 ?_
      refine w_aload_n 0 29 hX rfl rfl dX6_token_29 ?_
      refine w_getR 30 hX CI_6 s_34 rfl r_34_2 fl_X6_18 rfl dX6_token_30 ?_
      refine w_aload_n 0 33 hX rfl rfl dX6_token_33 ?_
      refine w_getI (j := 8) 34 hX CI_6 s_34 rfl fl_X6_135 rfl dX6_token_34 ?_
      refine w_iload_n 2 37 hX rfl rfl dX6_token_37 ?_
      obtain ⟨u4, gu4, h⟩ := o_bind h
      refine w_iast 38 hX s_37 gu4 dX6_token_38 ?_
      refine w_aload_n 0 39 hX rfl rfl dX6_token_39 ?_
      refine w_getR 40 hX CI_6 s_34 rfl r_34_3 fl_X6_21 rfl dX6_token_40 ?_
      refine w_aload_n 0 43 hX rfl rfl dX6_token_43 ?_
      refine w_getI (j := 8) 44 hX CI_6 s_34 rfl fl_X6_135 rfl dX6_token_44 ?_
      refine w_iload_n 3 47 hX rfl rfl dX6_token_47 ?_
      obtain ⟨u5, gu5, h⟩ := o_bind h
      refine w_iast 48 hX s_38 gu5 dX6_token_48 ?_
      refine w_aload_n 0 49 hX rfl rfl dX6_token_49 ?_
      refine w_dup 50 hX rfl dX6_token_50 ?_
      refine w_getI (j := 8) 51 hX CI_6 s_34 rfl fl_X6_135 rfl dX6_token_51 ?_
      refine w_iconst 1 54 hX ic_1 dX6_token_54 ?_
      refine w_iadd 55 hX dX6_token_55 ?_
      obtain ⟨u6, gu6, h⟩ := o_bind h
      refine w_putI (j := 8) 56 hX CI_6 s_34 rfl fl_X6_135 rfl rfl rfl rfl dX6_token_56 ?_
      rw [Option.some.inj gu6]
      exact w_vret 59 hX hR dX6_token_59 (by cases h; rfl))
def FX6_same_34_2000001_b38 (k3 : Int32 → Int32 → Int32 → Int32 → Mem → Option Int32) (l2 l3 l4 l5 t0 : Int32) (u : Mem) : Option Int32 :=
  (if t0 = 0 then (some 0) else ((S_chr 1 (l2 + l5)).bind fun x2 => (rdA u 35 400 (l3 + l5)).bind fun x3 => (if x2 = x3 then (k3 l2 l3 l4 (l5 + 1) u) else (some 0))))
theorem bX6_same_34_2000001_38 {G : Gt} {X : Xt} {v : Int32} {u : Mem} (hX : CxOk G X cX6_same 7 RX6 (some (.int v), (SHg G), (RHg G), u) 7) (hR : CxRet G X (some .boolean) (some (.int v), (SHg G), (RHg G), u)) {k3 : Int32 → Int32 → Int32 → Int32 → Mem → Option Int32} (hk3 : ∀ (l2 l3 l4 l5 : Int32), k3 l2 l3 l4 l5 u = some v → WM G X 3 [(0, .ref 34), (1, .ref 2000001), (2, .int l2), (3, .int l3), (4, .int l4), (5, .int l5)] [] (SHg G) (RHg G) u) (l2 l3 l4 l5 t0 : Int32) (h : FX6_same_34_2000001_b38 k3 l2 l3 l4 l5 t0 u = some v) : WM G X 38 [(0, .ref 34), (1, .ref 2000001), (2, .int l2), (3, .int l3), (4, .int l4), (5, .int l5)] [.int t0] (SHg G) (RHg G) u := by
  unfold FX6_same_34_2000001_b38 at h
  refine w_istore (lv' := [(6, .int t0), (0, .ref 34), (1, .ref 2000001), (2, .int l2), (3, .int l3), (4, .int l4), (5, .int l5)]) 38 hX dX6_same_38 (by decide) rfl ?_
  refine w_iload 0 40 hX rfl dX6_same_40 ?_
  refine w_if_eq (tgt := 65) 42 hX dX6_same_42 (by decide) (fun c1 => ?_) (fun c1 => ?_)
  · have h := it h c1
    refine w_iconst 0 65 hX ic_0 dX6_same_65 ?_
    exact w_zret 66 hX hR (by decide) dX6_same_66 (by cases h; rfl)
  · have h := ie h c1
    refine w_aload_n 2 45 hX rfl rfl dX6_same_45 ?_
    refine w_iload_n 3 46 hX rfl rfl dX6_same_46 ?_
    refine w_iload 6 47 hX rfl dX6_same_47 ?_
    refine w_iadd 49 hX dX6_same_49 ?_
    obtain ⟨x2, gx2, h⟩ := o_bind h
    refine w_S_chr (i := 1) (st := []) 50 hX ml_X6_180 gx2 (by decide) (by decide) (Nat.le_of_ble_eq_true rfl) dX6_same_50 ?_
    refine w_aload_n 1 53 hX rfl rfl dX6_same_53 ?_
    refine w_getR 54 hX CI_6 s_34 rfl r_34_0 fl_X6_11 rfl dX6_same_54 ?_
    refine w_iload_n 4 57 hX rfl rfl dX6_same_57 ?_
    refine w_iload 6 58 hX rfl dX6_same_58 ?_
    refine w_iadd 60 hX dX6_same_60 ?_
    obtain ⟨x3, gx3, h⟩ := o_bind h
    refine w_iald 61 hX s_35 gx3 dX6_same_61 ?_
    refine w_icmp_eq (tgt := 67) 62 hX dX6_same_62 (by decide) (fun c4 => ?_) (fun c4 => ?_)
    · have h := it h c4
      refine w_iinc (lv' := [(5, .int (l5 + 1)), (6, .int t0), (0, .ref 34), (1, .ref 2000001), (2, .int l2), (3, .int l3), (4, .int l4)]) 67 6 hX dX6_same_67 rfl (inc_1 _) (by decide) rfl ?_
      refine w_goto (tgt := 3) 70 hX (by decide) dX6_same_70 ?_
      exact w_sub [2, 3, 4, 5, 6, 0] rfl (hk3 l2 l3 l4 (l5 + 1) h)
    · have h := ie h c4
      refine w_iconst 0 65 hX ic_0 dX6_same_65 ?_
      exact w_zret 66 hX hR (by decide) dX6_same_66 (by cases h; rfl)
def FX6_same_34_2000001_b3 (k3 : Int32 → Int32 → Int32 → Int32 → Mem → Option Int32) (l2 l3 l4 l5 : Int32) (u : Mem) : Option Int32 :=
  (if l4 ≤ (l3 + l5) then (some 1) else ((S_len 1).bind fun x2 => (if x2 ≤ (l2 + l5) then (FX6_same_34_2000001_b38 k3 l2 l3 l4 l5 0 u) else ((if 400 ≤ (l3 + l5) then (FX6_same_34_2000001_b38 k3 l2 l3 l4 l5 0 u) else (FX6_same_34_2000001_b38 k3 l2 l3 l4 l5 1 u))))))
theorem bX6_same_34_2000001_3 {G : Gt} {X : Xt} {v : Int32} {u : Mem} (hX : CxOk G X cX6_same 7 RX6 (some (.int v), (SHg G), (RHg G), u) 7) (hR : CxRet G X (some .boolean) (some (.int v), (SHg G), (RHg G), u)) {k3 : Int32 → Int32 → Int32 → Int32 → Mem → Option Int32} (hk3 : ∀ (l2 l3 l4 l5 : Int32), k3 l2 l3 l4 l5 u = some v → WM G X 3 [(0, .ref 34), (1, .ref 2000001), (2, .int l2), (3, .int l3), (4, .int l4), (5, .int l5)] [] (SHg G) (RHg G) u) (l2 l3 l4 l5 : Int32) (h : FX6_same_34_2000001_b3 k3 l2 l3 l4 l5 u = some v) : WM G X 3 [(0, .ref 34), (1, .ref 2000001), (2, .int l2), (3, .int l3), (4, .int l4), (5, .int l5)] [] (SHg G) (RHg G) u := by
  unfold FX6_same_34_2000001_b3 at h
  refine w_iload_n 3 3 hX rfl rfl dX6_same_3 ?_
  refine w_iload 5 4 hX rfl dX6_same_4 ?_
  refine w_iadd 6 hX dX6_same_6 ?_
  refine w_iload 4 7 hX rfl dX6_same_7 ?_
  refine w_icmp_ge (tgt := 73) 9 hX dX6_same_9 (by decide) (fun c1 => ?_) (fun c1 => ?_)
  · have h := it h c1
    refine w_iconst 1 73 hX ic_1 dX6_same_73 ?_
    exact w_zret 74 hX hR (by decide) dX6_same_74 (by cases h; rfl)
  · have h := ie h c1
    refine w_iload_n 2 12 hX rfl rfl dX6_same_12 ?_
    refine w_iload 5 13 hX rfl dX6_same_13 ?_
    refine w_iadd 15 hX dX6_same_15 ?_
    refine w_aload_n 1 16 hX rfl rfl dX6_same_16 ?_
    obtain ⟨x2, gx2, h⟩ := o_bind h
    refine w_S_len (i := 1) (st := [.int (l2 + l5)]) 17 hX ml_X6_177 gx2 (by decide) (by decide) (Nat.le_of_ble_eq_true rfl) dX6_same_17 ?_
    refine w_icmp_ge (tgt := 37) 20 hX dX6_same_20 (by decide) (fun c3 => ?_) (fun c3 => ?_)
    · have h := it h c3
      refine w_iconst 0 37 hX ic_0 dX6_same_37 ?_
      exact bX6_same_34_2000001_38 hX hR hk3 l2 l3 l4 l5 0 h
    · have h := ie h c3
      refine w_iload_n 3 23 hX rfl rfl dX6_same_23 ?_
      refine w_iload 5 24 hX rfl dX6_same_24 ?_
      refine w_iadd 26 hX dX6_same_26 ?_
      refine w_sipush 400 27 hX isp_400 dX6_same_27 ?_
      refine w_icmp_ge (tgt := 37) 30 hX dX6_same_30 (by decide) (fun c4 => ?_) (fun c4 => ?_)
      · have h := it h c4
        refine w_iconst 0 37 hX ic_0 dX6_same_37 ?_
        exact bX6_same_34_2000001_38 hX hR hk3 l2 l3 l4 l5 0 h
      · have h := ie h c4
        refine w_iconst 1 33 hX ic_1 dX6_same_33 ?_
        refine w_goto (tgt := 38) 34 hX (by decide) dX6_same_34 ?_
        exact bX6_same_34_2000001_38 hX hR hk3 l2 l3 l4 l5 1 h
def FX6_same_34_2000001_L3 : Nat → Int32 → Int32 → Int32 → Int32 → Mem → Option Int32
  | 0, _, _, _, _, _ => none
  | n + 1, l2, l3, l4, l5, u => FX6_same_34_2000001_b3 (FX6_same_34_2000001_L3 n) l2 l3 l4 l5 u
theorem lX6_same_34_2000001_3 {G : Gt} {X : Xt} {v : Int32} {u : Mem} (hX : CxOk G X cX6_same 7 RX6 (some (.int v), (SHg G), (RHg G), u) 7) (hR : CxRet G X (some .boolean) (some (.int v), (SHg G), (RHg G), u)) : ∀ (n : Nat) (l2 l3 l4 l5 : Int32), FX6_same_34_2000001_L3 n l2 l3 l4 l5 u = some v → WM G X 3 [(0, .ref 34), (1, .ref 2000001), (2, .int l2), (3, .int l3), (4, .int l4), (5, .int l5)] [] (SHg G) (RHg G) u := by
  intro n
  induction n with
  | zero =>
    intro l2 l3 l4 l5 h
    exact nn_ h
  | succ n ih =>
    intro l2 l3 l4 l5 h
    exact bX6_same_34_2000001_3 hX hR ih l2 l3 l4 l5 h
def FX6_same_34_2000001 (p2 p3 p4 : Int32) (u : Mem) : Option Int32 :=
  FX6_same_34_2000001_L3 FU p2 p3 p4 0 u
theorem CX6_same_34_2000001 {G : Gt} (p2 p3 p4 : Int32) (u : Mem) {v : Int32} (h : FX6_same_34_2000001 p2 p3 p4 u = some v) : CT G yX6_same cX6_same 7 (some .boolean) 7 [.ref 34, .ref 2000001, .int p2, .int p3, .int p4] (SHg G) (RHg G) u (some (.int v), (SHg G), (RHg G), u) :=
  ct_of (by decide) rfl (Nat.le_of_ble_eq_true rfl) (Nat.le_refl _) (Nat.le_refl _) (fun X hX hR => by
  unfold FX6_same_34_2000001 at h
  refine w_iconst 0 0 hX ic_0 dX6_same_0 ?_
  refine w_istore (lv' := [(5, .int 0), (0, .ref 34), (1, .ref 2000001), (2, .int p2), (3, .int p3), (4, .int p4)]) 1 hX dX6_same_1 (by decide) rfl ?_
  exact w_sub [1, 2, 3, 4, 5, 0] rfl (lX6_same_34_2000001_3 hX hR FU p2 p3 p4 0 h))
def FX6_keyword_34_2000001_b73 (k9 : Int32 → Int32 → Int32 → Int32 → Int32 → Mem → Option Int32) (l2 l3 l4 l5 l6 : Int32) (u : Mem) : Option Int32 :=
  k9 l2 l3 l4 l5 (l6 + 1) u
theorem bX6_keyword_34_2000001_73 {G : Gt} {X : Xt} {v : Int32} {u : Mem} (hX : CxOk G X cX6_keyword 7 RX6 (some (.int v), (SHg G), (RHg G), u) 8) (hR : CxRet G X (some .int) (some (.int v), (SHg G), (RHg G), u)) {k9 : Int32 → Int32 → Int32 → Int32 → Int32 → Mem → Option Int32} (hk9 : ∀ (l2 l3 l4 l5 l6 : Int32), k9 l2 l3 l4 l5 l6 u = some v → WM G X 9 [(0, .ref 34), (1, .ref 2000001), (2, .int l2), (3, .int l3), (4, .int l4), (5, .int l5), (6, .int l6)] [] (SHg G) (RHg G) u) (l2 l3 l4 l5 l6 : Int32) (h : FX6_keyword_34_2000001_b73 k9 l2 l3 l4 l5 l6 u = some v) : WM G X 73 [(0, .ref 34), (1, .ref 2000001), (2, .int l2), (3, .int l3), (4, .int l4), (5, .int l5), (6, .int l6)] [] (SHg G) (RHg G) u := by
  unfold FX6_keyword_34_2000001_b73 at h
  refine w_iinc (lv' := [(6, .int (l6 + 1)), (0, .ref 34), (1, .ref 2000001), (2, .int l2), (3, .int l3), (4, .int l4), (5, .int l5)]) 73 6 hX dX6_keyword_73 rfl (inc_1 _) (by decide) rfl ?_
  refine w_goto (tgt := 9) 76 hX (by decide) dX6_keyword_76 ?_
  exact w_sub [1, 2, 3, 4, 5, 6, 0] rfl (hk9 l2 l3 l4 l5 (l6 + 1) h)
def FX6_keyword_34_2000001_b64 (k9 : Int32 → Int32 → Int32 → Int32 → Int32 → Mem → Option Int32) (l2 l3 l4 l6 : Int32) (u : Mem) : Option Int32 :=
  FX6_keyword_34_2000001_b73 k9 l2 l3 (l4 + 1) (l6 + 1) l6 u
theorem bX6_keyword_34_2000001_64 {G : Gt} {X : Xt} {v : Int32} {u : Mem} (hX : CxOk G X cX6_keyword 7 RX6 (some (.int v), (SHg G), (RHg G), u) 8) (hR : CxRet G X (some .int) (some (.int v), (SHg G), (RHg G), u)) {k9 : Int32 → Int32 → Int32 → Int32 → Int32 → Mem → Option Int32} (hk9 : ∀ (l2 l3 l4 l5 l6 : Int32), k9 l2 l3 l4 l5 l6 u = some v → WM G X 9 [(0, .ref 34), (1, .ref 2000001), (2, .int l2), (3, .int l3), (4, .int l4), (5, .int l5), (6, .int l6)] [] (SHg G) (RHg G) u) (l2 l3 l4 l6 : Int32) (h : FX6_keyword_34_2000001_b64 k9 l2 l3 l4 l6 u = some v) : WM G X 64 [(0, .ref 34), (1, .ref 2000001), (2, .int l2), (3, .int l3), (4, .int l4), (6, .int l6)] [] (SHg G) (RHg G) u := by
  unfold FX6_keyword_34_2000001_b64 at h
  refine w_iinc (lv' := [(4, .int (l4 + 1)), (0, .ref 34), (1, .ref 2000001), (2, .int l2), (3, .int l3), (6, .int l6)]) 64 4 hX dX6_keyword_64 rfl (inc_1 _) (by decide) rfl ?_
  refine w_iload 5 67 hX rfl dX6_keyword_67 ?_
  refine w_iconst 1 69 hX ic_1 dX6_keyword_69 ?_
  refine w_iadd 70 hX dX6_keyword_70 ?_
  refine w_istore (lv' := [(5, .int (l6 + 1)), (4, .int (l4 + 1)), (0, .ref 34), (1, .ref 2000001), (2, .int l2), (3, .int l3), (6, .int l6)]) 71 hX dX6_keyword_71 (by decide) rfl ?_
  exact w_sub [2, 3, 4, 5, 1, 0, 6] rfl (bX6_keyword_34_2000001_73 hX hR hk9 l2 l3 (l4 + 1) (l6 + 1) l6 h)
def FX6_keyword_34_2000001_b38 (k9 : Int32 → Int32 → Int32 → Int32 → Int32 → Mem → Option Int32) (l2 l3 l4 l5 l6 : Int32) (u : Mem) : Option Int32 :=
  (if (l6 - l5) = (l3 - l2) then ((FX6_same_34_2000001 l5 l2 l3 u).bind fun x2 => (if x2 = 0 then (FX6_keyword_34_2000001_b64 k9 l2 l3 l4 l6 u) else (some l4))) else (FX6_keyword_34_2000001_b64 k9 l2 l3 l4 l6 u))
theorem bX6_keyword_34_2000001_38 {G : Gt} {X : Xt} {v : Int32} {u : Mem} (hX : CxOk G X cX6_keyword 7 RX6 (some (.int v), (SHg G), (RHg G), u) 8) (hR : CxRet G X (some .int) (some (.int v), (SHg G), (RHg G), u)) {k9 : Int32 → Int32 → Int32 → Int32 → Int32 → Mem → Option Int32} (hk9 : ∀ (l2 l3 l4 l5 l6 : Int32), k9 l2 l3 l4 l5 l6 u = some v → WM G X 9 [(0, .ref 34), (1, .ref 2000001), (2, .int l2), (3, .int l3), (4, .int l4), (5, .int l5), (6, .int l6)] [] (SHg G) (RHg G) u) (l2 l3 l4 l5 l6 : Int32) (h : FX6_keyword_34_2000001_b38 k9 l2 l3 l4 l5 l6 u = some v) : WM G X 38 [(0, .ref 34), (1, .ref 2000001), (2, .int l2), (3, .int l3), (4, .int l4), (5, .int l5), (6, .int l6)] [] (SHg G) (RHg G) u := by
  unfold FX6_keyword_34_2000001_b38 at h
  refine w_iload 6 38 hX rfl dX6_keyword_38 ?_
  refine w_iload 5 40 hX rfl dX6_keyword_40 ?_
  refine w_isub 42 hX dX6_keyword_42 ?_
  refine w_iload_n 3 43 hX rfl rfl dX6_keyword_43 ?_
  refine w_iload_n 2 44 hX rfl rfl dX6_keyword_44 ?_
  refine w_isub 45 hX dX6_keyword_45 ?_
  refine w_icmp_ne (tgt := 64) 46 hX dX6_keyword_46 (by decide) (fun c1 => ?_) (fun c1 => ?_)
  · have h := ie h c1
    exact w_sub [0, 1, 2, 3, 4, 6] rfl (bX6_keyword_34_2000001_64 hX hR hk9 l2 l3 l4 l6 h)
  · have h := it h c1
    refine w_aload_n 0 49 hX rfl rfl dX6_keyword_49 ?_
    refine w_aload_n 1 50 hX rfl rfl dX6_keyword_50 ?_
    refine w_iload 5 51 hX rfl dX6_keyword_51 ?_
    refine w_iload_n 2 53 hX rfl rfl dX6_keyword_53 ?_
    refine w_iload_n 3 54 hX rfl rfl dX6_keyword_54 ?_
    obtain ⟨x2, gx2, h⟩ := o_bind h
    refine w_invVi (av := [.ref 2000001, .int l5, .int l2, .int l3]) (st := []) 55 hX CI_6 s_34 rfl mv_yX6_same mi_yX6_same ml_X6_184 (CX6_same_34_2000001 l5 l2 l3 u gx2) rfl (by decide) (Nat.le_of_ble_eq_true rfl) (Nat.le_refl _) (Nat.le_refl _) dX6_keyword_55 ?_
    refine w_if_eq (tgt := 64) 58 hX dX6_keyword_58 (by decide) (fun c3 => ?_) (fun c3 => ?_)
    · have h := it h c3
      exact w_sub [0, 1, 2, 3, 4, 6] rfl (bX6_keyword_34_2000001_64 hX hR hk9 l2 l3 l4 l6 h)
    · have h := ie h c3
      refine w_iload 4 61 hX rfl dX6_keyword_61 ?_
      exact w_iret 63 hX hR dX6_keyword_63 (by cases h; rfl)
def FX6_keyword_34_2000001_b9 (k9 : Int32 → Int32 → Int32 → Int32 → Int32 → Mem → Option Int32) (l2 l3 l4 l5 l6 : Int32) (u : Mem) : Option Int32 :=
  (S_len 1).bind fun x1 => (if x1 < l6 then (some (-1)) else ((S_len 1).bind fun x3 => (if l6 = x3 then (FX6_keyword_34_2000001_b38 k9 l2 l3 l4 l5 l6 u) else ((S_chr 1 l6).bind fun x5 => (if x5 = 32 then (FX6_keyword_34_2000001_b38 k9 l2 l3 l4 l5 l6 u) else (FX6_keyword_34_2000001_b73 k9 l2 l3 l4 l5 l6 u))))))
theorem bX6_keyword_34_2000001_9 {G : Gt} {X : Xt} {v : Int32} {u : Mem} (hX : CxOk G X cX6_keyword 7 RX6 (some (.int v), (SHg G), (RHg G), u) 8) (hR : CxRet G X (some .int) (some (.int v), (SHg G), (RHg G), u)) {k9 : Int32 → Int32 → Int32 → Int32 → Int32 → Mem → Option Int32} (hk9 : ∀ (l2 l3 l4 l5 l6 : Int32), k9 l2 l3 l4 l5 l6 u = some v → WM G X 9 [(0, .ref 34), (1, .ref 2000001), (2, .int l2), (3, .int l3), (4, .int l4), (5, .int l5), (6, .int l6)] [] (SHg G) (RHg G) u) (l2 l3 l4 l5 l6 : Int32) (h : FX6_keyword_34_2000001_b9 k9 l2 l3 l4 l5 l6 u = some v) : WM G X 9 [(0, .ref 34), (1, .ref 2000001), (2, .int l2), (3, .int l3), (4, .int l4), (5, .int l5), (6, .int l6)] [] (SHg G) (RHg G) u := by
  unfold FX6_keyword_34_2000001_b9 at h
  refine w_iload 6 9 hX rfl dX6_keyword_9 ?_
  refine w_aload_n 1 11 hX rfl rfl dX6_keyword_11 ?_
  obtain ⟨x1, gx1, h⟩ := o_bind h
  refine w_S_len (i := 1) (st := [.int l6]) 12 hX ml_X6_177 gx1 (by decide) (by decide) (Nat.le_of_ble_eq_true rfl) dX6_keyword_12 ?_
  refine w_icmp_gt (tgt := 79) 15 hX dX6_keyword_15 (by decide) (fun c2 => ?_) (fun c2 => ?_)
  · have h := it h c2
    refine w_iconst (-1) 79 hX ic_m1 dX6_keyword_79 ?_
    exact w_iret 80 hX hR dX6_keyword_80 (by cases h; rfl)
  · have h := ie h c2
    refine w_iload 6 18 hX rfl dX6_keyword_18 ?_
    refine w_aload_n 1 20 hX rfl rfl dX6_keyword_20 ?_
    obtain ⟨x3, gx3, h⟩ := o_bind h
    refine w_S_len (i := 1) (st := [.int l6]) 21 hX ml_X6_177 gx3 (by decide) (by decide) (Nat.le_of_ble_eq_true rfl) dX6_keyword_21 ?_
    refine w_icmp_eq (tgt := 38) 24 hX dX6_keyword_24 (by decide) (fun c4 => ?_) (fun c4 => ?_)
    · have h := it h c4
      exact bX6_keyword_34_2000001_38 hX hR hk9 l2 l3 l4 l5 l6 h
    · have h := ie h c4
      refine w_aload_n 1 27 hX rfl rfl dX6_keyword_27 ?_
      refine w_iload 6 28 hX rfl dX6_keyword_28 ?_
      obtain ⟨x5, gx5, h⟩ := o_bind h
      refine w_S_chr (i := 1) (st := []) 30 hX ml_X6_180 gx5 (by decide) (by decide) (Nat.le_of_ble_eq_true rfl) dX6_keyword_30 ?_
      refine w_bipush 32 33 hX ib_32 dX6_keyword_33 ?_
      refine w_icmp_ne (tgt := 73) 35 hX dX6_keyword_35 (by decide) (fun c6 => ?_) (fun c6 => ?_)
      · have h := ie h c6
        exact bX6_keyword_34_2000001_73 hX hR hk9 l2 l3 l4 l5 l6 h
      · have h := it h c6
        exact bX6_keyword_34_2000001_38 hX hR hk9 l2 l3 l4 l5 l6 h
def FX6_keyword_34_2000001_L9 : Nat → Int32 → Int32 → Int32 → Int32 → Int32 → Mem → Option Int32
  | 0, _, _, _, _, _, _ => none
  | n + 1, l2, l3, l4, l5, l6, u => FX6_keyword_34_2000001_b9 (FX6_keyword_34_2000001_L9 n) l2 l3 l4 l5 l6 u
theorem lX6_keyword_34_2000001_9 {G : Gt} {X : Xt} {v : Int32} {u : Mem} (hX : CxOk G X cX6_keyword 7 RX6 (some (.int v), (SHg G), (RHg G), u) 8) (hR : CxRet G X (some .int) (some (.int v), (SHg G), (RHg G), u)) : ∀ (n : Nat) (l2 l3 l4 l5 l6 : Int32), FX6_keyword_34_2000001_L9 n l2 l3 l4 l5 l6 u = some v → WM G X 9 [(0, .ref 34), (1, .ref 2000001), (2, .int l2), (3, .int l3), (4, .int l4), (5, .int l5), (6, .int l6)] [] (SHg G) (RHg G) u := by
  intro n
  induction n with
  | zero =>
    intro l2 l3 l4 l5 l6 h
    exact nn_ h
  | succ n ih =>
    intro l2 l3 l4 l5 l6 h
    exact bX6_keyword_34_2000001_9 hX hR ih l2 l3 l4 l5 l6 h
def FX6_keyword_34_2000001 (p2 p3 : Int32) (u : Mem) : Option Int32 :=
  FX6_keyword_34_2000001_L9 FU p2 p3 0 0 0 u
theorem CX6_keyword_34_2000001 {G : Gt} (p2 p3 : Int32) (u : Mem) {v : Int32} (h : FX6_keyword_34_2000001 p2 p3 u = some v) : CT G yX6_keyword cX6_keyword 7 (some .int) 8 [.ref 34, .ref 2000001, .int p2, .int p3] (SHg G) (RHg G) u (some (.int v), (SHg G), (RHg G), u) :=
  ct_of (by decide) rfl (Nat.le_of_ble_eq_true rfl) (Nat.le_refl _) (Nat.le_refl _) (fun X hX hR => by
  unfold FX6_keyword_34_2000001 at h
  refine w_iconst 0 0 hX ic_0 dX6_keyword_0 ?_
  refine w_istore (lv' := [(4, .int 0), (0, .ref 34), (1, .ref 2000001), (2, .int p2), (3, .int p3)]) 1 hX dX6_keyword_1 (by decide) rfl ?_
  refine w_iconst 0 3 hX ic_0 dX6_keyword_3 ?_
  refine w_istore (lv' := [(5, .int 0), (4, .int 0), (0, .ref 34), (1, .ref 2000001), (2, .int p2), (3, .int p3)]) 4 hX dX6_keyword_4 (by decide) rfl ?_
  refine w_iconst 0 6 hX ic_0 dX6_keyword_6 ?_
  refine w_istore (lv' := [(6, .int 0), (5, .int 0), (4, .int 0), (0, .ref 34), (1, .ref 2000001), (2, .int p2), (3, .int p3)]) 7 hX dX6_keyword_7 (by decide) rfl ?_
  exact w_sub [3, 4, 5, 6, 2, 1, 0] rfl (lX6_keyword_34_2000001_9 hX hR FU p2 p3 0 0 0 h))
