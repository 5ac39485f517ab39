def FX12_aTelling_146_b69 (k69 : Int32 → Mem → Option (Int32 × Mem)) (l1 : Int32) (u : Mem) : Option (Int32 × Mem) :=
  (if (u 146 18) = 5 then ((FX12_next0_146 u).bind fun u6 => bnd2 (FX12_another_146 l1 u6) fun x7 u8 => (if x7 = 0 then (some (0, u8)) else (k69 l1 u8))) else (bnd2 (FX12_need_146 159 u) fun x2 u3 => (bchk x2).bind fun x4 => some (x4, u3)))
theorem bX12_aTelling_146_69 {G : Gt} {X : Xt} {v : Int32} {u' : Mem} (hX : CxOk G X cX12_aTelling 2 RX12 (some (.int v), SH, RHO, u') 14) (hR : CxRet G X (some .boolean) (some (.int v), SH, RHO, u')) {k69 : Int32 → Mem → Option (Int32 × Mem)} (hk69 : ∀ (l1 : Int32) (u : Mem), k69 l1 u = some (v, u') → WM G X 69 [(0, .ref 146), (1, .int l1)] [] SH RHO u) (l1 : Int32) (u : Mem) (h : FX12_aTelling_146_b69 k69 l1 u = some (v, u')) : WM G X 69 [(0, .ref 146), (1, .int l1)] [] SH RHO u := by
  unfold FX12_aTelling_146_b69 at h
  refine w_aload_n 0 69 hX rfl rfl dX12_aTelling_69 ?_
  refine w_getI (j := 18) 70 hX CI_12 s_146 rfl fl_X12_170 rfl dX12_aTelling_70 ?_
  refine w_iconst 5 73 hX ic_5 dX12_aTelling_73 ?_
  refine w_icmp_ne (tgt := 91) 74 hX dX12_aTelling_74 (by decide) (fun c1 => ?_) (fun c1 => ?_)
  · have h := ie h c1
    refine w_aload_n 0 91 hX rfl rfl dX12_aTelling_91 ?_
    refine w_sipush 159 92 hX isp_159 dX12_aTelling_92 ?_
    obtain ⟨x2, u3, gx2, h⟩ := o_bnd2 h
    refine w_invVi (av := [.int 159]) (st := []) 95 hX CI_12 s_146 rfl mv_yX12_need mi_yX12_need ml_X12_226 (CX12_need_146 159 u gx2) rfl (by decide) (Nat.le_of_ble_eq_true rfl) (Nat.le_refl _) (Nat.le_refl _) dX12_aTelling_95 ?_
    obtain ⟨x4, gx4, h⟩ := o_bind h
    obtain ⟨jx4, nx4, mx4⟩ := bchk_ok gx4
    rw [jx4]
    exact w_zret 98 hX hR nx4 dX12_aTelling_98 (by cases h; rfl)
  · have h := it h c1
    refine w_aload_n 0 77 hX rfl rfl dX12_aTelling_77 ?_
    obtain ⟨u6, gu6, h⟩ := o_bind h
    refine w_invVv (av := []) (st := []) 78 hX CI_12 s_146 rfl mv_yX12_next0 mi_yX12_next0 ml_X12_194 (CX12_next0_146 u gu6) rfl (by decide) (Nat.le_of_ble_eq_true rfl) (Nat.le_refl _) (Nat.le_refl _) dX12_aTelling_78 ?_
    refine w_aload_n 0 81 hX rfl rfl dX12_aTelling_81 ?_
    refine w_iload_n 1 82 hX rfl rfl dX12_aTelling_82 ?_
    obtain ⟨x7, u8, gx7, h⟩ := o_bnd2 h
    refine w_invVi (av := [.int l1]) (st := []) 83 hX CI_12 s_146 rfl mv_yX12_another mi_yX12_another ml_X12_248 (CX12_another_146 l1 u6 gx7) rfl (by decide) (Nat.le_of_ble_eq_true rfl) (Nat.le_refl _) (Nat.le_refl _) dX12_aTelling_83 ?_
    refine w_if_ne (tgt := 69) 86 hX dX12_aTelling_86 (by decide) (fun c9 => ?_) (fun c9 => ?_)
    · have h := ie h c9
      exact hk69 l1 u8 h
    · have h := it h c9
      refine w_iconst 0 89 hX ic_0 dX12_aTelling_89 ?_
      exact w_zret 90 hX hR (by decide) dX12_aTelling_90 (by cases h; rfl)
def FX12_aTelling_146_L69 : Nat → Int32 → Mem → Option (Int32 × Mem)
  | 0, _, _ => none
  | n + 1, l1, u => FX12_aTelling_146_b69 (FX12_aTelling_146_L69 n) l1 u
theorem lX12_aTelling_146_69 {G : Gt} {X : Xt} {v : Int32} {u' : Mem} (hX : CxOk G X cX12_aTelling 2 RX12 (some (.int v), SH, RHO, u') 14) (hR : CxRet G X (some .boolean) (some (.int v), SH, RHO, u')) : ∀ (n : Nat) (l1 : Int32) (u : Mem), FX12_aTelling_146_L69 n l1 u = some (v, u') → WM G X 69 [(0, .ref 146), (1, .int l1)] [] SH RHO u := by
  intro n
  induction n with
  | zero =>
    intro l1 u h
    exact nn_ h
  | succ n ih =>
    intro l1 u h
    exact bX12_aTelling_146_69 hX hR ih l1 u h
def FX12_aTelling_146 (u : Mem) : Option (Int32 × Mem) :=
  bnd2 (FX12_number_146 0 ((u 147 78) - 1) u) fun x1 u2 => (if x1 = 0 then (some (0, u2)) else ((wrA u2 153 48 (2 * (u2 146 15)) (u2 146 26)).bind fun u4 => (wrA u4 153 48 ((2 * (u4 146 15)) + 1) 0).bind fun u5 => bnd2 (FX12_need_146 7 u5) fun x6 u7 => (if x6 = 0 then (some (0, u7)) else (bnd2 (FX12_another_146 (u2 146 26) u7) fun x9 u10 => (if x9 = 0 then (some (0, u10)) else (FX12_aTelling_146_L69 FU (u2 146 26) u10))))))
theorem CX12_aTelling_146 {G : Gt} (u : Mem) {v : Int32} {u' : Mem} (h : FX12_aTelling_146 u = some (v, u')) : CT G yX12_aTelling cX12_aTelling 2 (some .boolean) 14 [.ref 146] SH RHO u (some (.int v), SH, RHO, u') :=
  ct_of (by decide) rfl (Nat.le_of_ble_eq_true rfl) (Nat.le_refl _) (Nat.le_refl _) (fun X hX hR => by
  unfold FX12_aTelling_146 at h
  refine w_aload_n 0 0 hX rfl rfl dX12_aTelling_0 ?_
  refine w_iconst 0 1 hX ic_0 dX12_aTelling_1 ?_
  refine w_aload_n 0 2 hX rfl rfl dX12_aTelling_2 ?_
  refine w_getR 3 hX CI_12 s_146 rfl r_146_0 fl_X12_7 rfl dX12_aTelling_3 ?_
  refine w_bipush 78 6 hX ib_78 dX12_aTelling_6 ?_
  refine w_iald 8 hX s_147 (rdK 78 78 n_78 (by decide) (by decide)) dX12_aTelling_8 ?_
  refine w_iconst 1 9 hX ic_1 dX12_aTelling_9 ?_
  refine w_isub 10 hX dX12_aTelling_10 ?_
  obtain ⟨x1, u2, gx1, h⟩ := o_bnd2 h
  refine w_invVi (av := [.int 0, .int ((u 147 78) - 1)]) (st := []) 11 hX CI_12 s_146 rfl mv_yX12_number mi_yX12_number ml_X12_241 (CX12_number_146 0 ((u 147 78) - 1) u gx1) rfl (by decide) (Nat.le_of_ble_eq_true rfl) (Nat.le_refl _) (Nat.le_refl _) dX12_aTelling_11 ?_
  refine w_if_ne (tgt := 19) 14 hX dX12_aTelling_14 (by decide) (fun c3 => ?_) (fun c3 => ?_)
  · have h := ie h c3
    refine w_aload_n 0 19 hX rfl rfl dX12_aTelling_19 ?_
    refine w_getI (j := 26) 20 hX CI_12 s_146 rfl fl_X12_238 rfl dX12_aTelling_20 ?_
    refine w_istore_n (lv' := [(1, .int (u2 146 26)), (0, .ref 146)]) 23 hX rfl dX12_aTelling_23 (by decide) rfl ?_
    refine w_aload_n 1 24 hX rfl rfl dX12_aTelling_24 ?_
    refine w_getR 25 hX CI_12 s_146 rfl r_146_8 fl_X12_28 rfl dX12_aTelling_25 ?_
    refine w_iconst 2 28 hX ic_2 dX12_aTelling_28 ?_
    refine w_aload_n 1 29 hX rfl rfl dX12_aTelling_29 ?_
    refine w_getI (j := 15) 30 hX CI_12 s_146 rfl fl_X12_245 rfl dX12_aTelling_30 ?_
    refine w_imul 33 hX dX12_aTelling_33 ?_
    refine w_iload_n 0 34 hX rfl rfl dX12_aTelling_34 ?_
    obtain ⟨u4, gu4, h⟩ := o_bind h
    refine w_iast 35 hX s_153 gu4 dX12_aTelling_35 ?_
    refine w_aload_n 1 36 hX rfl rfl dX12_aTelling_36 ?_
    refine w_getR 37 hX CI_12 s_146 rfl r_146_8 fl_X12_28 rfl dX12_aTelling_37 ?_
    refine w_iconst 2 40 hX ic_2 dX12_aTelling_40 ?_
    refine w_aload_n 1 41 hX rfl rfl dX12_aTelling_41 ?_
    refine w_getI (j := 15) 42 hX CI_12 s_146 rfl fl_X12_245 rfl dX12_aTelling_42 ?_
    refine w_imul 45 hX dX12_aTelling_45 ?_
    refine w_iconst 1 46 hX ic_1 dX12_aTelling_46 ?_
    refine w_iadd 47 hX dX12_aTelling_47 ?_
    refine w_iconst 0 48 hX ic_0 dX12_aTelling_48 ?_
    obtain ⟨u5, gu5, h⟩ := o_bind h
    refine w_iast 49 hX s_153 gu5 dX12_aTelling_49 ?_
    refine w_aload_n 1 50 hX rfl rfl dX12_aTelling_50 ?_
    refine w_bipush 7 51 hX ib_7 dX12_aTelling_51 ?_
    obtain ⟨x6, u7, gx6, h⟩ := o_bnd2 h
    refine w_invVi (av := [.int 7]) (st := []) 53 hX CI_12 s_146 rfl mv_yX12_need mi_yX12_need ml_X12_226 (CX12_need_146 7 u5 gx6) rfl (by decide) (Nat.le_of_ble_eq_true rfl) (Nat.le_refl _) (Nat.le_refl _) dX12_aTelling_53 ?_
    refine w_if_eq (tgt := 67) 56 hX dX12_aTelling_56 (by decide) (fun c8 => ?_) (fun c8 => ?_)
    · have h := it h c8
      refine w_iconst 0 67 hX ic_0 dX12_aTelling_67 ?_
      exact w_zret 68 hX hR (by decide) dX12_aTelling_68 (by cases h; rfl)
    · have h := ie h c8
      refine w_aload_n 1 59 hX rfl rfl dX12_aTelling_59 ?_
      refine w_iload_n 0 60 hX rfl rfl dX12_aTelling_60 ?_
      obtain ⟨x9, u10, gx9, h⟩ := o_bnd2 h
      refine w_invVi (av := [.int (u2 146 26)]) (st := []) 61 hX CI_12 s_146 rfl mv_yX12_another mi_yX12_another ml_X12_248 (CX12_another_146 (u2 146 26) u7 gx9) rfl (by decide) (Nat.le_of_ble_eq_true rfl) (Nat.le_refl _) (Nat.le_refl _) dX12_aTelling_61 ?_
      refine w_if_ne (tgt := 69) 64 hX dX12_aTelling_64 (by decide) (fun c11 => ?_) (fun c11 => ?_)
      · have h := ie h c11
        exact w_sub [1, 0] rfl (lX12_aTelling_146_69 hX hR FU (u2 146 26) u10 h)
      · have h := it h c11
        refine w_iconst 0 67 hX ic_0 dX12_aTelling_67 ?_
        exact w_zret 68 hX hR (by decide) dX12_aTelling_68 (by cases h; rfl)
  · have h := it h c3
    refine w_iconst 0 17 hX ic_0 dX12_aTelling_17 ?_
    exact w_zret 18 hX hR (by decide) dX12_aTelling_18 (by cases h; rfl))
def FX12_aRow_146 (u : Mem) : Option (Int32 × Mem) :=
  (if (u 146 12) = 1 then (bnd2 (FX12_aTelling_146 u) fun x9 u10 => (bchk x9).bind fun x11 => some (x11, u10)) else ((if (u 146 12) = 2 then (bnd2 (FX12_aWeight_146 u) fun x6 u7 => (bchk x6).bind fun x8 => some (x8, u7)) else (bnd2 (FX12_anOrder_146 u) fun x3 u4 => (bchk x3).bind fun x5 => some (x5, u4)))))
theorem CX12_aRow_146 {G : Gt} (u : Mem) {v : Int32} {u' : Mem} (h : FX12_aRow_146 u = some (v, u')) : CT G yX12_aRow cX12_aRow 1 (some .boolean) 15 [.ref 146] SH RHO u (some (.int v), SH, RHO, u') :=
  ct_of (by decide) rfl (Nat.le_of_ble_eq_true rfl) (Nat.le_refl _) (Nat.le_refl _) (fun X hX hR => by
  unfold FX12_aRow_146 at h
  refine w_aload_n 0 0 hX rfl rfl dX12_aRow_0 ?_
  refine w_getI (j := 12) 1 hX CI_12 s_146 rfl fl_X12_151 rfl dX12_aRow_1 ?_
  refine w_iconst 1 4 hX ic_1 dX12_aRow_4 ?_
  refine w_icmp_ne (tgt := 15) 5 hX dX12_aRow_5 (by decide) (fun c1 => ?_) (fun c1 => ?_)
  · have h := ie h c1
    refine w_aload_n 0 15 hX rfl rfl dX12_aRow_15 ?_
    refine w_getI (j := 12) 16 hX CI_12 s_146 rfl fl_X12_151 rfl dX12_aRow_16 ?_
    refine w_iconst 2 19 hX ic_2 dX12_aRow_19 ?_
    refine w_icmp_ne (tgt := 30) 20 hX dX12_aRow_20 (by decide) (fun c2 => ?_) (fun c2 => ?_)
    · have h := ie h c2
      refine w_aload_n 0 30 hX rfl rfl dX12_aRow_30 ?_
      obtain ⟨x3, u4, gx3, h⟩ := o_bnd2 h
      refine w_invVi (av := []) (st := []) 31 hX CI_12 s_146 rfl mv_yX12_anOrder mi_yX12_anOrder ml_X12_257 (CX12_anOrder_146 u gx3) rfl (by decide) (Nat.le_of_ble_eq_true rfl) (Nat.le_refl _) (Nat.le_refl _) dX12_aRow_31 ?_
      obtain ⟨x5, gx5, h⟩ := o_bind h
      obtain ⟨jx5, nx5, mx5⟩ := bchk_ok gx5
      rw [jx5]
      exact w_zret 34 hX hR nx5 dX12_aRow_34 (by cases h; rfl)
    · have h := it h c2
      refine w_aload_n 0 23 hX rfl rfl dX12_aRow_23 ?_
      obtain ⟨x6, u7, gx6, h⟩ := o_bnd2 h
      refine w_invVi (av := []) (st := []) 24 hX CI_12 s_146 rfl mv_yX12_aWeight mi_yX12_aWeight ml_X12_254 (CX12_aWeight_146 u gx6) rfl (by decide) (Nat.le_of_ble_eq_true rfl) (Nat.le_refl _) (Nat.le_refl _) dX12_aRow_24 ?_
      refine w_goto (tgt := 34) 27 hX (by decide) dX12_aRow_27 ?_
      obtain ⟨x8, gx8, h⟩ := o_bind h
      obtain ⟨jx8, nx8, mx8⟩ := bchk_ok gx8
      rw [jx8]
      exact w_zret 34 hX hR nx8 dX12_aRow_34 (by cases h; rfl)
  · have h := it h c1
    refine w_aload_n 0 8 hX rfl rfl dX12_aRow_8 ?_
    obtain ⟨x9, u10, gx9, h⟩ := o_bnd2 h
    refine w_invVi (av := []) (st := []) 9 hX CI_12 s_146 rfl mv_yX12_aTelling mi_yX12_aTelling ml_X12_251 (CX12_aTelling_146 u gx9) rfl (by decide) (Nat.le_of_ble_eq_true rfl) (Nat.le_refl _) (Nat.le_refl _) dX12_aRow_9 ?_
    refine w_goto (tgt := 34) 12 hX (by decide) dX12_aRow_12 ?_
    obtain ⟨x11, gx11, h⟩ := o_bind h
    obtain ⟨jx11, nx11, mx11⟩ := bchk_ok gx11
    rw [jx11]
    exact w_zret 34 hX hR nx11 dX12_aRow_34 (by cases h; rfl))
def FX12_readsRows_146_b66 (l1 : Int32) (u : Mem) : Option (Int32 × Mem) :=
  (bchk l1).bind fun x1 => some (x1, u)
theorem bX12_readsRows_146_66 {G : Gt} {X : Xt} {v : Int32} {u' : Mem} (hX : CxOk G X cX12_readsRows 2 RX12 (some (.int v), SH, RHO, u') 16) (hR : CxRet G X (some .boolean) (some (.int v), SH, RHO, u')) (l1 : Int32) (u : Mem) (h : FX12_readsRows_146_b66 l1 u = some (v, u')) : WM G X 66 [(1, .int l1)] [] SH RHO u := by
  unfold FX12_readsRows_146_b66 at h
  refine w_iload_n 0 66 hX rfl rfl dX12_readsRows_66 ?_
  obtain ⟨x1, gx1, h⟩ := o_bind h
  obtain ⟨jx1, nx1, mx1⟩ := bchk_ok gx1
  rw [jx1]
  exact w_zret 67 hX hR nx1 dX12_readsRows_67 (by cases h; rfl)
def FX12_readsRows_146_b59 (k7 : Int32 → Mem → Option (Int32 × Mem)) (l1 t1 t2 : Int32) (u : Mem) : Option (Int32 × Mem) :=
  (some (mupd u 146 15 (t1 + t2))).bind fun u1 => k7 l1 u1
theorem bX12_readsRows_146_59 {G : Gt} {X : Xt} {v : Int32} {u' : Mem} (hX : CxOk G X cX12_readsRows 2 RX12 (some (.int v), SH, RHO, u') 16) (hR : CxRet G X (some .boolean) (some (.int v), SH, RHO, u')) {k7 : Int32 → Mem → Option (Int32 × Mem)} (hk7 : ∀ (l1 : Int32) (u : Mem), k7 l1 u = some (v, u') → WM G X 7 [(0, .ref 146), (1, .int l1)] [] SH RHO u) (l1 t1 t2 : Int32) (u : Mem) (h : FX12_readsRows_146_b59 k7 l1 t1 t2 u = some (v, u')) : WM G X 59 [(0, .ref 146), (1, .int l1)] [.int t2, .int t1, .ref 146] SH RHO u := by
  unfold FX12_readsRows_146_b59 at h
  refine w_iadd 59 hX dX12_readsRows_59 ?_
  obtain ⟨u1, gu1, h⟩ := o_bind h
  refine w_putI (j := 15) 60 hX CI_12 s_146 rfl fl_X12_245 rfl rfl rfl rfl dX12_readsRows_60 ?_
  rw [Option.some.inj gu1]
  refine w_goto (tgt := 7) 63 hX (by decide) dX12_readsRows_63 ?_
  exact hk7 l1 u1 h
def FX12_readsRows_146_b40 (k7 : Int32 → Mem → Option (Int32 × Mem)) (u : Mem) : Option (Int32 × Mem) :=
  bnd2 (FX12_aRow_146 u) fun x1 u2 => (if x1 = 0 then (FX12_readsRows_146_b59 k7 x1 (u2 146 15) 0 u2) else (FX12_readsRows_146_b59 k7 x1 (u2 146 15) 1 u2))
theorem bX12_readsRows_146_40 {G : Gt} {X : Xt} {v : Int32} {u' : Mem} (hX : CxOk G X cX12_readsRows 2 RX12 (some (.int v), SH, RHO, u') 16) (hR : CxRet G X (some .boolean) (some (.int v), SH, RHO, u')) {k7 : Int32 → Mem → Option (Int32 × Mem)} (hk7 : ∀ (l1 : Int32) (u : Mem), k7 l1 u = some (v, u') → WM G X 7 [(0, .ref 146), (1, .int l1)] [] SH RHO u) (u : Mem) (h : FX12_readsRows_146_b40 k7 u = some (v, u')) : WM G X 40 [(0, .ref 146)] [] SH RHO u := by
  unfold FX12_readsRows_146_b40 at h
  refine w_aload_n 0 40 hX rfl rfl dX12_readsRows_40 ?_
  obtain ⟨x1, u2, gx1, h⟩ := o_bnd2 h
  refine w_invVi (av := []) (st := []) 41 hX CI_12 s_146 rfl mv_yX12_aRow mi_yX12_aRow ml_X12_263 (CX12_aRow_146 u gx1) rfl (by decide) (Nat.le_of_ble_eq_true rfl) (Nat.le_refl _) (Nat.le_refl _) dX12_readsRows_41 ?_
  refine w_istore_n (lv' := [(1, .int x1), (0, .ref 146)]) 44 hX rfl dX12_readsRows_44 (by decide) rfl ?_
  refine w_aload_n 1 45 hX rfl rfl dX12_readsRows_45 ?_
  refine w_dup 46 hX rfl dX12_readsRows_46 ?_
  refine w_getI (j := 15) 47 hX CI_12 s_146 rfl fl_X12_245 rfl dX12_readsRows_47 ?_
  refine w_iload_n 0 50 hX rfl rfl dX12_readsRows_50 ?_
  refine w_if_eq (tgt := 58) 51 hX dX12_readsRows_51 (by decide) (fun c3 => ?_) (fun c3 => ?_)
  · have h := it h c3
    refine w_iconst 0 58 hX ic_0 dX12_readsRows_58 ?_
    exact w_sub [1, 0] rfl (bX12_readsRows_146_59 hX hR hk7 x1 (u2 146 15) 0 u2 h)
  · have h := ie h c3
    refine w_iconst 1 54 hX ic_1 dX12_readsRows_54 ?_
    refine w_goto (tgt := 59) 55 hX (by decide) dX12_readsRows_55 ?_
    exact w_sub [1, 0] rfl (bX12_readsRows_146_59 hX hR hk7 x1 (u2 146 15) 1 u2 h)
def FX12_readsRows_146_b7 (k7 : Int32 → Mem → Option (Int32 × Mem)) (l1 : Int32) (u : Mem) : Option (Int32 × Mem) :=
  (if l1 = 0 then (FX12_readsRows_146_b66 l1 u) else ((if (u 146 18) = 0 then (FX12_readsRows_146_b66 l1 u) else ((if (u 146 15) = 16 then ((FX12_begins_146 u).bind fun x4 => (if x4 = 0 then (FX12_readsRows_146_b40 k7 u) else (bnd2 (FX12_bad_146 3 u) fun x6 u7 => (bchk x6).bind fun x8 => some (x8, u7)))) else (FX12_readsRows_146_b40 k7 u))))))
theorem bX12_readsRows_146_7 {G : Gt} {X : Xt} {v : Int32} {u' : Mem} (hX : CxOk G X cX12_readsRows 2 RX12 (some (.int v), SH, RHO, u') 16) (hR : CxRet G X (some .boolean) (some (.int v), SH, RHO, u')) {k7 : Int32 → Mem → Option (Int32 × Mem)} (hk7 : ∀ (l1 : Int32) (u : Mem), k7 l1 u = some (v, u') → WM G X 7 [(0, .ref 146), (1, .int l1)] [] SH RHO u) (l1 : Int32) (u : Mem) (h : FX12_readsRows_146_b7 k7 l1 u = some (v, u')) : WM G X 7 [(0, .ref 146), (1, .int l1)] [] SH RHO u := by
  unfold FX12_readsRows_146_b7 at h
  refine w_iload_n 1 7 hX rfl rfl dX12_readsRows_7 ?_
  refine w_if_eq (tgt := 66) 8 hX dX12_readsRows_8 (by decide) (fun c1 => ?_) (fun c1 => ?_)
  · have h := it h c1
    exact w_sub [1] rfl (bX12_readsRows_146_66 hX hR l1 u h)
  · have h := ie h c1
    refine w_aload_n 0 11 hX rfl rfl dX12_readsRows_11 ?_
    refine w_getI (j := 18) 12 hX CI_12 s_146 rfl fl_X12_170 rfl dX12_readsRows_12 ?_
    refine w_if_eq (tgt := 66) 15 hX dX12_readsRows_15 (by decide) (fun c2 => ?_) (fun c2 => ?_)
    · have h := it h c2
      exact w_sub [1] rfl (bX12_readsRows_146_66 hX hR l1 u h)
    · have h := ie h c2
      refine w_aload_n 0 18 hX rfl rfl dX12_readsRows_18 ?_
      refine w_getI (j := 15) 19 hX CI_12 s_146 rfl fl_X12_245 rfl dX12_readsRows_19 ?_
      refine w_bipush 16 22 hX ib_16 dX12_readsRows_22 ?_
      refine w_icmp_ne (tgt := 40) 24 hX dX12_readsRows_24 (by decide) (fun c3 => ?_) (fun c3 => ?_)
      · have h := ie h c3
        exact w_sub [0] rfl (bX12_readsRows_146_40 hX hR hk7 u h)
      · have h := it h c3
        refine w_aload_n 0 27 hX rfl rfl dX12_readsRows_27 ?_
        obtain ⟨x4, gx4, h⟩ := o_bind h
        refine w_invVi (av := []) (st := []) 28 hX CI_12 s_146 rfl mv_yX12_begins mi_yX12_begins ml_X12_260 (CX12_begins_146 u gx4) rfl (by decide) (Nat.le_of_ble_eq_true rfl) (Nat.le_refl _) (Nat.le_refl _) dX12_readsRows_28 ?_
        refine w_if_eq (tgt := 40) 31 hX dX12_readsRows_31 (by decide) (fun c5 => ?_) (fun c5 => ?_)
        · have h := it h c5
          exact w_sub [0] rfl (bX12_readsRows_146_40 hX hR hk7 u h)
        · have h := ie h c5
          refine w_aload_n 0 34 hX rfl rfl dX12_readsRows_34 ?_
          refine w_iconst 3 35 hX ic_3 dX12_readsRows_35 ?_
          obtain ⟨x6, u7, gx6, h⟩ := o_bnd2 h
          refine w_invVi (av := [.int 3]) (st := []) 36 hX CI_12 s_146 rfl mv_yX12_bad mi_yX12_bad ml_X12_191 (CX12_bad_146 3 u gx6) rfl (by decide) (Nat.le_of_ble_eq_true rfl) (Nat.le_refl _) (Nat.le_refl _) dX12_readsRows_36 ?_
          obtain ⟨x8, gx8, h⟩ := o_bind h
          obtain ⟨jx8, nx8, mx8⟩ := bchk_ok gx8
          rw [jx8]
          exact w_zret 39 hX hR nx8 dX12_readsRows_39 (by cases h; rfl)
def FX12_readsRows_146_L7 : Nat → Int32 → Mem → Option (Int32 × Mem)
  | 0, _, _ => none
  | n + 1, l1, u => FX12_readsRows_146_b7 (FX12_readsRows_146_L7 n) l1 u
theorem lX12_readsRows_146_7 {G : Gt} {X : Xt} {v : Int32} {u' : Mem} (hX : CxOk G X cX12_readsRows 2 RX12 (some (.int v), SH, RHO, u') 16) (hR : CxRet G X (some .boolean) (some (.int v), SH, RHO, u')) : ∀ (n : Nat) (l1 : Int32) (u : Mem), FX12_readsRows_146_L7 n l1 u = some (v, u') → WM G X 7 [(0, .ref 146), (1, .int l1)] [] SH RHO u := by
  intro n
  induction n with
  | zero =>
    intro l1 u h
    exact nn_ h
  | succ n ih =>
    intro l1 u h
    exact bX12_readsRows_146_7 hX hR ih l1 u h
def FX12_readsRows_146 (u : Mem) : Option (Int32 × Mem) :=
  (some (mupd u 146 15 0)).bind fun u1 => FX12_readsRows_146_L7 FU 1 u1
theorem CX12_readsRows_146 {G : Gt} (u : Mem) {v : Int32} {u' : Mem} (h : FX12_readsRows_146 u = some (v, u')) : CT G yX12_readsRows cX12_readsRows 2 (some .boolean) 16 [.ref 146] SH RHO u (some (.int v), SH, RHO, u') :=
  ct_of (by decide) rfl (Nat.le_of_ble_eq_true rfl) (Nat.le_refl _) (Nat.le_refl _) (fun X hX hR => by
  unfold FX12_readsRows_146 at h
  refine w_aload_n 0 0 hX rfl rfl dX12_readsRows_0 ?_
  refine w_iconst 0 1 hX ic_0 dX12_readsRows_1 ?_
  obtain ⟨u1, gu1, h⟩ := o_bind h
  refine w_putI (j := 15) 2 hX CI_12 s_146 rfl fl_X12_245 rfl rfl rfl rfl dX12_readsRows_2 ?_
  rw [Option.some.inj gu1]
  refine w_iconst 1 5 hX ic_1 dX12_readsRows_5 ?_
  refine w_istore_n (lv' := [(1, .int 1), (0, .ref 146)]) 6 hX rfl dX12_readsRows_6 (by decide) rfl ?_
  exact w_sub [1, 0] rfl (lX12_readsRows_146_7 hX hR FU 1 u1 h))
def FX12_lay_146 (p1 p2 : Int32) (u : Mem) : Option Mem :=
  (wrA u 152 820 (2 * (u 146 14)) p1).bind fun u1 => (wrA u1 152 820 ((2 * (u1 146 14)) + 1) p2).bind fun u2 => (some (mupd u2 146 14 ((u2 146 14) + 1))).bind fun u3 => some u3
theorem CX12_lay_146 {G : Gt} (p1 p2 : Int32) (u : Mem) {u' : Mem} (h : FX12_lay_146 p1 p2 u = some u') : CT G yX12_lay cX12_lay 3 none 1 [.ref 146, .int p1, .int p2] SH RHO u (none, SH, RHO, u') :=
  ct_of (by decide) rfl (Nat.le_of_ble_eq_true rfl) (Nat.le_refl _) (Nat.le_refl _) (fun X hX hR => by
  unfold FX12_lay_146 at h
  refine w_aload_n 0 0 hX rfl rfl dX12_lay_0 ?_
  refine w_getR 1 hX CI_12 s_146 rfl r_146_7 fl_X12_25 rfl dX12_lay_1 ?_
  refine w_iconst 2 4 hX ic_2 dX12_lay_4 ?_
  refine w_aload_n 0 5 hX rfl rfl dX12_lay_5 ?_
  refine w_getI (j := 14) 6 hX CI_12 s_146 rfl fl_X12_197 rfl dX12_lay_6 ?_
  refine w_imul 9 hX dX12_lay_9 ?_
  refine w_iload_n 1 10 hX rfl rfl dX12_lay_10 ?_
  obtain ⟨u1, gu1, h⟩ := o_bind h
  refine w_iast 11 hX s_152 gu1 dX12_lay_11 ?_
  refine w_aload_n 0 12 hX rfl rfl dX12_lay_12 ?_
  refine w_getR 13 hX CI_12 s_146 rfl r_146_7 fl_X12_25 rfl dX12_lay_13 ?_
  refine w_iconst 2 16 hX ic_2 dX12_lay_16 ?_
  refine w_aload_n 0 17 hX rfl rfl dX12_lay_17 ?_
  refine w_getI (j := 14) 18 hX CI_12 s_146 rfl fl_X12_197 rfl dX12_lay_18 ?_
  refine w_imul 21 hX dX12_lay_21 ?_
  refine w_iconst 1 22 hX ic_1 dX12_lay_22 ?_
  refine w_iadd 23 hX dX12_lay_23 ?_
  refine w_iload_n 2 24 hX rfl rfl dX12_lay_24 ?_
  obtain ⟨u2, gu2, h⟩ := o_bind h
  refine w_iast 25 hX s_152 gu2 dX12_lay_25 ?_
  refine w_aload_n 0 26 hX rfl rfl dX12_lay_26 ?_
  refine w_dup 27 hX rfl dX12_lay_27 ?_
  refine w_getI (j := 14) 28 hX CI_12 s_146 rfl fl_X12_197 rfl dX12_lay_28 ?_
  refine w_iconst 1 31 hX ic_1 dX12_lay_31 ?_
  refine w_iadd 32 hX dX12_lay_32 ?_
  obtain ⟨u3, gu3, h⟩ := o_bind h
  refine w_putI (j := 14) 33 hX CI_12 s_146 rfl fl_X12_197 rfl rfl rfl rfl dX12_lay_33 ?_
  rw [Option.some.inj gu3]
  exact w_vret 36 hX hR dX12_lay_36 (by cases h; rfl))
def FX12_unit_146_b46 (t1 : Int32) (u : Mem) : Option (Int32 × Mem) :=
  (FX12_lay_146 t1 (u 146 20) u).bind fun u2 => (FX12_next0_146 u2).bind fun u4 => some (1, u4)
theorem bX12_unit_146_46 {G : Gt} {X : Xt} {v : Int32} {u' : Mem} (hX : CxOk G X cX12_unit 2 RX12 (some (.int v), SH, RHO, u') 12) (hR : CxRet G X (some .boolean) (some (.int v), SH, RHO, u')) (t1 : Int32) (u : Mem) (h : FX12_unit_146_b46 t1 u = some (v, u')) : WM G X 46 [(0, .ref 146)] [.int t1, .ref 146] SH RHO u := by
  unfold FX12_unit_146_b46 at h
  refine w_aload_n 0 46 hX rfl rfl dX12_unit_46 ?_
  refine w_getI (j := 20) 47 hX CI_12 s_146 rfl fl_X12_182 rfl dX12_unit_47 ?_
  obtain ⟨u2, gu2, h⟩ := o_bind h
  refine w_invVv (av := [.int t1, .int (u 146 20)]) (st := []) 50 hX CI_12 s_146 rfl mv_yX12_lay mi_yX12_lay ml_X12_207 (CX12_lay_146 t1 (u 146 20) u gu2) rfl (by decide) (Nat.le_of_ble_eq_true rfl) (Nat.le_refl _) (Nat.le_refl _) dX12_unit_50 ?_
  refine w_aload_n 0 53 hX rfl rfl dX12_unit_53 ?_
  obtain ⟨u4, gu4, h⟩ := o_bind h
  refine w_invVv (av := []) (st := []) 54 hX CI_12 s_146 rfl mv_yX12_next0 mi_yX12_next0 ml_X12_194 (CX12_next0_146 u2 gu4) rfl (by decide) (Nat.le_of_ble_eq_true rfl) (Nat.le_refl _) (Nat.le_refl _) dX12_unit_54 ?_
  refine w_iconst 1 57 hX ic_1 dX12_unit_57 ?_
  exact w_zret 58 hX hR (by decide) dX12_unit_58 (by cases h; rfl)
def FX12_unit_146_b30 (l1 : Int32) (u : Mem) : Option (Int32 × Mem) :=
  (if l1 = 0 then (FX12_unit_146_b46 0 u) else (FX12_unit_146_b46 ((u 146 18) - 40) u))
theorem bX12_unit_146_30 {G : Gt} {X : Xt} {v : Int32} {u' : Mem} (hX : CxOk G X cX12_unit 2 RX12 (some (.int v), SH, RHO, u') 12) (hR : CxRet G X (some .boolean) (some (.int v), SH, RHO, u')) (l1 : Int32) (u : Mem) (h : FX12_unit_146_b30 l1 u = some (v, u')) : WM G X 30 [(0, .ref 146), (1, .int l1)] [] SH RHO u := by
  unfold FX12_unit_146_b30 at h
  refine w_aload_n 0 30 hX rfl rfl dX12_unit_30 ?_
  refine w_iload_n 1 31 hX rfl rfl dX12_unit_31 ?_
  refine w_if_eq (tgt := 45) 32 hX dX12_unit_32 (by decide) (fun c1 => ?_) (fun c1 => ?_)
  · have h := it h c1
    refine w_iconst 0 45 hX ic_0 dX12_unit_45 ?_
    exact w_sub [0] rfl (bX12_unit_146_46 hX hR 0 u h)
  · have h := ie h c1
    refine w_aload_n 0 35 hX rfl rfl dX12_unit_35 ?_
    refine w_getI (j := 18) 36 hX CI_12 s_146 rfl fl_X12_170 rfl dX12_unit_36 ?_
    refine w_bipush 40 39 hX ib_40 dX12_unit_39 ?_
    refine w_isub 41 hX dX12_unit_41 ?_
    refine w_goto (tgt := 46) 42 hX (by decide) dX12_unit_42 ?_
    exact w_sub [0] rfl (bX12_unit_146_46 hX hR ((u 146 18) - 40) u h)
def FX12_unit_146 (u : Mem) : Option (Int32 × Mem) :=
  (FX12_isIn (u 146 18) 41 49).bind fun x1 => (if (u 146 18) = 2 then (FX12_unit_146_b30 x1 u) else ((if x1 = 0 then (bnd2 (FX12_bad_146 1 u) fun x4 u5 => (bchk x4).bind fun x6 => some (x6, u5)) else (FX12_unit_146_b30 x1 u))))
theorem CX12_unit_146 {G : Gt} (u : Mem) {v : Int32} {u' : Mem} (h : FX12_unit_146 u = some (v, u')) : CT G yX12_unit cX12_unit 2 (some .boolean) 12 [.ref 146] SH RHO u (some (.int v), SH, RHO, u') :=
  ct_of (by decide) rfl (Nat.le_of_ble_eq_true rfl) (Nat.le_refl _) (Nat.le_refl _) (fun X hX hR => by
  unfold FX12_unit_146 at h
  refine w_aload_n 0 0 hX rfl rfl dX12_unit_0 ?_
  refine w_getI (j := 18) 1 hX CI_12 s_146 rfl fl_X12_170 rfl dX12_unit_1 ?_
  refine w_bipush 41 4 hX ib_41 dX12_unit_4 ?_
  refine w_bipush 49 6 hX ib_49 dX12_unit_6 ?_
  obtain ⟨x1, gx1, h⟩ := o_bind h
  refine w_invSi (av := [.int (u 146 18), .int 41, .int 49]) (st := []) 8 hX ms_yX12_isIn mi_yX12_isIn ml_X12_54 (CX12_isIn (u 146 18) 41 49 u gx1) rfl (by decide) (Nat.le_of_ble_eq_true rfl) (Nat.le_refl _) (Nat.le_refl _) dX12_unit_8 ?_
  refine w_istore_n (lv' := [(1, .int x1), (0, .ref 146)]) 11 hX rfl dX12_unit_11 (by decide) rfl ?_
  refine w_aload_n 1 12 hX rfl rfl dX12_unit_12 ?_
  refine w_getI (j := 18) 13 hX CI_12 s_146 rfl fl_X12_170 rfl dX12_unit_13 ?_
  refine w_iconst 2 16 hX ic_2 dX12_unit_16 ?_
  refine w_icmp_eq (tgt := 30) 17 hX dX12_unit_17 (by decide) (fun c2 => ?_) (fun c2 => ?_)
  · have h := it h c2
    exact w_sub [1, 0] rfl (bX12_unit_146_30 hX hR x1 u h)
  · have h := ie h c2
    refine w_iload_n 0 20 hX rfl rfl dX12_unit_20 ?_
    refine w_if_ne (tgt := 30) 21 hX dX12_unit_21 (by decide) (fun c3 => ?_) (fun c3 => ?_)
    · have h := ie h c3
      exact w_sub [1, 0] rfl (bX12_unit_146_30 hX hR x1 u h)
    · have h := it h c3
      refine w_aload_n 1 24 hX rfl rfl dX12_unit_24 ?_
      refine w_iconst 1 25 hX ic_1 dX12_unit_25 ?_
      obtain ⟨x4, u5, gx4, h⟩ := o_bnd2 h
      refine w_invVi (av := [.int 1]) (st := []) 26 hX CI_12 s_146 rfl mv_yX12_bad mi_yX12_bad ml_X12_191 (CX12_bad_146 1 u gx4) rfl (by decide) (Nat.le_of_ble_eq_true rfl) (Nat.le_refl _) (Nat.le_refl _) dX12_unit_26 ?_
      obtain ⟨x6, gx6, h⟩ := o_bind h
      obtain ⟨jx6, nx6, mx6⟩ := bchk_ok gx6
      rw [jx6]
      exact w_zret 29 hX hR nx6 dX12_unit_29 (by cases h; rfl))
def FX12_product_146_b44 (k9 : Mem → Option (Int32 × Mem)) (t0 : Int32) (u : Mem) : Option (Int32 × Mem) :=
  (FX12_next0_146 u).bind fun u2 => (if t0 = 0 then (bnd2 (FX12_unit_146 u2) fun x4 u5 => (if x4 = 0 then (some (0, u5)) else ((FX12_lay_146 25 0 u5).bind fun u8 => k9 u8))) else ((if (u2 146 18) = 2 then ((if (u2 146 20) = 0 then (bnd2 (FX12_bad_146 2 u2) fun x15 u16 => (bchk x15).bind fun x17 => some (x17, u16)) else ((FX12_next0_146 u2).bind fun u12 => (FX12_lay_146 26 (u2 146 20) u12).bind fun u14 => k9 u14))) else (bnd2 (FX12_bad_146 1 u2) fun x18 u19 => (bchk x18).bind fun x20 => some (x20, u19)))))
theorem bX12_product_146_44 {G : Gt} {X : Xt} {v : Int32} {u' : Mem} (hX : CxOk G X cX12_product 3 RX12 (some (.int v), SH, RHO, u') 13) (hR : CxRet G X (some .boolean) (some (.int v), SH, RHO, u')) {k9 : Mem → Option (Int32 × Mem)} (hk9 : ∀ (u : Mem), k9 u = some (v, u') → WM G X 9 [(0, .ref 146)] [] SH RHO u) (t0 : Int32) (u : Mem) (h : FX12_product_146_b44 k9 t0 u = some (v, u')) : WM G X 44 [(0, .ref 146)] [.int t0] SH RHO u := by
  unfold FX12_product_146_b44 at h
  refine w_istore_n (lv' := [(1, .int t0), (0, .ref 146)]) 44 hX rfl dX12_product_44 (by decide) rfl ?_
  refine w_aload_n 1 45 hX rfl rfl dX12_product_45 ?_
  obtain ⟨u2, gu2, h⟩ := o_bind h
  refine w_invVv (av := []) (st := []) 46 hX CI_12 s_146 rfl mv_yX12_next0 mi_yX12_next0 ml_X12_194 (CX12_next0_146 u gu2) rfl (by decide) (Nat.le_of_ble_eq_true rfl) (Nat.le_refl _) (Nat.le_refl _) dX12_product_46 ?_
  refine w_iload_n 0 49 hX rfl rfl dX12_product_49 ?_
  refine w_if_eq (tgt := 96) 50 hX dX12_product_50 (by decide) (fun c3 => ?_) (fun c3 => ?_)
  · have h := it h c3
    refine w_aload_n 1 96 hX rfl rfl dX12_product_96 ?_
    obtain ⟨x4, u5, gx4, h⟩ := o_bnd2 h
    refine w_invVi (av := []) (st := []) 97 hX CI_12 s_146 rfl mv_yX12_unit mi_yX12_unit ml_X12_211 (CX12_unit_146 u2 gx4) rfl (by decide) (Nat.le_of_ble_eq_true rfl) (Nat.le_refl _) (Nat.le_refl _) dX12_product_97 ?_
    refine w_if_ne (tgt := 105) 100 hX dX12_product_100 (by decide) (fun c6 => ?_) (fun c6 => ?_)
    · have h := ie h c6
      refine w_aload_n 1 105 hX rfl rfl dX12_product_105 ?_
      refine w_bipush 25 106 hX ib_25 dX12_product_106 ?_
      refine w_iconst 0 108 hX ic_0 dX12_product_108 ?_
      obtain ⟨u8, gu8, h⟩ := o_bind h
      refine w_invVv (av := [.int 25, .int 0]) (st := []) 109 hX CI_12 s_146 rfl mv_yX12_lay mi_yX12_lay ml_X12_207 (CX12_lay_146 25 0 u5 gu8) rfl (by decide) (Nat.le_of_ble_eq_true rfl) (Nat.le_refl _) (Nat.le_refl _) dX12_product_109 ?_
      refine w_goto (tgt := 9) 112 hX (by decide) dX12_product_112 ?_
      exact w_sub [1] rfl (hk9 u8 h)
    · have h := it h c6
      refine w_iconst 0 103 hX ic_0 dX12_product_103 ?_
      exact w_zret 104 hX hR (by decide) dX12_product_104 (by cases h; rfl)
  · have h := ie h c3
    refine w_aload_n 1 53 hX rfl rfl dX12_product_53 ?_
    refine w_getI (j := 20) 54 hX CI_12 s_146 rfl fl_X12_182 rfl dX12_product_54 ?_
    refine w_istore_n (lv' := [(2, .int (u2 146 20)), (1, .int t0), (0, .ref 146)]) 57 hX rfl dX12_product_57 (by decide) rfl ?_
    refine w_aload_n 2 58 hX rfl rfl dX12_product_58 ?_
    refine w_getI (j := 18) 59 hX CI_12 s_146 rfl fl_X12_170 rfl dX12_product_59 ?_
    refine w_iconst 2 62 hX ic_2 dX12_product_62 ?_
    refine w_icmp_eq (tgt := 72) 63 hX dX12_product_63 (by decide) (fun c9 => ?_) (fun c9 => ?_)
    · have h := it h c9
      refine w_iload_n 0 72 hX rfl rfl dX12_product_72 ?_
      refine w_if_ne (tgt := 82) 73 hX dX12_product_73 (by decide) (fun c10 => ?_) (fun c10 => ?_)
      · have h := ie h c10
        refine w_aload_n 2 82 hX rfl rfl dX12_product_82 ?_
        obtain ⟨u12, gu12, h⟩ := o_bind h
        refine w_invVv (av := []) (st := []) 83 hX CI_12 s_146 rfl mv_yX12_next0 mi_yX12_next0 ml_X12_194 (CX12_next0_146 u2 gu12) rfl (by decide) (Nat.le_of_ble_eq_true rfl) (Nat.le_refl _) (Nat.le_refl _) dX12_product_83 ?_
        refine w_aload_n 2 86 hX rfl rfl dX12_product_86 ?_
        refine w_bipush 26 87 hX ib_26 dX12_product_87 ?_
        refine w_iload_n 0 89 hX rfl rfl dX12_product_89 ?_
        obtain ⟨u14, gu14, h⟩ := o_bind h
        refine w_invVv (av := [.int 26, .int (u2 146 20)]) (st := []) 90 hX CI_12 s_146 rfl mv_yX12_lay mi_yX12_lay ml_X12_207 (CX12_lay_146 26 (u2 146 20) u12 gu14) rfl (by decide) (Nat.le_of_ble_eq_true rfl) (Nat.le_refl _) (Nat.le_refl _) dX12_product_90 ?_
        refine w_goto (tgt := 112) 93 hX (by decide) dX12_product_93 ?_
        refine w_goto (tgt := 9) 112 hX (by decide) dX12_product_112 ?_
        exact w_sub [2] rfl (hk9 u14 h)
      · have h := it h c10
        refine w_aload_n 2 76 hX rfl rfl dX12_product_76 ?_
        refine w_iconst 2 77 hX ic_2 dX12_product_77 ?_
        obtain ⟨x15, u16, gx15, h⟩ := o_bnd2 h
        refine w_invVi (av := [.int 2]) (st := []) 78 hX CI_12 s_146 rfl mv_yX12_bad mi_yX12_bad ml_X12_191 (CX12_bad_146 2 u2 gx15) rfl (by decide) (Nat.le_of_ble_eq_true rfl) (Nat.le_refl _) (Nat.le_refl _) dX12_product_78 ?_
        obtain ⟨x17, gx17, h⟩ := o_bind h
        obtain ⟨jx17, nx17, mx17⟩ := bchk_ok gx17
        rw [jx17]
        exact w_zret 81 hX hR nx17 dX12_product_81 (by cases h; rfl)
    · have h := ie h c9
      refine w_aload_n 2 66 hX rfl rfl dX12_product_66 ?_
      refine w_iconst 1 67 hX ic_1 dX12_product_67 ?_
      obtain ⟨x18, u19, gx18, h⟩ := o_bnd2 h
      refine w_invVi (av := [.int 1]) (st := []) 68 hX CI_12 s_146 rfl mv_yX12_bad mi_yX12_bad ml_X12_191 (CX12_bad_146 1 u2 gx18) rfl (by decide) (Nat.le_of_ble_eq_true rfl) (Nat.le_refl _) (Nat.le_refl _) dX12_product_68 ?_
      obtain ⟨x20, gx20, h⟩ := o_bind h
      obtain ⟨jx20, nx20, mx20⟩ := bchk_ok gx20
      rw [jx20]
      exact w_zret 71 hX hR nx20 dX12_product_71 (by cases h; rfl)
def FX12_product_146_b29 (k9 : Mem → Option (Int32 × Mem)) (u : Mem) : Option (Int32 × Mem) :=
  (if (u 146 18) = 147 then (FX12_product_146_b44 k9 1 u) else (FX12_product_146_b44 k9 0 u))
theorem bX12_product_146_29 {G : Gt} {X : Xt} {v : Int32} {u' : Mem} (hX : CxOk G X cX12_product 3 RX12 (some (.int v), SH, RHO, u') 13) (hR : CxRet G X (some .boolean) (some (.int v), SH, RHO, u')) {k9 : Mem → Option (Int32 × Mem)} (hk9 : ∀ (u : Mem), k9 u = some (v, u') → WM G X 9 [(0, .ref 146)] [] SH RHO u) (u : Mem) (h : FX12_product_146_b29 k9 u = some (v, u')) : WM G X 29 [(0, .ref 146)] [] SH RHO u := by
  unfold FX12_product_146_b29 at h
  refine w_aload_n 0 29 hX rfl rfl dX12_product_29 ?_
  refine w_getI (j := 18) 30 hX CI_12 s_146 rfl fl_X12_170 rfl dX12_product_30 ?_
  refine w_sipush 147 33 hX isp_147 dX12_product_33 ?_
  refine w_icmp_ne (tgt := 43) 36 hX dX12_product_36 (by decide) (fun c1 => ?_) (fun c1 => ?_)
  · have h := ie h c1
    refine w_iconst 0 43 hX ic_0 dX12_product_43 ?_
    exact bX12_product_146_44 hX hR hk9 0 u h
  · have h := it h c1
    refine w_iconst 1 39 hX ic_1 dX12_product_39 ?_
    refine w_goto (tgt := 44) 40 hX (by decide) dX12_product_40 ?_
    exact bX12_product_146_44 hX hR hk9 1 u h
def FX12_product_146_b9 (k9 : Mem → Option (Int32 × Mem)) (u : Mem) : Option (Int32 × Mem) :=
  (if (u 146 18) = 142 then (FX12_product_146_b29 k9 u) else ((if (u 146 18) = 147 then (FX12_product_146_b29 k9 u) else (some (1, u)))))
theorem bX12_product_146_9 {G : Gt} {X : Xt} {v : Int32} {u' : Mem} (hX : CxOk G X cX12_product 3 RX12 (some (.int v), SH, RHO, u') 13) (hR : CxRet G X (some .boolean) (some (.int v), SH, RHO, u')) {k9 : Mem → Option (Int32 × Mem)} (hk9 : ∀ (u : Mem), k9 u = some (v, u') → WM G X 9 [(0, .ref 146)] [] SH RHO u) (u : Mem) (h : FX12_product_146_b9 k9 u = some (v, u')) : WM G X 9 [(0, .ref 146)] [] SH RHO u := by
  unfold FX12_product_146_b9 at h
  refine w_aload_n 0 9 hX rfl rfl dX12_product_9 ?_
  refine w_getI (j := 18) 10 hX CI_12 s_146 rfl fl_X12_170 rfl dX12_product_10 ?_
  refine w_sipush 142 13 hX isp_142 dX12_product_13 ?_
  refine w_icmp_eq (tgt := 29) 16 hX dX12_product_16 (by decide) (fun c1 => ?_) (fun c1 => ?_)
  · have h := it h c1
    exact bX12_product_146_29 hX hR hk9 u h
  · have h := ie h c1
    refine w_aload_n 0 19 hX rfl rfl dX12_product_19 ?_
    refine w_getI (j := 18) 20 hX CI_12 s_146 rfl fl_X12_170 rfl dX12_product_20 ?_
    refine w_sipush 147 23 hX isp_147 dX12_product_23 ?_
    refine w_icmp_ne (tgt := 115) 26 hX dX12_product_26 (by decide) (fun c2 => ?_) (fun c2 => ?_)
    · have h := ie h c2
      refine w_iconst 1 115 hX ic_1 dX12_product_115 ?_
      exact w_zret 116 hX hR (by decide) dX12_product_116 (by cases h; rfl)
    · have h := it h c2
      exact bX12_product_146_29 hX hR hk9 u h
def FX12_product_146_L9 : Nat → Mem → Option (Int32 × Mem)
  | 0, _ => none
  | n + 1, u => FX12_product_146_b9 (FX12_product_146_L9 n) u
theorem lX12_product_146_9 {G : Gt} {X : Xt} {v : Int32} {u' : Mem} (hX : CxOk G X cX12_product 3 RX12 (some (.int v), SH, RHO, u') 13) (hR : CxRet G X (some .boolean) (some (.int v), SH, RHO, u')) : ∀ (n : Nat) (u : Mem), FX12_product_146_L9 n u = some (v, u') → WM G X 9 [(0, .ref 146)] [] SH RHO u := by
  intro n
  induction n with
  | zero =>
    intro u h
    exact nn_ h
  | succ n ih =>
    intro u h
    exact bX12_product_146_9 hX hR ih u h
def FX12_product_146 (u : Mem) : Option (Int32 × Mem) :=
  bnd2 (FX12_unit_146 u) fun x1 u2 => (if x1 = 0 then (some (0, u2)) else (FX12_product_146_L9 FU u2))
theorem CX12_product_146 {G : Gt} (u : Mem) {v : Int32} {u' : Mem} (h : FX12_product_146 u = some (v, u')) : CT G yX12_product cX12_product 3 (some .boolean) 13 [.ref 146] SH RHO u (some (.int v), SH, RHO, u') :=
  ct_of (by decide) rfl (Nat.le_of_ble_eq_true rfl) (Nat.le_refl _) (Nat.le_refl _) (fun X hX hR => by
  unfold FX12_product_146 at h
  refine w_aload_n 0 0 hX rfl rfl dX12_product_0 ?_
  obtain ⟨x1, u2, gx1, h⟩ := o_bnd2 h
  refine w_invVi (av := []) (st := []) 1 hX CI_12 s_146 rfl mv_yX12_unit mi_yX12_unit ml_X12_211 (CX12_unit_146 u gx1) rfl (by decide) (Nat.le_of_ble_eq_true rfl) (Nat.le_refl _) (Nat.le_refl _) dX12_product_1 ?_
  refine w_if_ne (tgt := 9) 4 hX dX12_product_4 (by decide) (fun c3 => ?_) (fun c3 => ?_)
  · have h := ie h c3
    exact lX12_product_146_9 hX hR FU u2 h
  · have h := it h c3
    refine w_iconst 0 7 hX ic_0 dX12_product_7 ?_
    exact w_zret 8 hX hR (by decide) dX12_product_8 (by cases h; rfl))
def FX12_sumUp_146_b46 (k9 : Mem → Option (Int32 × Mem)) (t0 : Int32) (u : Mem) : Option (Int32 × Mem) :=
  (FX12_next0_146 u).bind fun u2 => bnd2 (FX12_product_146 u2) fun x3 u4 => (if x3 = 0 then (some (0, u4)) else ((FX12_lay_146 t0 0 u4).bind fun u7 => k9 u7))
theorem bX12_sumUp_146_46 {G : Gt} {X : Xt} {v : Int32} {u' : Mem} (hX : CxOk G X cX12_sumUp 2 RX12 (some (.int v), SH, RHO, u') 14) (hR : CxRet G X (some .boolean) (some (.int v), SH, RHO, u')) {k9 : Mem → Option (Int32 × Mem)} (hk9 : ∀ (u : Mem), k9 u = some (v, u') → WM G X 9 [(0, .ref 146)] [] SH RHO u) (t0 : Int32) (u : Mem) (h : FX12_sumUp_146_b46 k9 t0 u = some (v, u')) : WM G X 46 [(0, .ref 146)] [.int t0] SH RHO u := by
  unfold FX12_sumUp_146_b46 at h
  refine w_istore_n (lv' := [(1, .int t0), (0, .ref 146)]) 46 hX rfl dX12_sumUp_46 (by decide) rfl ?_
  refine w_aload_n 1 47 hX rfl rfl dX12_sumUp_47 ?_
  obtain ⟨u2, gu2, h⟩ := o_bind h
  refine w_invVv (av := []) (st := []) 48 hX CI_12 s_146 rfl mv_yX12_next0 mi_yX12_next0 ml_X12_194 (CX12_next0_146 u gu2) rfl (by decide) (Nat.le_of_ble_eq_true rfl) (Nat.le_refl _) (Nat.le_refl _) dX12_sumUp_48 ?_
  refine w_aload_n 1 51 hX rfl rfl dX12_sumUp_51 ?_
  obtain ⟨x3, u4, gx3, h⟩ := o_bnd2 h
  refine w_invVi (av := []) (st := []) 52 hX CI_12 s_146 rfl mv_yX12_product mi_yX12_product ml_X12_203 (CX12_product_146 u2 gx3) rfl (by decide) (Nat.le_of_ble_eq_true rfl) (Nat.le_refl _) (Nat.le_refl _) dX12_sumUp_52 ?_
  refine w_if_ne (tgt := 60) 55 hX dX12_sumUp_55 (by decide) (fun c5 => ?_) (fun c5 => ?_)
  · have h := ie h c5
    refine w_aload_n 1 60 hX rfl rfl dX12_sumUp_60 ?_
    refine w_iload_n 0 61 hX rfl rfl dX12_sumUp_61 ?_
    refine w_iconst 0 62 hX ic_0 dX12_sumUp_62 ?_
    obtain ⟨u7, gu7, h⟩ := o_bind h
    refine w_invVv (av := [.int t0, .int 0]) (st := []) 63 hX CI_12 s_146 rfl mv_yX12_lay mi_yX12_lay ml_X12_207 (CX12_lay_146 t0 0 u4 gu7) rfl (by decide) (Nat.le_of_ble_eq_true rfl) (Nat.le_refl _) (Nat.le_refl _) dX12_sumUp_63 ?_
    refine w_goto (tgt := 9) 66 hX (by decide) dX12_sumUp_66 ?_
    exact w_sub [1] rfl (hk9 u7 h)
  · have h := it h c5
    refine w_iconst 0 58 hX ic_0 dX12_sumUp_58 ?_
    exact w_zret 59 hX hR (by decide) dX12_sumUp_59 (by cases h; rfl)
def FX12_sumUp_146_b29 (k9 : Mem → Option (Int32 × Mem)) (u : Mem) : Option (Int32 × Mem) :=
  (if (u 146 18) = 143 then (FX12_sumUp_146_b46 k9 23 u) else (FX12_sumUp_146_b46 k9 24 u))
theorem bX12_sumUp_146_29 {G : Gt} {X : Xt} {v : Int32} {u' : Mem} (hX : CxOk G X cX12_sumUp 2 RX12 (some (.int v), SH, RHO, u') 14) (hR : CxRet G X (some .boolean) (some (.int v), SH, RHO, u')) {k9 : Mem → Option (Int32 × Mem)} (hk9 : ∀ (u : Mem), k9 u = some (v, u') → WM G X 9 [(0, .ref 146)] [] SH RHO u) (u : Mem) (h : FX12_sumUp_146_b29 k9 u = some (v, u')) : WM G X 29 [(0, .ref 146)] [] SH RHO u := by
  unfold FX12_sumUp_146_b29 at h
  refine w_aload_n 0 29 hX rfl rfl dX12_sumUp_29 ?_
  refine w_getI (j := 18) 30 hX CI_12 s_146 rfl fl_X12_170 rfl dX12_sumUp_30 ?_
  refine w_sipush 143 33 hX isp_143 dX12_sumUp_33 ?_
  refine w_icmp_ne (tgt := 44) 36 hX dX12_sumUp_36 (by decide) (fun c1 => ?_) (fun c1 => ?_)
  · have h := ie h c1
    refine w_bipush 24 44 hX ib_24 dX12_sumUp_44 ?_
    exact bX12_sumUp_146_46 hX hR hk9 24 u h
  · have h := it h c1
    refine w_bipush 23 39 hX ib_23 dX12_sumUp_39 ?_
    refine w_goto (tgt := 46) 41 hX (by decide) dX12_sumUp_41 ?_
    exact bX12_sumUp_146_46 hX hR hk9 23 u h
def FX12_sumUp_146_b9 (k9 : Mem → Option (Int32 × Mem)) (u : Mem) : Option (Int32 × Mem) :=
  (if (u 146 18) = 143 then (FX12_sumUp_146_b29 k9 u) else ((if (u 146 18) = 145 then (FX12_sumUp_146_b29 k9 u) else (some (1, u)))))
theorem bX12_sumUp_146_9 {G : Gt} {X : Xt} {v : Int32} {u' : Mem} (hX : CxOk G X cX12_sumUp 2 RX12 (some (.int v), SH, RHO, u') 14) (hR : CxRet G X (some .boolean) (some (.int v), SH, RHO, u')) {k9 : Mem → Option (Int32 × Mem)} (hk9 : ∀ (u : Mem), k9 u = some (v, u') → WM G X 9 [(0, .ref 146)] [] SH RHO u) (u : Mem) (h : FX12_sumUp_146_b9 k9 u = some (v, u')) : WM G X 9 [(0, .ref 146)] [] SH RHO u := by
  unfold FX12_sumUp_146_b9 at h
  refine w_aload_n 0 9 hX rfl rfl dX12_sumUp_9 ?_
  refine w_getI (j := 18) 10 hX CI_12 s_146 rfl fl_X12_170 rfl dX12_sumUp_10 ?_
  refine w_sipush 143 13 hX isp_143 dX12_sumUp_13 ?_
  refine w_icmp_eq (tgt := 29) 16 hX dX12_sumUp_16 (by decide) (fun c1 => ?_) (fun c1 => ?_)
  · have h := it h c1
    exact bX12_sumUp_146_29 hX hR hk9 u h
  · have h := ie h c1
    refine w_aload_n 0 19 hX rfl rfl dX12_sumUp_19 ?_
    refine w_getI (j := 18) 20 hX CI_12 s_146 rfl fl_X12_170 rfl dX12_sumUp_20 ?_
    refine w_sipush 145 23 hX isp_145 dX12_sumUp_23 ?_
    refine w_icmp_ne (tgt := 69) 26 hX dX12_sumUp_26 (by decide) (fun c2 => ?_) (fun c2 => ?_)
    · have h := ie h c2
      refine w_iconst 1 69 hX ic_1 dX12_sumUp_69 ?_
      exact w_zret 70 hX hR (by decide) dX12_sumUp_70 (by cases h; rfl)
    · have h := it h c2
      exact bX12_sumUp_146_29 hX hR hk9 u h
def FX12_sumUp_146_L9 : Nat → Mem → Option (Int32 × Mem)
  | 0, _ => none
  | n + 1, u => FX12_sumUp_146_b9 (FX12_sumUp_146_L9 n) u
theorem lX12_sumUp_146_9 {G : Gt} {X : Xt} {v : Int32} {u' : Mem} (hX : CxOk G X cX12_sumUp 2 RX12 (some (.int v), SH, RHO, u') 14) (hR : CxRet G X (some .boolean) (some (.int v), SH, RHO, u')) : ∀ (n : Nat) (u : Mem), FX12_sumUp_146_L9 n u = some (v, u') → WM G X 9 [(0, .ref 146)] [] SH RHO u := by
  intro n
  induction n with
  | zero =>
    intro u h
    exact nn_ h
  | succ n ih =>
    intro u h
    exact bX12_sumUp_146_9 hX hR ih u h
def FX12_sumUp_146 (u : Mem) : Option (Int32 × Mem) :=
  bnd2 (FX12_product_146 u) fun x1 u2 => (if x1 = 0 then (some (0, u2)) else (FX12_sumUp_146_L9 FU u2))
theorem CX12_sumUp_146 {G : Gt} (u : Mem) {v : Int32} {u' : Mem} (h : FX12_sumUp_146 u = some (v, u')) : CT G yX12_sumUp cX12_sumUp 2 (some .boolean) 14 [.ref 146] SH RHO u (some (.int v), SH, RHO, u') :=
  ct_of (by decide) rfl (Nat.le_of_ble_eq_true rfl) (Nat.le_refl _) (Nat.le_refl _) (fun X hX hR => by
  unfold FX12_sumUp_146 at h
  refine w_aload_n 0 0 hX rfl rfl dX12_sumUp_0 ?_
  obtain ⟨x1, u2, gx1, h⟩ := o_bnd2 h
  refine w_invVi (av := []) (st := []) 1 hX CI_12 s_146 rfl mv_yX12_product mi_yX12_product ml_X12_203 (CX12_product_146 u gx1) rfl (by decide) (Nat.le_of_ble_eq_true rfl) (Nat.le_refl _) (Nat.le_refl _) dX12_sumUp_1 ?_
  refine w_if_ne (tgt := 9) 4 hX dX12_sumUp_4 (by decide) (fun c3 => ?_) (fun c3 => ?_)
  · have h := ie h c3
    exact lX12_sumUp_146_9 hX hR FU u2 h
  · have h := it h c3
    refine w_iconst 0 7 hX ic_0 dX12_sumUp_7 ?_
    exact w_zret 8 hX hR (by decide) dX12_sumUp_8 (by cases h; rfl))
def FX12_opens_146 (u : Mem) : Option (Int32 × Mem) :=
  (if (u 146 24) = 8 then (bnd2 (FX12_bad_146 3 u) fun x5 u6 => (bchk x5).bind fun x7 => some (x7, u6)) else ((some (mupd u 146 24 ((u 146 24) + 1))).bind fun u2 => (FX12_next0_146 u2).bind fun u4 => some (1, u4)))
theorem CX12_opens_146 {G : Gt} (u : Mem) {v : Int32} {u' : Mem} (h : FX12_opens_146 u = some (v, u')) : CT G yX12_opens cX12_opens 1 (some .boolean) 12 [.ref 146] SH RHO u (some (.int v), SH, RHO, u') :=
  ct_of (by decide) rfl (Nat.le_of_ble_eq_true rfl) (Nat.le_refl _) (Nat.le_refl _) (fun X hX hR => by
  unfold FX12_opens_146 at h
  refine w_aload_n 0 0 hX rfl rfl dX12_opens_0 ?_
  refine w_getI (j := 24) 1 hX CI_12 s_146 rfl fl_X12_200 rfl dX12_opens_1 ?_
  refine w_bipush 8 4 hX ib_8 dX12_opens_4 ?_
  refine w_icmp_ne (tgt := 15) 6 hX dX12_opens_6 (by decide) (fun c1 => ?_) (fun c1 => ?_)
  · have h := ie h c1
    refine w_aload_n 0 15 hX rfl rfl dX12_opens_15 ?_
    refine w_dup 16 hX rfl dX12_opens_16 ?_
    refine w_getI (j := 24) 17 hX CI_12 s_146 rfl fl_X12_200 rfl dX12_opens_17 ?_
    refine w_iconst 1 20 hX ic_1 dX12_opens_20 ?_
    refine w_iadd 21 hX dX12_opens_21 ?_
    obtain ⟨u2, gu2, h⟩ := o_bind h
    refine w_putI (j := 24) 22 hX CI_12 s_146 rfl fl_X12_200 rfl rfl rfl rfl dX12_opens_22 ?_
    rw [Option.some.inj gu2]
    refine w_aload_n 0 25 hX rfl rfl dX12_opens_25 ?_
    obtain ⟨u4, gu4, h⟩ := o_bind h
    refine w_invVv (av := []) (st := []) 26 hX CI_12 s_146 rfl mv_yX12_next0 mi_yX12_next0 ml_X12_194 (CX12_next0_146 u2 gu4) rfl (by decide) (Nat.le_of_ble_eq_true rfl) (Nat.le_refl _) (Nat.le_refl _) dX12_opens_26 ?_
    refine w_iconst 1 29 hX ic_1 dX12_opens_29 ?_
    exact w_zret 30 hX hR (by decide) dX12_opens_30 (by cases h; rfl)
  · have h := it h c1
    refine w_aload_n 0 9 hX rfl rfl dX12_opens_9 ?_
    refine w_iconst 3 10 hX ic_3 dX12_opens_10 ?_
    obtain ⟨x5, u6, gx5, h⟩ := o_bnd2 h
    refine w_invVi (av := [.int 3]) (st := []) 11 hX CI_12 s_146 rfl mv_yX12_bad mi_yX12_bad ml_X12_191 (CX12_bad_146 3 u gx5) rfl (by decide) (Nat.le_of_ble_eq_true rfl) (Nat.le_refl _) (Nat.le_refl _) dX12_opens_11 ?_
    obtain ⟨x7, gx7, h⟩ := o_bind h
    obtain ⟨jx7, nx7, mx7⟩ := bchk_ok gx7
    rw [jx7]
    exact w_zret 14 hX hR nx7 dX12_opens_14 (by cases h; rfl))
def FX12_every_146_b9 (kc : Mem → Option (Int32 × Mem)) (k9 : Mem → Option (Int32 × Mem)) (u : Mem) : Option (Int32 × Mem) :=
  (if (u 146 18) = 5 then ((FX12_next0_146 u).bind fun u3 => bnd2 (kc u3) fun x4 u5 => (if x4 = 0 then (some (0, u5)) else ((FX12_lay_146 31 0 u5).bind fun u8 => k9 u8))) else (some (1, u)))
theorem bX12_every_146_9 {G : Gt} {X : Xt} {v : Int32} {u' : Mem} {d : Nat} (hX : CxOk G X cX12_every 1 RX12 (some (.int v), SH, RHO, u') d) (hR : CxRet G X (some .boolean) (some (.int v), SH, RHO, u')) {kc : Mem → Option (Int32 × Mem)} {d0 : Nat} (hkc : (40 ≤ d0 ∧ d0 + 1 ≤ d) ∧ (∀ (w : Mem) (z : Int32 × Mem), kc  w = some z → CT G yX12_oneTest cX12_oneTest 2 (some .boolean) d0 [.ref 146] SH RHO w (some (.int z.1), SH, RHO, z.2))) {k9 : Mem → Option (Int32 × Mem)} (hk9 : ∀ (u : Mem), k9 u = some (v, u') → WM G X 9 [(0, .ref 146)] [] SH RHO u) (u : Mem) (h : FX12_every_146_b9 kc k9 u = some (v, u')) : WM G X 9 [(0, .ref 146)] [] SH RHO u := by
  obtain ⟨⟨hd0, hdd⟩, hkc2⟩ := id hkc
  unfold FX12_every_146_b9 at h
  refine w_aload_n 0 9 hX rfl rfl dX12_every_9 ?_
  refine w_getI (j := 18) 10 hX CI_12 s_146 rfl fl_X12_170 rfl dX12_every_10 ?_
  refine w_iconst 5 13 hX ic_5 dX12_every_13 ?_
  refine w_icmp_ne (tgt := 40) 14 hX dX12_every_14 (by decide) (fun c1 => ?_) (fun c1 => ?_)
  · have h := ie h c1
    refine w_iconst 1 40 hX ic_1 dX12_every_40 ?_
    exact w_zret 41 hX hR (by decide) dX12_every_41 (by cases h; rfl)
  · have h := it h c1
    refine w_aload_n 0 17 hX rfl rfl dX12_every_17 ?_
    obtain ⟨u3, gu3, h⟩ := o_bind h
    refine w_invVv (av := []) (st := []) 18 hX CI_12 s_146 rfl mv_yX12_next0 mi_yX12_next0 ml_X12_194 (CX12_next0_146 u gu3) rfl (by omega) (Nat.le_of_ble_eq_true rfl) (Nat.le_refl _) (Nat.le_refl _) dX12_every_18 ?_
    refine w_aload_n 0 21 hX rfl rfl dX12_every_21 ?_
    obtain ⟨x4, u5, gx4, h⟩ := o_bnd2 h
    refine w_invVi (av := []) (st := []) 22 hX CI_12 s_146 rfl mv_yX12_oneTest mi_yX12_oneTest ml_X12_217 (hkc2 u3 _ gx4) rfl (by omega) (Nat.le_of_ble_eq_true rfl) (Nat.le_refl _) (Nat.le_refl _) dX12_every_22 ?_
    refine w_if_ne (tgt := 30) 25 hX dX12_every_25 (by decide) (fun c6 => ?_) (fun c6 => ?_)
    · have h := ie h c6
      refine w_aload_n 0 30 hX rfl rfl dX12_every_30 ?_
      refine w_bipush 31 31 hX ib_31 dX12_every_31 ?_
      refine w_iconst 0 33 hX ic_0 dX12_every_33 ?_
      obtain ⟨u8, gu8, h⟩ := o_bind h
      refine w_invVv (av := [.int 31, .int 0]) (st := []) 34 hX CI_12 s_146 rfl mv_yX12_lay mi_yX12_lay ml_X12_207 (CX12_lay_146 31 0 u5 gu8) rfl (by omega) (Nat.le_of_ble_eq_true rfl) (Nat.le_refl _) (Nat.le_refl _) dX12_every_34 ?_
      refine w_goto (tgt := 9) 37 hX (by decide) dX12_every_37 ?_
      exact hk9 u8 h
    · have h := it h c6
      refine w_iconst 0 28 hX ic_0 dX12_every_28 ?_
      exact w_zret 29 hX hR (by decide) dX12_every_29 (by cases h; rfl)
def FX12_every_146_L9 (kc : Mem → Option (Int32 × Mem)) : Nat → Mem → Option (Int32 × Mem)
  | 0, _ => none
  | n + 1, u => FX12_every_146_b9 kc (FX12_every_146_L9 kc n) u
theorem lX12_every_146_9 {G : Gt} {X : Xt} {v : Int32} {u' : Mem} {d : Nat} (hX : CxOk G X cX12_every 1 RX12 (some (.int v), SH, RHO, u') d) (hR : CxRet G X (some .boolean) (some (.int v), SH, RHO, u')) {kc : Mem → Option (Int32 × Mem)} {d0 : Nat} (hkc : (40 ≤ d0 ∧ d0 + 1 ≤ d) ∧ (∀ (w : Mem) (z : Int32 × Mem), kc  w = some z → CT G yX12_oneTest cX12_oneTest 2 (some .boolean) d0 [.ref 146] SH RHO w (some (.int z.1), SH, RHO, z.2))) : ∀ (n : Nat) (u : Mem), FX12_every_146_L9 kc n u = some (v, u') → WM G X 9 [(0, .ref 146)] [] SH RHO u := by
  intro n
  induction n with
  | zero =>
    intro u h
    exact nn_ h
  | succ n ih =>
    intro u h
    exact bX12_every_146_9 hX hR hkc ih u h
def FX12_every_146 (kc : Mem → Option (Int32 × Mem)) (u : Mem) : Option (Int32 × Mem) :=
  bnd2 (kc u) fun x1 u2 => (if x1 = 0 then (some (0, u2)) else (FX12_every_146_L9 kc FU u2))
theorem CX12_every_146 {G : Gt} {kc : Mem → Option (Int32 × Mem)} {d0 : Nat} (hd0 : 40 ≤ d0) (hkc : ∀ (w : Mem) (z : Int32 × Mem), kc  w = some z → CT G yX12_oneTest cX12_oneTest 2 (some .boolean) d0 [.ref 146] SH RHO w (some (.int z.1), SH, RHO, z.2)) (u : Mem) {v : Int32} {u' : Mem} (h : FX12_every_146 kc u = some (v, u')) : CT G yX12_every cX12_every 1 (some .boolean) (d0 + 1) [.ref 146] SH RHO u (some (.int v), SH, RHO, u') :=
  ct_of (by decide) rfl (Nat.le_of_ble_eq_true rfl) (Nat.le_refl _) (Nat.le_refl _) (fun X hX hR => by
  have hkc := And.intro (And.intro hd0 (Nat.le_refl (d0 + 1))) hkc
  obtain ⟨⟨hd0, hdd⟩, hkc2⟩ := id hkc
  unfold FX12_every_146 at h
  refine w_aload_n 0 0 hX rfl rfl dX12_every_0 ?_
  obtain ⟨x1, u2, gx1, h⟩ := o_bnd2 h
  refine w_invVi (av := []) (st := []) 1 hX CI_12 s_146 rfl mv_yX12_oneTest mi_yX12_oneTest ml_X12_217 (hkc2 u _ gx1) rfl (by omega) (Nat.le_of_ble_eq_true rfl) (Nat.le_refl _) (Nat.le_refl _) dX12_every_1 ?_
  refine w_if_ne (tgt := 9) 4 hX dX12_every_4 (by decide) (fun c3 => ?_) (fun c3 => ?_)
  · have h := ie h c3
    exact lX12_every_146_9 hX hR hkc FU u2 h
  · have h := it h c3
    refine w_iconst 0 7 hX ic_0 dX12_every_7 ?_
    exact w_zret 8 hX hR (by decide) dX12_every_8 (by cases h; rfl))
def FX12_any_146_b9 (kc : Mem → Option (Int32 × Mem)) (k9 : Mem → Option (Int32 × Mem)) (u : Mem) : Option (Int32 × Mem) :=
  (if (u 146 18) = 4 then ((FX12_next0_146 u).bind fun u3 => bnd2 (FX12_every_146 kc u3) fun x4 u5 => (if x4 = 0 then (some (0, u5)) else ((FX12_lay_146 32 0 u5).bind fun u8 => k9 u8))) else (some (1, u)))
theorem bX12_any_146_9 {G : Gt} {X : Xt} {v : Int32} {u' : Mem} {d : Nat} (hX : CxOk G X cX12_any 1 RX12 (some (.int v), SH, RHO, u') d) (hR : CxRet G X (some .boolean) (some (.int v), SH, RHO, u')) {kc : Mem → Option (Int32 × Mem)} {d0 : Nat} (hkc : (40 ≤ d0 ∧ d0 + 2 ≤ d) ∧ (∀ (w : Mem) (z : Int32 × Mem), kc  w = some z → CT G yX12_oneTest cX12_oneTest 2 (some .boolean) d0 [.ref 146] SH RHO w (some (.int z.1), SH, RHO, z.2))) {k9 : Mem → Option (Int32 × Mem)} (hk9 : ∀ (u : Mem), k9 u = some (v, u') → WM G X 9 [(0, .ref 146)] [] SH RHO u) (u : Mem) (h : FX12_any_146_b9 kc k9 u = some (v, u')) : WM G X 9 [(0, .ref 146)] [] SH RHO u := by
  obtain ⟨⟨hd0, hdd⟩, hkc2⟩ := id hkc
  unfold FX12_any_146_b9 at h
  refine w_aload_n 0 9 hX rfl rfl dX12_any_9 ?_
  refine w_getI (j := 18) 10 hX CI_12 s_146 rfl fl_X12_170 rfl dX12_any_10 ?_
  refine w_iconst 4 13 hX ic_4 dX12_any_13 ?_
  refine w_icmp_ne (tgt := 40) 14 hX dX12_any_14 (by decide) (fun c1 => ?_) (fun c1 => ?_)
  · have h := ie h c1
    refine w_iconst 1 40 hX ic_1 dX12_any_40 ?_
    exact w_zret 41 hX hR (by decide) dX12_any_41 (by cases h; rfl)
  · have h := it h c1
    refine w_aload_n 0 17 hX rfl rfl dX12_any_17 ?_
    obtain ⟨u3, gu3, h⟩ := o_bind h
    refine w_invVv (av := []) (st := []) 18 hX CI_12 s_146 rfl mv_yX12_next0 mi_yX12_next0 ml_X12_194 (CX12_next0_146 u gu3) rfl (by omega) (Nat.le_of_ble_eq_true rfl) (Nat.le_refl _) (Nat.le_refl _) dX12_any_18 ?_
    refine w_aload_n 0 21 hX rfl rfl dX12_any_21 ?_
    obtain ⟨x4, u5, gx4, h⟩ := o_bnd2 h
    refine w_invVi (av := []) (st := []) 22 hX CI_12 s_146 rfl mv_yX12_every mi_yX12_every ml_X12_214 (CX12_every_146 hd0 hkc2 u3 gx4) rfl (by omega) (Nat.le_of_ble_eq_true rfl) (Nat.le_refl _) (Nat.le_refl _) dX12_any_22 ?_
    refine w_if_ne (tgt := 30) 25 hX dX12_any_25 (by decide) (fun c6 => ?_) (fun c6 => ?_)
    · have h := ie h c6
      refine w_aload_n 0 30 hX rfl rfl dX12_any_30 ?_
      refine w_bipush 32 31 hX ib_32 dX12_any_31 ?_
      refine w_iconst 0 33 hX ic_0 dX12_any_33 ?_
      obtain ⟨u8, gu8, h⟩ := o_bind h
      refine w_invVv (av := [.int 32, .int 0]) (st := []) 34 hX CI_12 s_146 rfl mv_yX12_lay mi_yX12_lay ml_X12_207 (CX12_lay_146 32 0 u5 gu8) rfl (by omega) (Nat.le_of_ble_eq_true rfl) (Nat.le_refl _) (Nat.le_refl _) dX12_any_34 ?_
      refine w_goto (tgt := 9) 37 hX (by decide) dX12_any_37 ?_
      exact hk9 u8 h
    · have h := it h c6
      refine w_iconst 0 28 hX ic_0 dX12_any_28 ?_
      exact w_zret 29 hX hR (by decide) dX12_any_29 (by cases h; rfl)
def FX12_any_146_L9 (kc : Mem → Option (Int32 × Mem)) : Nat → Mem → Option (Int32 × Mem)
  | 0, _ => none
  | n + 1, u => FX12_any_146_b9 kc (FX12_any_146_L9 kc n) u
theorem lX12_any_146_9 {G : Gt} {X : Xt} {v : Int32} {u' : Mem} {d : Nat} (hX : CxOk G X cX12_any 1 RX12 (some (.int v), SH, RHO, u') d) (hR : CxRet G X (some .boolean) (some (.int v), SH, RHO, u')) {kc : Mem → Option (Int32 × Mem)} {d0 : Nat} (hkc : (40 ≤ d0 ∧ d0 + 2 ≤ d) ∧ (∀ (w : Mem) (z : Int32 × Mem), kc  w = some z → CT G yX12_oneTest cX12_oneTest 2 (some .boolean) d0 [.ref 146] SH RHO w (some (.int z.1), SH, RHO, z.2))) : ∀ (n : Nat) (u : Mem), FX12_any_146_L9 kc n u = some (v, u') → WM G X 9 [(0, .ref 146)] [] SH RHO u := by
  intro n
  induction n with
  | zero =>
    intro u h
    exact nn_ h
  | succ n ih =>
    intro u h
    exact bX12_any_146_9 hX hR hkc ih u h
def FX12_any_146 (kc : Mem → Option (Int32 × Mem)) (u : Mem) : Option (Int32 × Mem) :=
  bnd2 (FX12_every_146 kc u) fun x1 u2 => (if x1 = 0 then (some (0, u2)) else (FX12_any_146_L9 kc FU u2))
theorem CX12_any_146 {G : Gt} {kc : Mem → Option (Int32 × Mem)} {d0 : Nat} (hd0 : 40 ≤ d0) (hkc : ∀ (w : Mem) (z : Int32 × Mem), kc  w = some z → CT G yX12_oneTest cX12_oneTest 2 (some .boolean) d0 [.ref 146] SH RHO w (some (.int z.1), SH, RHO, z.2)) (u : Mem) {v : Int32} {u' : Mem} (h : FX12_any_146 kc u = some (v, u')) : CT G yX12_any cX12_any 1 (some .boolean) (d0 + 2) [.ref 146] SH RHO u (some (.int v), SH, RHO, u') :=
  ct_of (by decide) rfl (Nat.le_of_ble_eq_true rfl) (Nat.le_refl _) (Nat.le_refl _) (fun X hX hR => by
  have hkc := And.intro (And.intro hd0 (Nat.le_refl (d0 + 2))) hkc
  obtain ⟨⟨hd0, hdd⟩, hkc2⟩ := id hkc
  unfold FX12_any_146 at h
  refine w_aload_n 0 0 hX rfl rfl dX12_any_0 ?_
  obtain ⟨x1, u2, gx1, h⟩ := o_bnd2 h
  refine w_invVi (av := []) (st := []) 1 hX CI_12 s_146 rfl mv_yX12_every mi_yX12_every ml_X12_214 (CX12_every_146 hd0 hkc2 u gx1) rfl (by omega) (Nat.le_of_ble_eq_true rfl) (Nat.le_refl _) (Nat.le_refl _) dX12_any_1 ?_
  refine w_if_ne (tgt := 9) 4 hX dX12_any_4 (by decide) (fun c3 => ?_) (fun c3 => ?_)
  · have h := ie h c3
    exact lX12_any_146_9 hX hR hkc FU u2 h
  · have h := it h c3
    refine w_iconst 0 7 hX ic_0 dX12_any_7 ?_
    exact w_zret 8 hX hR (by decide) dX12_any_8 (by cases h; rfl))
def FX12_oneTest_146_b147 (kc : Mem → Option (Int32 × Mem)) (t0 : Int32) (u : Mem) : Option (Int32 × Mem) :=
  (if t0 = (-1) then (bnd2 (FX12_bad_146 1 u) fun x9 u10 => (bchk x9).bind fun x11 => some (x11, u10)) else ((FX12_next0_146 u).bind fun u3 => bnd2 (FX12_sumUp_146 u3) fun x4 u5 => (if x4 = 0 then (some (0, u5)) else ((FX12_lay_146 t0 0 u5).bind fun u8 => some (1, u8)))))
theorem bX12_oneTest_146_147 {G : Gt} {X : Xt} {v : Int32} {u' : Mem} {d : Nat} (hX : CxOk G X cX12_oneTest 2 RX12 (some (.int v), SH, RHO, u') d) (hR : CxRet G X (some .boolean) (some (.int v), SH, RHO, u')) {kc : Mem → Option (Int32 × Mem)} {d0 : Nat} (hkc : (40 ≤ d0 ∧ d0 + 3 ≤ d) ∧ (∀ (w : Mem) (z : Int32 × Mem), kc  w = some z → CT G yX12_oneTest cX12_oneTest 2 (some .boolean) d0 [.ref 146] SH RHO w (some (.int z.1), SH, RHO, z.2))) (t0 : Int32) (u : Mem) (h : FX12_oneTest_146_b147 kc t0 u = some (v, u')) : WM G X 147 [(0, .ref 146)] [.int t0] SH RHO u := by
  obtain ⟨⟨hd0, hdd⟩, hkc2⟩ := id hkc
  unfold FX12_oneTest_146_b147 at h
  refine w_istore_n (lv' := [(1, .int t0), (0, .ref 146)]) 147 hX rfl dX12_oneTest_147 (by decide) rfl ?_
  refine w_iload_n 0 148 hX rfl rfl dX12_oneTest_148 ?_
  refine w_iconst (-1) 149 hX ic_m1 dX12_oneTest_149 ?_
  refine w_icmp_ne (tgt := 159) 150 hX dX12_oneTest_150 (by decide) (fun c1 => ?_) (fun c1 => ?_)
  · have h := ie h c1
    refine w_aload_n 1 159 hX rfl rfl dX12_oneTest_159 ?_
    obtain ⟨u3, gu3, h⟩ := o_bind h
    refine w_invVv (av := []) (st := []) 160 hX CI_12 s_146 rfl mv_yX12_next0 mi_yX12_next0 ml_X12_194 (CX12_next0_146 u gu3) rfl (by omega) (Nat.le_of_ble_eq_true rfl) (Nat.le_refl _) (Nat.le_refl _) dX12_oneTest_160 ?_
    refine w_aload_n 1 163 hX rfl rfl dX12_oneTest_163 ?_
    obtain ⟨x4, u5, gx4, h⟩ := o_bnd2 h
    refine w_invVi (av := []) (st := []) 164 hX CI_12 s_146 rfl mv_yX12_sumUp mi_yX12_sumUp ml_X12_229 (CX12_sumUp_146 u3 gx4) rfl (by omega) (Nat.le_of_ble_eq_true rfl) (Nat.le_refl _) (Nat.le_refl _) dX12_oneTest_164 ?_
    refine w_if_ne (tgt := 172) 167 hX dX12_oneTest_167 (by decide) (fun c6 => ?_) (fun c6 => ?_)
    · have h := ie h c6
      refine w_aload_n 1 172 hX rfl rfl dX12_oneTest_172 ?_
      refine w_iload_n 0 173 hX rfl rfl dX12_oneTest_173 ?_
      refine w_iconst 0 174 hX ic_0 dX12_oneTest_174 ?_
      obtain ⟨u8, gu8, h⟩ := o_bind h
      refine w_invVv (av := [.int t0, .int 0]) (st := []) 175 hX CI_12 s_146 rfl mv_yX12_lay mi_yX12_lay ml_X12_207 (CX12_lay_146 t0 0 u5 gu8) rfl (by omega) (Nat.le_of_ble_eq_true rfl) (Nat.le_refl _) (Nat.le_refl _) dX12_oneTest_175 ?_
      refine w_iconst 1 178 hX ic_1 dX12_oneTest_178 ?_
      exact w_zret 179 hX hR (by decide) dX12_oneTest_179 (by cases h; rfl)
    · have h := it h c6
      refine w_iconst 0 170 hX ic_0 dX12_oneTest_170 ?_
      exact w_zret 171 hX hR (by decide) dX12_oneTest_171 (by cases h; rfl)
  · have h := it h c1
    refine w_aload_n 1 153 hX rfl rfl dX12_oneTest_153 ?_
    refine w_iconst 1 154 hX ic_1 dX12_oneTest_154 ?_
    obtain ⟨x9, u10, gx9, h⟩ := o_bnd2 h
    refine w_invVi (av := [.int 1]) (st := []) 155 hX CI_12 s_146 rfl mv_yX12_bad mi_yX12_bad ml_X12_191 (CX12_bad_146 1 u gx9) rfl (by omega) (Nat.le_of_ble_eq_true rfl) (Nat.le_refl _) (Nat.le_refl _) dX12_oneTest_155 ?_
    obtain ⟨x11, gx11, h⟩ := o_bind h
    obtain ⟨jx11, nx11, mx11⟩ := bchk_ok gx11
    rw [jx11]
    exact w_zret 158 hX hR nx11 dX12_oneTest_158 (by cases h; rfl)
def FX12_oneTest_146_body (kc : Mem → Option (Int32 × Mem)) (u : Mem) : Option (Int32 × Mem) :=
  (if (u 146 18) = 6 then (bnd2 (FX12_opens_146 u) fun x19 u20 => (if x19 = 0 then (some (0, u20)) else (bnd2 (kc u20) fun x22 u23 => (if x22 = 0 then (some (0, u23)) else ((some (mupd u23 146 24 ((u23 146 24) - 1))).bind fun u25 => (FX12_lay_146 30 0 u25).bind fun u27 => some (1, u27)))))) else ((if (u 146 18) = 140 then (bnd2 (FX12_opens_146 u) fun x9 u10 => (if x9 = 0 then (some (0, u10)) else (bnd2 (FX12_any_146 kc u10) fun x12 u13 => (if x12 = 0 then (some (0, u13)) else (bnd2 (FX12_need_146 141 u13) fun x15 u16 => (if x15 = 0 then (some (0, u16)) else ((some (mupd u16 146 24 ((u16 146 24) - 1))).bind fun u18 => some (1, u18)))))))) else (bnd2 (FX12_sumUp_146 u) fun x3 u4 => (if x3 = 0 then (some (0, u4)) else ((if (u4 146 18) = 160 then (FX12_oneTest_146_b147 kc 27 u4) else ((if (u4 146 18) = 161 then (FX12_oneTest_146_b147 kc 28 u4) else ((if (u4 146 18) = 162 then (FX12_oneTest_146_b147 kc 29 u4) else (FX12_oneTest_146_b147 kc (-1) u4))))))))))))
def FX12_oneTest_146 : Nat → Mem → Option (Int32 × Mem)
  | 0, _ => none
  | n + 1, u => FX12_oneTest_146_body (FX12_oneTest_146 n) u
theorem CX12_oneTest_146_body {kc : Mem → Option (Int32 × Mem)} {d0 : Nat} {G : Gt} (hd0 : 40 ≤ d0) (hkc : ∀ (w : Mem) (z : Int32 × Mem), kc  w = some z → CT G yX12_oneTest cX12_oneTest 2 (some .boolean) d0 [.ref 146] SH RHO w (some (.int z.1), SH, RHO, z.2)) (u : Mem) {v : Int32} {u' : Mem} (h : FX12_oneTest_146_body kc u = some (v, u')) : CT G yX12_oneTest cX12_oneTest 2 (some .boolean) (d0 + 3) [.ref 146] SH RHO u (some (.int v), SH, RHO, u') :=
  ct_of (by decide) rfl (Nat.le_of_ble_eq_true rfl) (Nat.le_refl _) (Nat.le_refl _) (fun X hX hR => by
  have hkc := And.intro (And.intro hd0 (Nat.le_refl (d0 + 3))) hkc
  obtain ⟨⟨hd0, hdd⟩, hkc2⟩ := id hkc
  unfold FX12_oneTest_146_body at h
  refine w_aload_n 0 0 hX rfl rfl dX12_oneTest_0 ?_
  refine w_getI (j := 18) 1 hX CI_12 s_146 rfl fl_X12_170 rfl dX12_oneTest_1 ?_
  refine w_bipush 6 4 hX ib_6 dX12_oneTest_4 ?_
  refine w_icmp_ne (tgt := 44) 6 hX dX12_oneTest_6 (by decide) (fun c1 => ?_) (fun c1 => ?_)
  · have h := ie h c1
    refine w_aload_n 0 44 hX rfl rfl dX12_oneTest_44 ?_
    refine w_getI (j := 18) 45 hX CI_12 s_146 rfl fl_X12_170 rfl dX12_oneTest_45 ?_
    refine w_sipush 140 48 hX isp_140 dX12_oneTest_48 ?_
    refine w_icmp_ne (tgt := 92) 51 hX dX12_oneTest_51 (by decide) (fun c2 => ?_) (fun c2 => ?_)
    · have h := ie h c2
      refine w_aload_n 0 92 hX rfl rfl dX12_oneTest_92 ?_
      obtain ⟨x3, u4, gx3, h⟩ := o_bnd2 h
      refine w_invVi (av := []) (st := []) 93 hX CI_12 s_146 rfl mv_yX12_sumUp mi_yX12_sumUp ml_X12_229 (CX12_sumUp_146 u gx3) rfl (by omega) (Nat.le_of_ble_eq_true rfl) (Nat.le_refl _) (Nat.le_refl _) dX12_oneTest_93 ?_
      refine w_if_ne (tgt := 101) 96 hX dX12_oneTest_96 (by decide) (fun c5 => ?_) (fun c5 => ?_)
      · have h := ie h c5
        refine w_aload_n 0 101 hX rfl rfl dX12_oneTest_101 ?_
        refine w_getI (j := 18) 102 hX CI_12 s_146 rfl fl_X12_170 rfl dX12_oneTest_102 ?_
        refine w_sipush 160 105 hX isp_160 dX12_oneTest_105 ?_
        refine w_icmp_ne (tgt := 116) 108 hX dX12_oneTest_108 (by decide) (fun c6 => ?_) (fun c6 => ?_)
        · have h := ie h c6
          refine w_aload_n 0 116 hX rfl rfl dX12_oneTest_116 ?_
          refine w_getI (j := 18) 117 hX CI_12 s_146 rfl fl_X12_170 rfl dX12_oneTest_117 ?_
          refine w_sipush 161 120 hX isp_161 dX12_oneTest_120 ?_
          refine w_icmp_ne (tgt := 131) 123 hX dX12_oneTest_123 (by decide) (fun c7 => ?_) (fun c7 => ?_)
          · have h := ie h c7
            refine w_aload_n 0 131 hX rfl rfl dX12_oneTest_131 ?_
            refine w_getI (j := 18) 132 hX CI_12 s_146 rfl fl_X12_170 rfl dX12_oneTest_132 ?_
            refine w_sipush 162 135 hX isp_162 dX12_oneTest_135 ?_
            refine w_icmp_ne (tgt := 146) 138 hX dX12_oneTest_138 (by decide) (fun c8 => ?_) (fun c8 => ?_)
            · have h := ie h c8
              refine w_iconst (-1) 146 hX ic_m1 dX12_oneTest_146 ?_
              exact bX12_oneTest_146_147 hX hR hkc (-1) u4 h
            · have h := it h c8
              refine w_bipush 29 141 hX ib_29 dX12_oneTest_141 ?_
              refine w_goto (tgt := 147) 143 hX (by decide) dX12_oneTest_143 ?_
              exact bX12_oneTest_146_147 hX hR hkc 29 u4 h
          · have h := it h c7
            refine w_bipush 28 126 hX ib_28 dX12_oneTest_126 ?_
            refine w_goto (tgt := 147) 128 hX (by decide) dX12_oneTest_128 ?_
            exact bX12_oneTest_146_147 hX hR hkc 28 u4 h
        · have h := it h c6
          refine w_bipush 27 111 hX ib_27 dX12_oneTest_111 ?_
          refine w_goto (tgt := 147) 113 hX (by decide) dX12_oneTest_113 ?_
          exact bX12_oneTest_146_147 hX hR hkc 27 u4 h
      · have h := it h c5
        refine w_iconst 0 99 hX ic_0 dX12_oneTest_99 ?_
        exact w_zret 100 hX hR (by decide) dX12_oneTest_100 (by cases h; rfl)
    · have h := it h c2
      refine w_aload_n 0 54 hX rfl rfl dX12_oneTest_54 ?_
      obtain ⟨x9, u10, gx9, h⟩ := o_bnd2 h
      refine w_invVi (av := []) (st := []) 55 hX CI_12 s_146 rfl mv_yX12_opens mi_yX12_opens ml_X12_220 (CX12_opens_146 u gx9) rfl (by omega) (Nat.le_of_ble_eq_true rfl) (Nat.le_refl _) (Nat.le_refl _) dX12_oneTest_55 ?_
      refine w_if_eq (tgt := 78) 58 hX dX12_oneTest_58 (by decide) (fun c11 => ?_) (fun c11 => ?_)
      · have h := it h c11
        refine w_iconst 0 78 hX ic_0 dX12_oneTest_78 ?_
        exact w_zret 79 hX hR (by decide) dX12_oneTest_79 (by cases h; rfl)
      · have h := ie h c11
        refine w_aload_n 0 61 hX rfl rfl dX12_oneTest_61 ?_
        obtain ⟨x12, u13, gx12, h⟩ := o_bnd2 h
        refine w_invVi (av := []) (st := []) 62 hX CI_12 s_146 rfl mv_yX12_any mi_yX12_any ml_X12_223 (CX12_any_146 hd0 hkc2 u10 gx12) rfl (by omega) (Nat.le_of_ble_eq_true rfl) (Nat.le_refl _) (Nat.le_refl _) dX12_oneTest_62 ?_
        refine w_if_eq (tgt := 78) 65 hX dX12_oneTest_65 (by decide) (fun c14 => ?_) (fun c14 => ?_)
        · have h := it h c14
          refine w_iconst 0 78 hX ic_0 dX12_oneTest_78 ?_
          exact w_zret 79 hX hR (by decide) dX12_oneTest_79 (by cases h; rfl)
        · have h := ie h c14
          refine w_aload_n 0 68 hX rfl rfl dX12_oneTest_68 ?_
          refine w_sipush 141 69 hX isp_141 dX12_oneTest_69 ?_
          obtain ⟨x15, u16, gx15, h⟩ := o_bnd2 h
          refine w_invVi (av := [.int 141]) (st := []) 72 hX CI_12 s_146 rfl mv_yX12_need mi_yX12_need ml_X12_226 (CX12_need_146 141 u13 gx15) rfl (by omega) (Nat.le_of_ble_eq_true rfl) (Nat.le_refl _) (Nat.le_refl _) dX12_oneTest_72 ?_
          refine w_if_ne (tgt := 80) 75 hX dX12_oneTest_75 (by decide) (fun c17 => ?_) (fun c17 => ?_)
          · have h := ie h c17
            refine w_aload_n 0 80 hX rfl rfl dX12_oneTest_80 ?_
            refine w_dup 81 hX rfl dX12_oneTest_81 ?_
            refine w_getI (j := 24) 82 hX CI_12 s_146 rfl fl_X12_200 rfl dX12_oneTest_82 ?_
            refine w_iconst 1 85 hX ic_1 dX12_oneTest_85 ?_
            refine w_isub 86 hX dX12_oneTest_86 ?_
            obtain ⟨u18, gu18, h⟩ := o_bind h
            refine w_putI (j := 24) 87 hX CI_12 s_146 rfl fl_X12_200 rfl rfl rfl rfl dX12_oneTest_87 ?_
            rw [Option.some.inj gu18]
            refine w_iconst 1 90 hX ic_1 dX12_oneTest_90 ?_
            exact w_zret 91 hX hR (by decide) dX12_oneTest_91 (by cases h; rfl)
          · have h := it h c17
            refine w_iconst 0 78 hX ic_0 dX12_oneTest_78 ?_
            exact w_zret 79 hX hR (by decide) dX12_oneTest_79 (by cases h; rfl)
  · have h := it h c1
    refine w_aload_n 0 9 hX rfl rfl dX12_oneTest_9 ?_
    obtain ⟨x19, u20, gx19, h⟩ := o_bnd2 h
    refine w_invVi (av := []) (st := []) 10 hX CI_12 s_146 rfl mv_yX12_opens mi_yX12_opens ml_X12_220 (CX12_opens_146 u gx19) rfl (by omega) (Nat.le_of_ble_eq_true rfl) (Nat.le_refl _) (Nat.le_refl _) dX12_oneTest_10 ?_
    refine w_if_eq (tgt := 23) 13 hX dX12_oneTest_13 (by decide) (fun c21 => ?_) (fun c21 => ?_)
    · have h := it h c21
      refine w_iconst 0 23 hX ic_0 dX12_oneTest_23 ?_
      exact w_zret 24 hX hR (by decide) dX12_oneTest_24 (by cases h; rfl)
    · have h := ie h c21
      refine w_aload_n 0 16 hX rfl rfl dX12_oneTest_16 ?_
      obtain ⟨x22, u23, gx22, h⟩ := o_bnd2 h
      refine w_invVi (av := []) (st := []) 17 hX CI_12 s_146 rfl mv_yX12_oneTest mi_yX12_oneTest ml_X12_217 (hkc2 u20 _ gx22) rfl (by omega) (Nat.le_of_ble_eq_true rfl) (Nat.le_refl _) (Nat.le_refl _) dX12_oneTest_17 ?_
      refine w_if_ne (tgt := 25) 20 hX dX12_oneTest_20 (by decide) (fun c24 => ?_) (fun c24 => ?_)
      · have h := ie h c24
        refine w_aload_n 0 25 hX rfl rfl dX12_oneTest_25 ?_
        refine w_dup 26 hX rfl dX12_oneTest_26 ?_
        refine w_getI (j := 24) 27 hX CI_12 s_146 rfl fl_X12_200 rfl dX12_oneTest_27 ?_
        refine w_iconst 1 30 hX ic_1 dX12_oneTest_30 ?_
        refine w_isub 31 hX dX12_oneTest_31 ?_
        obtain ⟨u25, gu25, h⟩ := o_bind h
        refine w_putI (j := 24) 32 hX CI_12 s_146 rfl fl_X12_200 rfl rfl rfl rfl dX12_oneTest_32 ?_
        rw [Option.some.inj gu25]
        refine w_aload_n 0 35 hX rfl rfl dX12_oneTest_35 ?_
        refine w_bipush 30 36 hX ib_30 dX12_oneTest_36 ?_
        refine w_iconst 0 38 hX ic_0 dX12_oneTest_38 ?_
        obtain ⟨u27, gu27, h⟩ := o_bind h
        refine w_invVv (av := [.int 30, .int 0]) (st := []) 39 hX CI_12 s_146 rfl mv_yX12_lay mi_yX12_lay ml_X12_207 (CX12_lay_146 30 0 u25 gu27) rfl (by omega) (Nat.le_of_ble_eq_true rfl) (Nat.le_refl _) (Nat.le_refl _) dX12_oneTest_39 ?_
        refine w_iconst 1 42 hX ic_1 dX12_oneTest_42 ?_
        exact w_zret 43 hX hR (by decide) dX12_oneTest_43 (by cases h; rfl)
      · have h := it h c24
        refine w_iconst 0 23 hX ic_0 dX12_oneTest_23 ?_
        exact w_zret 24 hX hR (by decide) dX12_oneTest_24 (by cases h; rfl))
theorem CX12_oneTest_146 {G : Gt} : ∀ (n : Nat) (u : Mem) {v : Int32} {u' : Mem}, FX12_oneTest_146 n u = some (v, u') → CT G yX12_oneTest cX12_oneTest 2 (some .boolean) (40 + 3 * n) [.ref 146] SH RHO u (some (.int v), SH, RHO, u') := by
  intro n
  induction n with
  | zero =>
    intro u v u' h
    exact nn_ h
  | succ n ih =>
    intro u v u' h
    have q := CX12_oneTest_146_body (kc := FX12_oneTest_146 n) (d0 := 40 + 3 * n) (by omega) (fun  w z hh => by obtain ⟨z1, z2⟩ := z; exact ih  w hh) u h
    rw [show 40 + 3 * (n + 1) = 40 + 3 * n + 3 by omega]
    exact q
def FX12_aLine_146_b123 (u : Mem) : Option (Int32 × Mem) :=
  (wrA u 151 64 ((4 * (u 146 13)) + 2) (u 146 14)).bind fun u1 => bnd2 (FX12_need_146 159 u1) fun x2 u3 => (bchk x2).bind fun x4 => some (x4, u3)
theorem bX12_aLine_146_123 {G : Gt} {X : Xt} {v : Int32} {u' : Mem} (hX : CxOk G X cX12_aLine 1 RX12 (some (.int v), SH, RHO, u') 91) (hR : CxRet G X (some .boolean) (some (.int v), SH, RHO, u')) (u : Mem) (h : FX12_aLine_146_b123 u = some (v, u')) : WM G X 123 [(0, .ref 146)] [] SH RHO u := by
  unfold FX12_aLine_146_b123 at h
  refine w_aload_n 0 123 hX rfl rfl dX12_aLine_123 ?_
  refine w_getR 124 hX CI_12 s_146 rfl r_146_6 fl_X12_22 rfl dX12_aLine_124 ?_
  refine w_iconst 4 127 hX ic_4 dX12_aLine_127 ?_
  refine w_aload_n 0 128 hX rfl rfl dX12_aLine_128 ?_
  refine w_getI (j := 13) 129 hX CI_12 s_146 rfl fl_X12_232 rfl dX12_aLine_129 ?_
  refine w_imul 132 hX dX12_aLine_132 ?_
  refine w_iconst 2 133 hX ic_2 dX12_aLine_133 ?_
  refine w_iadd 134 hX dX12_aLine_134 ?_
  refine w_aload_n 0 135 hX rfl rfl dX12_aLine_135 ?_
  refine w_getI (j := 14) 136 hX CI_12 s_146 rfl fl_X12_197 rfl dX12_aLine_136 ?_
  obtain ⟨u1, gu1, h⟩ := o_bind h
  refine w_iast 139 hX s_151 gu1 dX12_aLine_139 ?_
  refine w_aload_n 0 140 hX rfl rfl dX12_aLine_140 ?_
  refine w_sipush 159 141 hX isp_159 dX12_aLine_141 ?_
  obtain ⟨x2, u3, gx2, h⟩ := o_bnd2 h
  refine w_invVi (av := [.int 159]) (st := []) 144 hX CI_12 s_146 rfl mv_yX12_need mi_yX12_need ml_X12_226 (CX12_need_146 159 u1 gx2) rfl (by decide) (Nat.le_of_ble_eq_true rfl) (Nat.le_refl _) (Nat.le_refl _) dX12_aLine_144 ?_
  obtain ⟨x4, gx4, h⟩ := o_bind h
  obtain ⟨jx4, nx4, mx4⟩ := bchk_ok gx4
  rw [jx4]
  exact w_zret 147 hX hR nx4 dX12_aLine_147 (by cases h; rfl)
def FX12_aLine_146 (u : Mem) : Option (Int32 × Mem) :=
  (FX12_isIn (u 146 18) 20 23).bind fun x1 => (if x1 = 0 then (bnd2 (FX12_bad_146 1 u) fun x22 u23 => (bchk x22).bind fun x24 => some (x24, u23)) else ((if (u 146 13) = 16 then (bnd2 (FX12_bad_146 3 u) fun x19 u20 => (bchk x19).bind fun x21 => some (x21, u20)) else ((some (mupd u 146 24 0)).bind fun u4 => (wrA u4 151 64 ((4 * (u4 146 13)) + 3) (u4 146 18)).bind fun u5 => (FX12_next0_146 u5).bind fun u7 => (wrA u7 151 64 (4 * (u7 146 13)) (u7 146 14)).bind fun u8 => bnd2 (FX12_sumUp_146 u8) fun x9 u10 => (if x9 = 0 then (some (0, u10)) else ((wrA u10 151 64 ((4 * (u10 146 13)) + 1) (u10 146 14)).bind fun u12 => (if (u12 146 18) = 3 then ((FX12_next0_146 u12).bind fun u15 => bnd2 (FX12_any_146 (FX12_oneTest_146 DFU) u15) fun x16 u17 => (if x16 = 0 then (some (0, u17)) else (FX12_aLine_146_b123 u17))) else (FX12_aLine_146_b123 u12))))))))
theorem CX12_aLine_146 {G : Gt} (u : Mem) {v : Int32} {u' : Mem} (h : FX12_aLine_146 u = some (v, u')) : CT G yX12_aLine cX12_aLine 1 (some .boolean) 91 [.ref 146] SH RHO u (some (.int v), SH, RHO, u') :=
  ct_of (by decide) rfl (Nat.le_of_ble_eq_true rfl) (Nat.le_refl _) (Nat.le_refl _) (fun X hX hR => by
  unfold FX12_aLine_146 at h
  refine w_aload_n 0 0 hX rfl rfl dX12_aLine_0 ?_
  refine w_getI (j := 18) 1 hX CI_12 s_146 rfl fl_X12_170 rfl dX12_aLine_1 ?_
  refine w_bipush 20 4 hX ib_20 dX12_aLine_4 ?_
  refine w_bipush 23 6 hX ib_23 dX12_aLine_6 ?_
  obtain ⟨x1, gx1, h⟩ := o_bind h
  refine w_invSi (av := [.int (u 146 18), .int 20, .int 23]) (st := []) 8 hX ms_yX12_isIn mi_yX12_isIn ml_X12_54 (CX12_isIn (u 146 18) 20 23 u gx1) rfl (by decide) (Nat.le_of_ble_eq_true rfl) (Nat.le_refl _) (Nat.le_refl _) dX12_aLine_8 ?_
  refine w_if_ne (tgt := 20) 11 hX dX12_aLine_11 (by decide) (fun c2 => ?_) (fun c2 => ?_)
  · have h := ie h c2
    refine w_aload_n 0 20 hX rfl rfl dX12_aLine_20 ?_
    refine w_getI (j := 13) 21 hX CI_12 s_146 rfl fl_X12_232 rfl dX12_aLine_21 ?_
    refine w_bipush 16 24 hX ib_16 dX12_aLine_24 ?_
    refine w_icmp_ne (tgt := 35) 26 hX dX12_aLine_26 (by decide) (fun c3 => ?_) (fun c3 => ?_)
    · have h := ie h c3
      refine w_aload_n 0 35 hX rfl rfl dX12_aLine_35 ?_
      refine w_iconst 0 36 hX ic_0 dX12_aLine_36 ?_
      obtain ⟨u4, gu4, h⟩ := o_bind h
      refine w_putI (j := 24) 37 hX CI_12 s_146 rfl fl_X12_200 rfl rfl rfl rfl dX12_aLine_37 ?_
      rw [Option.some.inj gu4]
      refine w_aload_n 0 40 hX rfl rfl dX12_aLine_40 ?_
      refine w_getR 41 hX CI_12 s_146 rfl r_146_6 fl_X12_22 rfl dX12_aLine_41 ?_
      refine w_iconst 4 44 hX ic_4 dX12_aLine_44 ?_
      refine w_aload_n 0 45 hX rfl rfl dX12_aLine_45 ?_
      refine w_getI (j := 13) 46 hX CI_12 s_146 rfl fl_X12_232 rfl dX12_aLine_46 ?_
      refine w_imul 49 hX dX12_aLine_49 ?_
      refine w_iconst 3 50 hX ic_3 dX12_aLine_50 ?_
      refine w_iadd 51 hX dX12_aLine_51 ?_
      refine w_aload_n 0 52 hX rfl rfl dX12_aLine_52 ?_
      refine w_getI (j := 18) 53 hX CI_12 s_146 rfl fl_X12_170 rfl dX12_aLine_53 ?_
      obtain ⟨u5, gu5, h⟩ := o_bind h
      refine w_iast 56 hX s_151 gu5 dX12_aLine_56 ?_
      refine w_aload_n 0 57 hX rfl rfl dX12_aLine_57 ?_
      obtain ⟨u7, gu7, h⟩ := o_bind h
      refine w_invVv (av := []) (st := []) 58 hX CI_12 s_146 rfl mv_yX12_next0 mi_yX12_next0 ml_X12_194 (CX12_next0_146 u5 gu7) rfl (by decide) (Nat.le_of_ble_eq_true rfl) (Nat.le_refl _) (Nat.le_refl _) dX12_aLine_58 ?_
      refine w_aload_n 0 61 hX rfl rfl dX12_aLine_61 ?_
      refine w_getR 62 hX CI_12 s_146 rfl r_146_6 fl_X12_22 rfl dX12_aLine_62 ?_
      refine w_iconst 4 65 hX ic_4 dX12_aLine_65 ?_
      refine w_aload_n 0 66 hX rfl rfl dX12_aLine_66 ?_
      refine w_getI (j := 13) 67 hX CI_12 s_146 rfl fl_X12_232 rfl dX12_aLine_67 ?_
      refine w_imul 70 hX dX12_aLine_70 ?_
      refine w_aload_n 0 71 hX rfl rfl dX12_aLine_71 ?_
      refine w_getI (j := 14) 72 hX CI_12 s_146 rfl fl_X12_197 rfl dX12_aLine_72 ?_
      obtain ⟨u8, gu8, h⟩ := o_bind h
      refine w_iast 75 hX s_151 gu8 dX12_aLine_75 ?_
      refine w_aload_n 0 76 hX rfl rfl dX12_aLine_76 ?_
      obtain ⟨x9, u10, gx9, h⟩ := o_bnd2 h
      refine w_invVi (av := []) (st := []) 77 hX CI_12 s_146 rfl mv_yX12_sumUp mi_yX12_sumUp ml_X12_229 (CX12_sumUp_146 u8 gx9) rfl (by decide) (Nat.le_of_ble_eq_true rfl) (Nat.le_refl _) (Nat.le_refl _) dX12_aLine_77 ?_
      refine w_if_ne (tgt := 85) 80 hX dX12_aLine_80 (by decide) (fun c11 => ?_) (fun c11 => ?_)
      · have h := ie h c11
        refine w_aload_n 0 85 hX rfl rfl dX12_aLine_85 ?_
        refine w_getR 86 hX CI_12 s_146 rfl r_146_6 fl_X12_22 rfl dX12_aLine_86 ?_
        refine w_iconst 4 89 hX ic_4 dX12_aLine_89 ?_
        refine w_aload_n 0 90 hX rfl rfl dX12_aLine_90 ?_
        refine w_getI (j := 13) 91 hX CI_12 s_146 rfl fl_X12_232 rfl dX12_aLine_91 ?_
        refine w_imul 94 hX dX12_aLine_94 ?_
        refine w_iconst 1 95 hX ic_1 dX12_aLine_95 ?_
        refine w_iadd 96 hX dX12_aLine_96 ?_
        refine w_aload_n 0 97 hX rfl rfl dX12_aLine_97 ?_
        refine w_getI (j := 14) 98 hX CI_12 s_146 rfl fl_X12_197 rfl dX12_aLine_98 ?_
        obtain ⟨u12, gu12, h⟩ := o_bind h
        refine w_iast 101 hX s_151 gu12 dX12_aLine_101 ?_
        refine w_aload_n 0 102 hX rfl rfl dX12_aLine_102 ?_
        refine w_getI (j := 18) 103 hX CI_12 s_146 rfl fl_X12_170 rfl dX12_aLine_103 ?_
        refine w_iconst 3 106 hX ic_3 dX12_aLine_106 ?_
        refine w_icmp_ne (tgt := 123) 107 hX dX12_aLine_107 (by decide) (fun c13 => ?_) (fun c13 => ?_)
        · have h := ie h c13
          exact bX12_aLine_146_123 hX hR u12 h
        · have h := it h c13
          refine w_aload_n 0 110 hX rfl rfl dX12_aLine_110 ?_
          obtain ⟨u15, gu15, h⟩ := o_bind h
          refine w_invVv (av := []) (st := []) 111 hX CI_12 s_146 rfl mv_yX12_next0 mi_yX12_next0 ml_X12_194 (CX12_next0_146 u12 gu15) rfl (by decide) (Nat.le_of_ble_eq_true rfl) (Nat.le_refl _) (Nat.le_refl _) dX12_aLine_111 ?_
          refine w_aload_n 0 114 hX rfl rfl dX12_aLine_114 ?_
          obtain ⟨x16, u17, gx16, h⟩ := o_bnd2 h
          refine w_invVi (av := []) (st := []) 115 hX CI_12 s_146 rfl mv_yX12_any mi_yX12_any ml_X12_223 (CX12_any_146 (d0 := 40 + 3 * DFU) (Nat.le_add_right _ _) (fun w z g9 => CX12_oneTest_146 DFU w g9) u15 gx16) rfl (by decide) (Nat.le_of_ble_eq_true rfl) (Nat.le_refl _) (Nat.le_refl _) dX12_aLine_115 ?_
          refine w_if_ne (tgt := 123) 118 hX dX12_aLine_118 (by decide) (fun c18 => ?_) (fun c18 => ?_)
          · have h := ie h c18
            exact bX12_aLine_146_123 hX hR u17 h
          · have h := it h c18
            refine w_iconst 0 121 hX ic_0 dX12_aLine_121 ?_
            exact w_zret 122 hX hR (by decide) dX12_aLine_122 (by cases h; rfl)
      · have h := it h c11
        refine w_iconst 0 83 hX ic_0 dX12_aLine_83 ?_
        exact w_zret 84 hX hR (by decide) dX12_aLine_84 (by cases h; rfl)
    · have h := it h c3
      refine w_aload_n 0 29 hX rfl rfl dX12_aLine_29 ?_
      refine w_iconst 3 30 hX ic_3 dX12_aLine_30 ?_
      obtain ⟨x19, u20, gx19, h⟩ := o_bnd2 h
      refine w_invVi (av := [.int 3]) (st := []) 31 hX CI_12 s_146 rfl mv_yX12_bad mi_yX12_bad ml_X12_191 (CX12_bad_146 3 u gx19) rfl (by decide) (Nat.le_of_ble_eq_true rfl) (Nat.le_refl _) (Nat.le_refl _) dX12_aLine_31 ?_
      obtain ⟨x21, gx21, h⟩ := o_bind h
      obtain ⟨jx21, nx21, mx21⟩ := bchk_ok gx21
      rw [jx21]
      exact w_zret 34 hX hR nx21 dX12_aLine_34 (by cases h; rfl)
  · have h := it h c2
    refine w_aload_n 0 14 hX rfl rfl dX12_aLine_14 ?_
    refine w_iconst 1 15 hX ic_1 dX12_aLine_15 ?_
    obtain ⟨x22, u23, gx22, h⟩ := o_bnd2 h
    refine w_invVi (av := [.int 1]) (st := []) 16 hX CI_12 s_146 rfl mv_yX12_bad mi_yX12_bad ml_X12_191 (CX12_bad_146 1 u gx22) rfl (by decide) (Nat.le_of_ble_eq_true rfl) (Nat.le_refl _) (Nat.le_refl _) dX12_aLine_16 ?_
    obtain ⟨x24, gx24, h⟩ := o_bind h
    obtain ⟨jx24, nx24, mx24⟩ := bchk_ok gx24
    rw [jx24]
    exact w_zret 19 hX hR nx24 dX12_aLine_19 (by cases h; rfl))
def FX12_readsLaw_146_b49 (l1 : Int32) (u : Mem) : Option (Int32 × Mem) :=
  (bchk l1).bind fun x1 => some (x1, u)
theorem bX12_readsLaw_146_49 {G : Gt} {X : Xt} {v : Int32} {u' : Mem} (hX : CxOk G X cX12_readsLaw 2 RX12 (some (.int v), SH, RHO, u') 92) (hR : CxRet G X (some .boolean) (some (.int v), SH, RHO, u')) (l1 : Int32) (u : Mem) (h : FX12_readsLaw_146_b49 l1 u = some (v, u')) : WM G X 49 [(1, .int l1)] [] SH RHO u := by
  unfold FX12_readsLaw_146_b49 at h
  refine w_iload_n 0 49 hX rfl rfl dX12_readsLaw_49 ?_
  obtain ⟨x1, gx1, h⟩ := o_bind h
  obtain ⟨jx1, nx1, mx1⟩ := bchk_ok gx1
  rw [jx1]
  exact w_zret 50 hX hR nx1 dX12_readsLaw_50 (by cases h; rfl)
def FX12_readsLaw_146_b42 (k12 : Int32 → Mem → Option (Int32 × Mem)) (l1 t1 t2 : Int32) (u : Mem) : Option (Int32 × Mem) :=
  (some (mupd u 146 13 (t1 + t2))).bind fun u1 => k12 l1 u1
theorem bX12_readsLaw_146_42 {G : Gt} {X : Xt} {v : Int32} {u' : Mem} (hX : CxOk G X cX12_readsLaw 2 RX12 (some (.int v), SH, RHO, u') 92) (hR : CxRet G X (some .boolean) (some (.int v), SH, RHO, u')) {k12 : Int32 → Mem → Option (Int32 × Mem)} (hk12 : ∀ (l1 : Int32) (u : Mem), k12 l1 u = some (v, u') → WM G X 12 [(0, .ref 146), (1, .int l1)] [] SH RHO u) (l1 t1 t2 : Int32) (u : Mem) (h : FX12_readsLaw_146_b42 k12 l1 t1 t2 u = some (v, u')) : WM G X 42 [(0, .ref 146), (1, .int l1)] [.int t2, .int t1, .ref 146] SH RHO u := by
  unfold FX12_readsLaw_146_b42 at h
  refine w_iadd 42 hX dX12_readsLaw_42 ?_
  obtain ⟨u1, gu1, h⟩ := o_bind h
  refine w_putI (j := 13) 43 hX CI_12 s_146 rfl fl_X12_232 rfl rfl rfl rfl dX12_readsLaw_43 ?_
  rw [Option.some.inj gu1]
  refine w_goto (tgt := 12) 46 hX (by decide) dX12_readsLaw_46 ?_
  exact hk12 l1 u1 h
def FX12_readsLaw_146_b12 (k12 : Int32 → Mem → Option (Int32 × Mem)) (l1 : Int32) (u : Mem) : Option (Int32 × Mem) :=
  (if l1 = 0 then (FX12_readsLaw_146_b49 l1 u) else ((if (u 146 18) = 0 then (FX12_readsLaw_146_b49 l1 u) else (bnd2 (FX12_aLine_146 u) fun x3 u4 => (if x3 = 0 then (FX12_readsLaw_146_b42 k12 x3 (u4 146 13) 0 u4) else (FX12_readsLaw_146_b42 k12 x3 (u4 146 13) 1 u4))))))
theorem bX12_readsLaw_146_12 {G : Gt} {X : Xt} {v : Int32} {u' : Mem} (hX : CxOk G X cX12_readsLaw 2 RX12 (some (.int v), SH, RHO, u') 92) (hR : CxRet G X (some .boolean) (some (.int v), SH, RHO, u')) {k12 : Int32 → Mem → Option (Int32 × Mem)} (hk12 : ∀ (l1 : Int32) (u : Mem), k12 l1 u = some (v, u') → WM G X 12 [(0, .ref 146), (1, .int l1)] [] SH RHO u) (l1 : Int32) (u : Mem) (h : FX12_readsLaw_146_b12 k12 l1 u = some (v, u')) : WM G X 12 [(0, .ref 146), (1, .int l1)] [] SH RHO u := by
  unfold FX12_readsLaw_146_b12 at h
  refine w_iload_n 1 12 hX rfl rfl dX12_readsLaw_12 ?_
  refine w_if_eq (tgt := 49) 13 hX dX12_readsLaw_13 (by decide) (fun c1 => ?_) (fun c1 => ?_)
  · have h := it h c1
    exact w_sub [1] rfl (bX12_readsLaw_146_49 hX hR l1 u h)
  · have h := ie h c1
    refine w_aload_n 0 16 hX rfl rfl dX12_readsLaw_16 ?_
    refine w_getI (j := 18) 17 hX CI_12 s_146 rfl fl_X12_170 rfl dX12_readsLaw_17 ?_
    refine w_if_eq (tgt := 49) 20 hX dX12_readsLaw_20 (by decide) (fun c2 => ?_) (fun c2 => ?_)
    · have h := it h c2
      exact w_sub [1] rfl (bX12_readsLaw_146_49 hX hR l1 u h)
    · have h := ie h c2
      refine w_aload_n 0 23 hX rfl rfl dX12_readsLaw_23 ?_
      obtain ⟨x3, u4, gx3, h⟩ := o_bnd2 h
      refine w_invVi (av := []) (st := []) 24 hX CI_12 s_146 rfl mv_yX12_aLine mi_yX12_aLine ml_X12_235 (CX12_aLine_146 u gx3) rfl (by decide) (Nat.le_of_ble_eq_true rfl) (Nat.le_refl _) (Nat.le_refl _) dX12_readsLaw_24 ?_
      refine w_istore_n (lv' := [(1, .int x3), (0, .ref 146)]) 27 hX rfl dX12_readsLaw_27 (by decide) rfl ?_
      refine w_aload_n 1 28 hX rfl rfl dX12_readsLaw_28 ?_
      refine w_dup 29 hX rfl dX12_readsLaw_29 ?_
      refine w_getI (j := 13) 30 hX CI_12 s_146 rfl fl_X12_232 rfl dX12_readsLaw_30 ?_
      refine w_iload_n 0 33 hX rfl rfl dX12_readsLaw_33 ?_
      refine w_if_eq (tgt := 41) 34 hX dX12_readsLaw_34 (by decide) (fun c5 => ?_) (fun c5 => ?_)
      · have h := it h c5
        refine w_iconst 0 41 hX ic_0 dX12_readsLaw_41 ?_
        exact w_sub [1, 0] rfl (bX12_readsLaw_146_42 hX hR hk12 x3 (u4 146 13) 0 u4 h)
      · have h := ie h c5
        refine w_iconst 1 37 hX ic_1 dX12_readsLaw_37 ?_
        refine w_goto (tgt := 42) 38 hX (by decide) dX12_readsLaw_38 ?_
        exact w_sub [1, 0] rfl (bX12_readsLaw_146_42 hX hR hk12 x3 (u4 146 13) 1 u4 h)
def FX12_readsLaw_146_L12 : Nat → Int32 → Mem → Option (Int32 × Mem)
  | 0, _, _ => none
  | n + 1, l1, u => FX12_readsLaw_146_b12 (FX12_readsLaw_146_L12 n) l1 u
theorem lX12_readsLaw_146_12 {G : Gt} {X : Xt} {v : Int32} {u' : Mem} (hX : CxOk G X cX12_readsLaw 2 RX12 (some (.int v), SH, RHO, u') 92) (hR : CxRet G X (some .boolean) (some (.int v), SH, RHO, u')) : ∀ (n : Nat) (l1 : Int32) (u : Mem), FX12_readsLaw_146_L12 n l1 u = some (v, u') → WM G X 12 [(0, .ref 146), (1, .int l1)] [] SH RHO u := by
  intro n
  induction n with
  | zero =>
    intro l1 u h
    exact nn_ h
  | succ n ih =>
    intro l1 u h
    exact bX12_readsLaw_146_12 hX hR ih l1 u h
def FX12_readsLaw_146 (u : Mem) : Option (Int32 × Mem) :=
  (some (mupd u 146 13 0)).bind fun u1 => (some (mupd u1 146 14 0)).bind fun u2 => FX12_readsLaw_146_L12 FU 1 u2
theorem CX12_readsLaw_146 {G : Gt} (u : Mem) {v : Int32} {u' : Mem} (h : FX12_readsLaw_146 u = some (v, u')) : CT G yX12_readsLaw cX12_readsLaw 2 (some .boolean) 92 [.ref 146] SH RHO u (some (.int v), SH, RHO, u') :=
  ct_of (by decide) rfl (Nat.le_of_ble_eq_true rfl) (Nat.le_refl _) (Nat.le_refl _) (fun X hX hR => by
  unfold FX12_readsLaw_146 at h
  refine w_aload_n 0 0 hX rfl rfl dX12_readsLaw_0 ?_
  refine w_iconst 0 1 hX ic_0 dX12_readsLaw_1 ?_
  obtain ⟨u1, gu1, h⟩ := o_bind h
  refine w_putI (j := 13) 2 hX CI_12 s_146 rfl fl_X12_232 rfl rfl rfl rfl dX12_readsLaw_2 ?_
  rw [Option.some.inj gu1]
  refine w_aload_n 0 5 hX rfl rfl dX12_readsLaw_5 ?_
  refine w_iconst 0 6 hX ic_0 dX12_readsLaw_6 ?_
  obtain ⟨u2, gu2, h⟩ := o_bind h
  refine w_putI (j := 14) 7 hX CI_12 s_146 rfl fl_X12_197 rfl rfl rfl rfl dX12_readsLaw_7 ?_
  rw [Option.some.inj gu2]
  refine w_iconst 1 10 hX ic_1 dX12_readsLaw_10 ?_
  refine w_istore_n (lv' := [(1, .int 1), (0, .ref 146)]) 11 hX rfl dX12_readsLaw_11 (by decide) rfl ?_
  exact w_sub [1, 0] rfl (lX12_readsLaw_146_12 hX hR FU 1 u2 h))
def FX12_puts_146_b13 (k13 : Int32 → Int32 → Int32 → Mem → Option (Int32 × Mem)) (l2 l3 l4 : Int32) (u : Mem) : Option (Int32 × Mem) :=
  (if (l3 * (u 146 15)) ≤ l4 then (some (u 146 15, u)) else ((rdA u 153 48 l4).bind fun x2 => (wrA u 147 1786 (l2 + l4) x2).bind fun u3 => k13 l2 l3 (l4 + 1) u3))
theorem bX12_puts_146_13 {G : Gt} {X : Xt} {v : Int32} {u' : Mem} (hX : CxOk G X cX12_puts 5 RX12 (some (.int v), SH, RHO, u') 1) (hR : CxRet G X (some .int) (some (.int v), SH, RHO, u')) {k13 : Int32 → Int32 → Int32 → Mem → Option (Int32 × Mem)} (hk13 : ∀ (l2 l3 l4 : Int32) (u : Mem), k13 l2 l3 l4 u = some (v, u') → WM G X 13 [(0, .ref 146), (2, .int l2), (3, .int l3), (4, .int l4)] [] SH RHO u) (l2 l3 l4 : Int32) (u : Mem) (h : FX12_puts_146_b13 k13 l2 l3 l4 u = some (v, u')) : WM G X 13 [(0, .ref 146), (2, .int l2), (3, .int l3), (4, .int l4)] [] SH RHO u := by
  unfold FX12_puts_146_b13 at h
  refine w_iload 3 13 hX rfl dX12_puts_13 ?_
  refine w_iload_n 2 15 hX rfl rfl dX12_puts_15 ?_
  refine w_aload_n 0 16 hX rfl rfl dX12_puts_16 ?_
  refine w_getI (j := 15) 17 hX CI_12 s_146 rfl fl_X12_245 rfl dX12_puts_17 ?_
  refine w_imul 20 hX dX12_puts_20 ?_
  refine w_icmp_ge (tgt := 46) 21 hX dX12_puts_21 (by decide) (fun c1 => ?_) (fun c1 => ?_)
  · have h := it h c1
    refine w_aload_n 0 46 hX rfl rfl dX12_puts_46 ?_
    refine w_getI (j := 15) 47 hX CI_12 s_146 rfl fl_X12_245 rfl dX12_puts_47 ?_
    exact w_iret 50 hX hR dX12_puts_50 (by cases h; rfl)
  · have h := ie h c1
    refine w_aload_n 0 24 hX rfl rfl dX12_puts_24 ?_
    refine w_getR 25 hX CI_12 s_146 rfl r_146_0 fl_X12_7 rfl dX12_puts_25 ?_
    refine w_iload_n 1 28 hX rfl rfl dX12_puts_28 ?_
    refine w_iload 3 29 hX rfl dX12_puts_29 ?_
    refine w_iadd 31 hX dX12_puts_31 ?_
    refine w_aload_n 0 32 hX rfl rfl dX12_puts_32 ?_
    refine w_getR 33 hX CI_12 s_146 rfl r_146_8 fl_X12_28 rfl dX12_puts_33 ?_
    refine w_iload 3 36 hX rfl dX12_puts_36 ?_
    obtain ⟨x2, gx2, h⟩ := o_bind h
    refine w_iald 38 hX s_153 gx2 dX12_puts_38 ?_
    obtain ⟨u3, gu3, h⟩ := o_bind h
    refine w_iast 39 hX s_147 gu3 dX12_puts_39 ?_
    refine w_iinc (lv' := [(4, .int (l4 + 1)), (0, .ref 146), (2, .int l2), (3, .int l3)]) 40 3 hX dX12_puts_40 rfl (inc_1 _) (by decide) rfl ?_
    refine w_goto (tgt := 13) 43 hX (by decide) dX12_puts_43 ?_
    exact w_sub [1, 2, 3, 0] rfl (hk13 l2 l3 (l4 + 1) u3 h)
def FX12_puts_146_L13 : Nat → Int32 → Int32 → Int32 → Mem → Option (Int32 × Mem)
  | 0, _, _, _, _ => none
  | n + 1, l2, l3, l4, u => FX12_puts_146_b13 (FX12_puts_146_L13 n) l2 l3 l4 u
theorem lX12_puts_146_13 {G : Gt} {X : Xt} {v : Int32} {u' : Mem} (hX : CxOk G X cX12_puts 5 RX12 (some (.int v), SH, RHO, u') 1) (hR : CxRet G X (some .int) (some (.int v), SH, RHO, u')) : ∀ (n : Nat) (l2 l3 l4 : Int32) (u : Mem), FX12_puts_146_L13 n l2 l3 l4 u = some (v, u') → WM G X 13 [(0, .ref 146), (2, .int l2), (3, .int l3), (4, .int l4)] [] SH RHO u := by
  intro n
  induction n with
  | zero =>
    intro l2 l3 l4 u h
    exact nn_ h
  | succ n ih =>
    intro l2 l3 l4 u h
    exact bX12_puts_146_13 hX hR ih l2 l3 l4 u h
def FX12_puts_146 (p1 p2 p3 : Int32) (u : Mem) : Option (Int32 × Mem) :=
  (wrA u 147 1786 p1 (u 146 15)).bind fun u1 => FX12_puts_146_L13 FU p2 p3 0 u1
theorem CX12_puts_146 {G : Gt} (p1 p2 p3 : Int32) (u : Mem) {v : Int32} {u' : Mem} (h : FX12_puts_146 p1 p2 p3 u = some (v, u')) : CT G yX12_puts cX12_puts 5 (some .int) 1 [.ref 146, .int p1, .int p2, .int p3] SH RHO u (some (.int v), SH, RHO, u') :=
  ct_of (by decide) rfl (Nat.le_of_ble_eq_true rfl) (Nat.le_refl _) (Nat.le_refl _) (fun X hX hR => by
  unfold FX12_puts_146 at h
  refine w_aload_n 0 0 hX rfl rfl dX12_puts_0 ?_
  refine w_getR 1 hX CI_12 s_146 rfl r_146_0 fl_X12_7 rfl dX12_puts_1 ?_
  refine w_iload_n 1 4 hX rfl rfl dX12_puts_4 ?_
  refine w_aload_n 0 5 hX rfl rfl dX12_puts_5 ?_
  refine w_getI (j := 15) 6 hX CI_12 s_146 rfl fl_X12_245 rfl dX12_puts_6 ?_
  obtain ⟨u1, gu1, h⟩ := o_bind h
  refine w_iast 9 hX s_147 gu1 dX12_puts_9 ?_
  refine w_iconst 0 10 hX ic_0 dX12_puts_10 ?_
  refine w_istore (lv' := [(4, .int 0), (0, .ref 146), (1, .int p1), (2, .int p2), (3, .int p3)]) 11 hX dX12_puts_11 (by decide) rfl ?_
  exact w_sub [1, 3, 4, 0] rfl (lX12_puts_146_13 hX hR FU p2 p3 0 u1 h))
def FX12_putsLaw_146_b107 (k107 : Int32 → Mem → Option (Int32 × Mem)) (l1 : Int32) (u : Mem) : Option (Int32 × Mem) :=
  (if (2 * (u 146 14)) ≤ l1 then (some (u 146 13, u)) else ((rdA u 152 820 l1).bind fun x2 => (wrA u 147 1786 (966 + l1) x2).bind fun u3 => k107 (l1 + 1) u3))
theorem bX12_putsLaw_146_107 {G : Gt} {X : Xt} {v : Int32} {u' : Mem} (hX : CxOk G X cX12_putsLaw 2 RX12 (some (.int v), SH, RHO, u') 1) (hR : CxRet G X (some .int) (some (.int v), SH, RHO, u')) {k107 : Int32 → Mem → Option (Int32 × Mem)} (hk107 : ∀ (l1 : Int32) (u : Mem), k107 l1 u = some (v, u') → WM G X 107 [(0, .ref 146), (1, .int l1)] [] SH RHO u) (l1 : Int32) (u : Mem) (h : FX12_putsLaw_146_b107 k107 l1 u = some (v, u')) : WM G X 107 [(0, .ref 146), (1, .int l1)] [] SH RHO u := by
  unfold FX12_putsLaw_146_b107 at h
  refine w_iload_n 1 107 hX rfl rfl dX12_putsLaw_107 ?_
  refine w_iconst 2 108 hX ic_2 dX12_putsLaw_108 ?_
  refine w_aload_n 0 109 hX rfl rfl dX12_putsLaw_109 ?_
  refine w_getI (j := 14) 110 hX CI_12 s_146 rfl fl_X12_197 rfl dX12_putsLaw_110 ?_
  refine w_imul 113 hX dX12_putsLaw_113 ?_
  refine w_icmp_ge (tgt := 139) 114 hX dX12_putsLaw_114 (by decide) (fun c1 => ?_) (fun c1 => ?_)
  · have h := it h c1
    refine w_aload_n 0 139 hX rfl rfl dX12_putsLaw_139 ?_
    refine w_getI (j := 13) 140 hX CI_12 s_146 rfl fl_X12_232 rfl dX12_putsLaw_140 ?_
    exact w_iret 143 hX hR dX12_putsLaw_143 (by cases h; rfl)
  · have h := ie h c1
    refine w_aload_n 0 117 hX rfl rfl dX12_putsLaw_117 ?_
    refine w_getR 118 hX CI_12 s_146 rfl r_146_0 fl_X12_7 rfl dX12_putsLaw_118 ?_
    refine w_sipush 966 121 hX isp_966 dX12_putsLaw_121 ?_
    refine w_iload_n 1 124 hX rfl rfl dX12_putsLaw_124 ?_
    refine w_iadd 125 hX dX12_putsLaw_125 ?_
    refine w_aload_n 0 126 hX rfl rfl dX12_putsLaw_126 ?_
    refine w_getR 127 hX CI_12 s_146 rfl r_146_7 fl_X12_25 rfl dX12_putsLaw_127 ?_
    refine w_iload_n 1 130 hX rfl rfl dX12_putsLaw_130 ?_
    obtain ⟨x2, gx2, h⟩ := o_bind h
    refine w_iald 131 hX s_152 gx2 dX12_putsLaw_131 ?_
    obtain ⟨u3, gu3, h⟩ := o_bind h
    refine w_iast 132 hX s_147 gu3 dX12_putsLaw_132 ?_
    refine w_iinc (lv' := [(1, .int (l1 + 1)), (0, .ref 146)]) 133 1 hX dX12_putsLaw_133 rfl (inc_1 _) (by decide) rfl ?_
    refine w_goto (tgt := 107) 136 hX (by decide) dX12_putsLaw_136 ?_
    exact w_sub [1, 0] rfl (hk107 (l1 + 1) u3 h)
def FX12_putsLaw_146_L107 : Nat → Int32 → Mem → Option (Int32 × Mem)
  | 0, _, _ => none
  | n + 1, l1, u => FX12_putsLaw_146_b107 (FX12_putsLaw_146_L107 n) l1 u
theorem lX12_putsLaw_146_107 {G : Gt} {X : Xt} {v : Int32} {u' : Mem} (hX : CxOk G X cX12_putsLaw 2 RX12 (some (.int v), SH, RHO, u') 1) (hR : CxRet G X (some .int) (some (.int v), SH, RHO, u')) : ∀ (n : Nat) (l1 : Int32) (u : Mem), FX12_putsLaw_146_L107 n l1 u = some (v, u') → WM G X 107 [(0, .ref 146), (1, .int l1)] [] SH RHO u := by
  intro n
  induction n with
  | zero =>
    intro l1 u h
    exact nn_ h
  | succ n ih =>
    intro l1 u h
    exact bX12_putsLaw_146_107 hX hR ih l1 u h
def FX12_putsLaw_146_b13 (k13 : Int32 → Mem → Option (Int32 × Mem)) (l1 : Int32) (u : Mem) : Option (Int32 × Mem) :=
  (if (u 146 13) ≤ l1 then (FX12_putsLaw_146_L107 FU 0 u) else ((rdA u 151 64 (4 * l1)).bind fun x2 => (wrA u 147 1786 (900 + l1) x2).bind fun u3 => (rdA u3 151 64 ((4 * l1) + 1)).bind fun x4 => (wrA u3 147 1786 (916 + l1) x4).bind fun u5 => (rdA u5 151 64 ((4 * l1) + 2)).bind fun x6 => (wrA u5 147 1786 (932 + l1) x6).bind fun u7 => (rdA u7 151 64 ((4 * l1) + 3)).bind fun x8 => (wrA u7 147 1786 (948 + l1) x8).bind fun u9 => k13 (l1 + 1) u9))
theorem bX12_putsLaw_146_13 {G : Gt} {X : Xt} {v : Int32} {u' : Mem} (hX : CxOk G X cX12_putsLaw 2 RX12 (some (.int v), SH, RHO, u') 1) (hR : CxRet G X (some .int) (some (.int v), SH, RHO, u')) {k13 : Int32 → Mem → Option (Int32 × Mem)} (hk13 : ∀ (l1 : Int32) (u : Mem), k13 l1 u = some (v, u') → WM G X 13 [(0, .ref 146), (1, .int l1)] [] SH RHO u) (l1 : Int32) (u : Mem) (h : FX12_putsLaw_146_b13 k13 l1 u = some (v, u')) : WM G X 13 [(0, .ref 146), (1, .int l1)] [] SH RHO u := by
  unfold FX12_putsLaw_146_b13 at h
  refine w_iload_n 1 13 hX rfl rfl dX12_putsLaw_13 ?_
  refine w_aload_n 0 14 hX rfl rfl dX12_putsLaw_14 ?_
  refine w_getI (j := 13) 15 hX CI_12 s_146 rfl fl_X12_232 rfl dX12_putsLaw_15 ?_
  refine w_icmp_ge (tgt := 105) 18 hX dX12_putsLaw_18 (by decide) (fun c1 => ?_) (fun c1 => ?_)
  · have h := it h c1
    refine w_iconst 0 105 hX ic_0 dX12_putsLaw_105 ?_
    refine w_istore_n (lv' := [(1, .int 0), (0, .ref 146)]) 106 hX rfl dX12_putsLaw_106 (by decide) rfl ?_
    exact w_sub [1, 0] rfl (lX12_putsLaw_146_107 hX hR FU 0 u h)
  · have h := ie h c1
    refine w_aload_n 0 21 hX rfl rfl dX12_putsLaw_21 ?_
    refine w_getR 22 hX CI_12 s_146 rfl r_146_0 fl_X12_7 rfl dX12_putsLaw_22 ?_
    refine w_sipush 900 25 hX isp_900 dX12_putsLaw_25 ?_
    refine w_iload_n 1 28 hX rfl rfl dX12_putsLaw_28 ?_
    refine w_iadd 29 hX dX12_putsLaw_29 ?_
    refine w_aload_n 0 30 hX rfl rfl dX12_putsLaw_30 ?_
    refine w_getR 31 hX CI_12 s_146 rfl r_146_6 fl_X12_22 rfl dX12_putsLaw_31 ?_
    refine w_iconst 4 34 hX ic_4 dX12_putsLaw_34 ?_
    refine w_iload_n 1 35 hX rfl rfl dX12_putsLaw_35 ?_
    refine w_imul 36 hX dX12_putsLaw_36 ?_
    obtain ⟨x2, gx2, h⟩ := o_bind h
    refine w_iald 37 hX s_151 gx2 dX12_putsLaw_37 ?_
    obtain ⟨u3, gu3, h⟩ := o_bind h
    refine w_iast 38 hX s_147 gu3 dX12_putsLaw_38 ?_
    refine w_aload_n 0 39 hX rfl rfl dX12_putsLaw_39 ?_
    refine w_getR 40 hX CI_12 s_146 rfl r_146_0 fl_X12_7 rfl dX12_putsLaw_40 ?_
    refine w_sipush 916 43 hX isp_916 dX12_putsLaw_43 ?_
    refine w_iload_n 1 46 hX rfl rfl dX12_putsLaw_46 ?_
    refine w_iadd 47 hX dX12_putsLaw_47 ?_
    refine w_aload_n 0 48 hX rfl rfl dX12_putsLaw_48 ?_
    refine w_getR 49 hX CI_12 s_146 rfl r_146_6 fl_X12_22 rfl dX12_putsLaw_49 ?_
    refine w_iconst 4 52 hX ic_4 dX12_putsLaw_52 ?_
    refine w_iload_n 1 53 hX rfl rfl dX12_putsLaw_53 ?_
    refine w_imul 54 hX dX12_putsLaw_54 ?_
    refine w_iconst 1 55 hX ic_1 dX12_putsLaw_55 ?_
    refine w_iadd 56 hX dX12_putsLaw_56 ?_
    obtain ⟨x4, gx4, h⟩ := o_bind h
    refine w_iald 57 hX s_151 gx4 dX12_putsLaw_57 ?_
    obtain ⟨u5, gu5, h⟩ := o_bind h
    refine w_iast 58 hX s_147 gu5 dX12_putsLaw_58 ?_
    refine w_aload_n 0 59 hX rfl rfl dX12_putsLaw_59 ?_
    refine w_getR 60 hX CI_12 s_146 rfl r_146_0 fl_X12_7 rfl dX12_putsLaw_60 ?_
    refine w_sipush 932 63 hX isp_932 dX12_putsLaw_63 ?_
    refine w_iload_n 1 66 hX rfl rfl dX12_putsLaw_66 ?_
    refine w_iadd 67 hX dX12_putsLaw_67 ?_
    refine w_aload_n 0 68 hX rfl rfl dX12_putsLaw_68 ?_
    refine w_getR 69 hX CI_12 s_146 rfl r_146_6 fl_X12_22 rfl dX12_putsLaw_69 ?_
    refine w_iconst 4 72 hX ic_4 dX12_putsLaw_72 ?_
    refine w_iload_n 1 73 hX rfl rfl dX12_putsLaw_73 ?_
    refine w_imul 74 hX dX12_putsLaw_74 ?_
    refine w_iconst 2 75 hX ic_2 dX12_putsLaw_75 ?_
    refine w_iadd 76 hX dX12_putsLaw_76 ?_
    obtain ⟨x6, gx6, h⟩ := o_bind h
    refine w_iald 77 hX s_151 gx6 dX12_putsLaw_77 ?_
    obtain ⟨u7, gu7, h⟩ := o_bind h
    refine w_iast 78 hX s_147 gu7 dX12_putsLaw_78 ?_
    refine w_aload_n 0 79 hX rfl rfl dX12_putsLaw_79 ?_
    refine w_getR 80 hX CI_12 s_146 rfl r_146_0 fl_X12_7 rfl dX12_putsLaw_80 ?_
    refine w_sipush 948 83 hX isp_948 dX12_putsLaw_83 ?_
    refine w_iload_n 1 86 hX rfl rfl dX12_putsLaw_86 ?_
    refine w_iadd 87 hX dX12_putsLaw_87 ?_
    refine w_aload_n 0 88 hX rfl rfl dX12_putsLaw_88 ?_
    refine w_getR 89 hX CI_12 s_146 rfl r_146_6 fl_X12_22 rfl dX12_putsLaw_89 ?_
    refine w_iconst 4 92 hX ic_4 dX12_putsLaw_92 ?_
    refine w_iload_n 1 93 hX rfl rfl dX12_putsLaw_93 ?_
    refine w_imul 94 hX dX12_putsLaw_94 ?_
    refine w_iconst 3 95 hX ic_3 dX12_putsLaw_95 ?_
    refine w_iadd 96 hX dX12_putsLaw_96 ?_
    obtain ⟨x8, gx8, h⟩ := o_bind h
    refine w_iald 97 hX s_151 gx8 dX12_putsLaw_97 ?_
    obtain ⟨u9, gu9, h⟩ := o_bind h
    refine w_iast 98 hX s_147 gu9 dX12_putsLaw_98 ?_
    refine w_iinc (lv' := [(1, .int (l1 + 1)), (0, .ref 146)]) 99 1 hX dX12_putsLaw_99 rfl (inc_1 _) (by decide) rfl ?_
    refine w_goto (tgt := 13) 102 hX (by decide) dX12_putsLaw_102 ?_
    exact w_sub [1, 0] rfl (hk13 (l1 + 1) u9 h)
def FX12_putsLaw_146_L13 : Nat → Int32 → Mem → Option (Int32 × Mem)
  | 0, _, _ => none
  | n + 1, l1, u => FX12_putsLaw_146_b13 (FX12_putsLaw_146_L13 n) l1 u
theorem lX12_putsLaw_146_13 {G : Gt} {X : Xt} {v : Int32} {u' : Mem} (hX : CxOk G X cX12_putsLaw 2 RX12 (some (.int v), SH, RHO, u') 1) (hR : CxRet G X (some .int) (some (.int v), SH, RHO, u')) : ∀ (n : Nat) (l1 : Int32) (u : Mem), FX12_putsLaw_146_L13 n l1 u = some (v, u') → WM G X 13 [(0, .ref 146), (1, .int l1)] [] SH RHO u := by
  intro n
  induction n with
  | zero =>
    intro l1 u h
    exact nn_ h
  | succ n ih =>
    intro l1 u h
    exact bX12_putsLaw_146_13 hX hR ih l1 u h
def FX12_putsLaw_146 (u : Mem) : Option (Int32 × Mem) :=
  (some (mupd u 147 84 (u 146 13))).bind fun u1 => FX12_putsLaw_146_L13 FU 0 u1
theorem CX12_putsLaw_146 {G : Gt} (u : Mem) {v : Int32} {u' : Mem} (h : FX12_putsLaw_146 u = some (v, u')) : CT G yX12_putsLaw cX12_putsLaw 2 (some .int) 1 [.ref 146] SH RHO u (some (.int v), SH, RHO, u') :=
  ct_of (by decide) rfl (Nat.le_of_ble_eq_true rfl) (Nat.le_refl _) (Nat.le_refl _) (fun X hX hR => by
  unfold FX12_putsLaw_146 at h
  refine w_aload_n 0 0 hX rfl rfl dX12_putsLaw_0 ?_
  refine w_getR 1 hX CI_12 s_146 rfl r_146_0 fl_X12_7 rfl dX12_putsLaw_1 ?_
  refine w_bipush 84 4 hX ib_84 dX12_putsLaw_4 ?_
  refine w_aload_n 0 6 hX rfl rfl dX12_putsLaw_6 ?_
  refine w_getI (j := 13) 7 hX CI_12 s_146 rfl fl_X12_232 rfl dX12_putsLaw_7 ?_
  obtain ⟨u1, gu1, h⟩ := o_bind h
  refine w_iast 10 hX s_147 (wrK 84 84 n_84 (by decide) (by decide) gu1) dX12_putsLaw_10 ?_
  refine w_iconst 0 11 hX ic_0 dX12_putsLaw_11 ?_
  refine w_istore_n (lv' := [(1, .int 0), (0, .ref 146)]) 12 hX rfl dX12_putsLaw_12 (by decide) rfl ?_
  exact w_sub [1, 0] rfl (lX12_putsLaw_146_13 hX hR FU 0 u1 h))
def FX12_putsText_146 (p1 : Int32) (u : Mem) : Option (Int32 × Mem) :=
  (if p1 = 0 then (bnd2 (FX12_putsLaw_146 u) fun x12 u13 => some (x12, u13)) else ((if p1 = 2 then (bnd2 (FX12_puts_146 86 190 2 u) fun x10 u11 => some (x10, u11)) else ((FX12_forgetsActs_146 u).bind fun u4 => (if p1 = 1 then (bnd2 (FX12_puts_146 85 158 2 u4) fun x8 u9 => some (x8, u9)) else (bnd2 (FX12_puts_146 87 222 3 u4) fun x6 u7 => some (x6, u7)))))))
theorem CX12_putsText_146 {G : Gt} (p1 : Int32) (u : Mem) {v : Int32} {u' : Mem} (h : FX12_putsText_146 p1 u = some (v, u')) : CT G yX12_putsText cX12_putsText 2 (some .int) 2 [.ref 146, .int p1] SH RHO u (some (.int v), SH, RHO, u') :=
  ct_of (by decide) rfl (Nat.le_of_ble_eq_true rfl) (Nat.le_refl _) (Nat.le_refl _) (fun X hX hR => by
  unfold FX12_putsText_146 at h
  refine w_iload_n 1 0 hX rfl rfl dX12_putsText_0 ?_
  refine w_if_ne (tgt := 9) 1 hX dX12_putsText_1 (by decide) (fun c1 => ?_) (fun c1 => ?_)
  · have h := ie h c1
    refine w_iload_n 1 9 hX rfl rfl dX12_putsText_9 ?_
    refine w_iconst 2 10 hX ic_2 dX12_putsText_10 ?_
    refine w_icmp_ne (tgt := 25) 11 hX dX12_putsText_11 (by decide) (fun c2 => ?_) (fun c2 => ?_)
    · have h := ie h c2
      refine w_aload_n 0 25 hX rfl rfl dX12_putsText_25 ?_
      obtain ⟨u4, gu4, h⟩ := o_bind h
      refine w_invVv (av := []) (st := []) 26 hX CI_12 s_146 rfl mv_yX12_forgetsActs mi_yX12_forgetsActs ml_X12_61 (CX12_forgetsActs_146 u gu4) rfl (by decide) (Nat.le_of_ble_eq_true rfl) (Nat.le_refl _) (Nat.le_refl _) dX12_putsText_26 ?_
      refine w_iload_n 1 29 hX rfl rfl dX12_putsText_29 ?_
      refine w_iconst 1 30 hX ic_1 dX12_putsText_30 ?_
      refine w_icmp_ne (tgt := 47) 31 hX dX12_putsText_31 (by decide) (fun c5 => ?_) (fun c5 => ?_)
      · have h := ie h c5
        refine w_aload_n 0 47 hX rfl rfl dX12_putsText_47 ?_
        refine w_bipush 87 48 hX ib_87 dX12_putsText_48 ?_
        refine w_sipush 222 50 hX isp_222 dX12_putsText_50 ?_
        refine w_iconst 3 53 hX ic_3 dX12_putsText_53 ?_
        obtain ⟨x6, u7, gx6, h⟩ := o_bnd2 h
        refine w_invVi (av := [.int 87, .int 222, .int 3]) (st := []) 54 hX CI_12 s_146 rfl mv_yX12_puts mi_yX12_puts ml_X12_269 (CX12_puts_146 87 222 3 u4 gx6) rfl (by decide) (Nat.le_of_ble_eq_true rfl) (Nat.le_refl _) (Nat.le_refl _) dX12_putsText_54 ?_
        exact w_iret 57 hX hR dX12_putsText_57 (by cases h; rfl)
      · have h := it h c5
        refine w_aload_n 0 34 hX rfl rfl dX12_putsText_34 ?_
        refine w_bipush 85 35 hX ib_85 dX12_putsText_35 ?_
        refine w_sipush 158 37 hX isp_158 dX12_putsText_37 ?_
        refine w_iconst 2 40 hX ic_2 dX12_putsText_40 ?_
        obtain ⟨x8, u9, gx8, h⟩ := o_bnd2 h
        refine w_invVi (av := [.int 85, .int 158, .int 2]) (st := []) 41 hX CI_12 s_146 rfl mv_yX12_puts mi_yX12_puts ml_X12_269 (CX12_puts_146 85 158 2 u4 gx8) rfl (by decide) (Nat.le_of_ble_eq_true rfl) (Nat.le_refl _) (Nat.le_refl _) dX12_putsText_41 ?_
        refine w_goto (tgt := 57) 44 hX (by decide) dX12_putsText_44 ?_
        exact w_iret 57 hX hR dX12_putsText_57 (by cases h; rfl)
    · have h := it h c2
      refine w_aload_n 0 14 hX rfl rfl dX12_putsText_14 ?_
      refine w_bipush 86 15 hX ib_86 dX12_putsText_15 ?_
      refine w_sipush 190 17 hX isp_190 dX12_putsText_17 ?_
      refine w_iconst 2 20 hX ic_2 dX12_putsText_20 ?_
      obtain ⟨x10, u11, gx10, h⟩ := o_bnd2 h
      refine w_invVi (av := [.int 86, .int 190, .int 2]) (st := []) 21 hX CI_12 s_146 rfl mv_yX12_puts mi_yX12_puts ml_X12_269 (CX12_puts_146 86 190 2 u gx10) rfl (by decide) (Nat.le_of_ble_eq_true rfl) (Nat.le_refl _) (Nat.le_refl _) dX12_putsText_21 ?_
      exact w_iret 24 hX hR dX12_putsText_24 (by cases h; rfl)
  · have h := it h c1
    refine w_aload_n 0 4 hX rfl rfl dX12_putsText_4 ?_
    obtain ⟨x12, u13, gx12, h⟩ := o_bnd2 h
    refine w_invVi (av := []) (st := []) 5 hX CI_12 s_146 rfl mv_yX12_putsLaw mi_yX12_putsLaw ml_X12_266 (CX12_putsLaw_146 u gx12) rfl (by decide) (Nat.le_of_ble_eq_true rfl) (Nat.le_refl _) (Nat.le_refl _) dX12_putsText_5 ?_
    exact w_iret 8 hX hR dX12_putsText_8 (by cases h; rfl))
def FX12_text_146_b60 (l1 t0 : Int32) (u : Mem) : Option (Int32 × Mem) :=
  (some (mupd u 146 16 0)).bind fun u1 => (if t0 = 0 then ((some (mupd u1 146 23 (u1 146 21))).bind fun u3 => (some (mupd u3 146 25 (u3 146 22))).bind fun u4 => some ((-1), u4)) else (bnd2 (FX12_putsText_146 l1 u1) fun x5 u6 => some (x5, u6)))
theorem bX12_text_146_60 {G : Gt} {X : Xt} {v : Int32} {u' : Mem} (hX : CxOk G X cX12_text 3 RX12 (some (.int v), SH, RHO, u') 93) (hR : CxRet G X (some .int) (some (.int v), SH, RHO, u')) (l1 t0 : Int32) (u : Mem) (h : FX12_text_146_b60 l1 t0 u = some (v, u')) : WM G X 60 [(0, .ref 146), (1, .int l1)] [.int t0] SH RHO u := by
  unfold FX12_text_146_b60 at h
  refine w_istore_n (lv' := [(2, .int t0), (0, .ref 146), (1, .int l1)]) 60 hX rfl dX12_text_60 (by decide) rfl ?_
  refine w_aload_n 1 61 hX rfl rfl dX12_text_61 ?_
  refine w_iconst 0 62 hX ic_0 dX12_text_62 ?_
  obtain ⟨u1, gu1, h⟩ := o_bind h
  refine w_putI (j := 16) 63 hX CI_12 s_146 rfl fl_X12_80 rfl rfl rfl rfl dX12_text_63 ?_
  rw [Option.some.inj gu1]
  refine w_iload_n 0 66 hX rfl rfl dX12_text_66 ?_
  refine w_if_eq (tgt := 76) 67 hX dX12_text_67 (by decide) (fun c2 => ?_) (fun c2 => ?_)
  · have h := it h c2
    refine w_aload_n 1 76 hX rfl rfl dX12_text_76 ?_
    refine w_aload_n 1 77 hX rfl rfl dX12_text_77 ?_
    refine w_getI (j := 21) 78 hX CI_12 s_146 rfl fl_X12_185 rfl dX12_text_78 ?_
    obtain ⟨u3, gu3, h⟩ := o_bind h
    refine w_putI (j := 23) 81 hX CI_12 s_146 rfl fl_X12_273 rfl rfl rfl rfl dX12_text_81 ?_
    rw [Option.some.inj gu3]
    refine w_aload_n 1 84 hX rfl rfl dX12_text_84 ?_
    refine w_aload_n 1 85 hX rfl rfl dX12_text_85 ?_
    refine w_getI (j := 22) 86 hX CI_12 s_146 rfl fl_X12_188 rfl dX12_text_86 ?_
    obtain ⟨u4, gu4, h⟩ := o_bind h
    refine w_putI (j := 25) 89 hX CI_12 s_146 rfl fl_X12_40 rfl rfl rfl rfl dX12_text_89 ?_
    rw [Option.some.inj gu4]
    refine w_iconst (-1) 92 hX ic_m1 dX12_text_92 ?_
    exact w_iret 93 hX hR dX12_text_93 (by cases h; rfl)
  · have h := ie h c2
    refine w_aload_n 1 70 hX rfl rfl dX12_text_70 ?_
    refine w_iload_n 2 71 hX rfl rfl dX12_text_71 ?_
    obtain ⟨x5, u6, gx5, h⟩ := o_bnd2 h
    refine w_invVi (av := [.int l1]) (st := []) 72 hX CI_12 s_146 rfl mv_yX12_putsText mi_yX12_putsText ml_X12_282 (CX12_putsText_146 l1 u1 gx5) rfl (by decide) (Nat.le_of_ble_eq_true rfl) (Nat.le_refl _) (Nat.le_refl _) dX12_text_72 ?_
    exact w_iret 75 hX hR dX12_text_75 (by cases h; rfl)
def FX12_text_146 (p1 : Int32) (u : Mem) : Option (Int32 × Mem) :=
  (some (mupd u 146 23 0)).bind fun u1 => (some (mupd u1 146 25 (-1))).bind fun u2 => (FX12_isIn p1 0 3).bind fun x3 => (if x3 = 0 then ((some (mupd u2 146 16 0)).bind fun u15 => some ((-1), u15)) else ((some (mupd u2 146 21 0)).bind fun u5 => (some (mupd u5 146 17 0)).bind fun u6 => (some (mupd u6 146 12 p1)).bind fun u7 => (FX12_next0_146 u7).bind fun u9 => (if p1 = 0 then (bnd2 (FX12_readsLaw_146 u9) fun x13 u14 => FX12_text_146_b60 p1 x13 u14) else (bnd2 (FX12_readsRows_146 u9) fun x11 u12 => FX12_text_146_b60 p1 x11 u12))))
theorem CX12_text_146 {G : Gt} (p1 : Int32) (u : Mem) {v : Int32} {u' : Mem} (h : FX12_text_146 p1 u = some (v, u')) : CT G yX12_text cX12_text 3 (some .int) 93 [.ref 146, .int p1] SH RHO u (some (.int v), SH, RHO, u') :=
  ct_of (by decide) rfl (Nat.le_of_ble_eq_true rfl) (Nat.le_refl _) (Nat.le_refl _) (fun X hX hR => by
  unfold FX12_text_146 at h
  refine w_aload_n 0 0 hX rfl rfl dX12_text_0 ?_
  refine w_iconst 0 1 hX ic_0 dX12_text_1 ?_
  obtain ⟨u1, gu1, h⟩ := o_bind h
  refine w_putI (j := 23) 2 hX CI_12 s_146 rfl fl_X12_273 rfl rfl rfl rfl dX12_text_2 ?_
  rw [Option.some.inj gu1]
  refine w_aload_n 0 5 hX rfl rfl dX12_text_5 ?_
  refine w_iconst (-1) 6 hX ic_m1 dX12_text_6 ?_
  obtain ⟨u2, gu2, h⟩ := o_bind h
  refine w_putI (j := 25) 7 hX CI_12 s_146 rfl fl_X12_40 rfl rfl rfl rfl dX12_text_7 ?_
  rw [Option.some.inj gu2]
  refine w_iload_n 1 10 hX rfl rfl dX12_text_10 ?_
  refine w_iconst 0 11 hX ic_0 dX12_text_11 ?_
  refine w_iconst 3 12 hX ic_3 dX12_text_12 ?_
  obtain ⟨x3, gx3, h⟩ := o_bind h
  refine w_invSi (av := [.int p1, .int 0, .int 3]) (st := []) 13 hX ms_yX12_isIn mi_yX12_isIn ml_X12_54 (CX12_isIn p1 0 3 u2 gx3) rfl (by decide) (Nat.le_of_ble_eq_true rfl) (Nat.le_refl _) (Nat.le_refl _) dX12_text_13 ?_
  refine w_if_ne (tgt := 26) 16 hX dX12_text_16 (by decide) (fun c4 => ?_) (fun c4 => ?_)
  · have h := ie h c4
    refine w_aload_n 0 26 hX rfl rfl dX12_text_26 ?_
    refine w_iconst 0 27 hX ic_0 dX12_text_27 ?_
    obtain ⟨u5, gu5, h⟩ := o_bind h
    refine w_putI (j := 21) 28 hX CI_12 s_146 rfl fl_X12_185 rfl rfl rfl rfl dX12_text_28 ?_
    rw [Option.some.inj gu5]
    refine w_aload_n 0 31 hX rfl rfl dX12_text_31 ?_
    refine w_iconst 0 32 hX ic_0 dX12_text_32 ?_
    obtain ⟨u6, gu6, h⟩ := o_bind h
    refine w_putI (j := 17) 33 hX CI_12 s_146 rfl fl_X12_83 rfl rfl rfl rfl dX12_text_33 ?_
    rw [Option.some.inj gu6]
    refine w_aload_n 0 36 hX rfl rfl dX12_text_36 ?_
    refine w_iload_n 1 37 hX rfl rfl dX12_text_37 ?_
    obtain ⟨u7, gu7, h⟩ := o_bind h
    refine w_putI (j := 12) 38 hX CI_12 s_146 rfl fl_X12_151 rfl rfl rfl rfl dX12_text_38 ?_
    rw [Option.some.inj gu7]
    refine w_aload_n 0 41 hX rfl rfl dX12_text_41 ?_
    obtain ⟨u9, gu9, h⟩ := o_bind h
    refine w_invVv (av := []) (st := []) 42 hX CI_12 s_146 rfl mv_yX12_next0 mi_yX12_next0 ml_X12_194 (CX12_next0_146 u7 gu9) rfl (by decide) (Nat.le_of_ble_eq_true rfl) (Nat.le_refl _) (Nat.le_refl _) dX12_text_42 ?_
    refine w_iload_n 1 45 hX rfl rfl dX12_text_45 ?_
    refine w_if_ne (tgt := 56) 46 hX dX12_text_46 (by decide) (fun c10 => ?_) (fun c10 => ?_)
    · have h := ie h c10
      refine w_aload_n 0 56 hX rfl rfl dX12_text_56 ?_
      obtain ⟨x11, u12, gx11, h⟩ := o_bnd2 h
      refine w_invVi (av := []) (st := []) 57 hX CI_12 s_146 rfl mv_yX12_readsRows mi_yX12_readsRows ml_X12_279 (CX12_readsRows_146 u9 gx11) rfl (by decide) (Nat.le_of_ble_eq_true rfl) (Nat.le_refl _) (Nat.le_refl _) dX12_text_57 ?_
      exact bX12_text_146_60 hX hR p1 x11 u12 h
    · have h := it h c10
      refine w_aload_n 0 49 hX rfl rfl dX12_text_49 ?_
      obtain ⟨x13, u14, gx13, h⟩ := o_bnd2 h
      refine w_invVi (av := []) (st := []) 50 hX CI_12 s_146 rfl mv_yX12_readsLaw mi_yX12_readsLaw ml_X12_276 (CX12_readsLaw_146 u9 gx13) rfl (by decide) (Nat.le_of_ble_eq_true rfl) (Nat.le_refl _) (Nat.le_refl _) dX12_text_50 ?_
      refine w_goto (tgt := 60) 53 hX (by decide) dX12_text_53 ?_
      exact bX12_text_146_60 hX hR p1 x13 u14 h
  · have h := it h c4
    refine w_aload_n 0 19 hX rfl rfl dX12_text_19 ?_
    refine w_iconst 0 20 hX ic_0 dX12_text_20 ?_
    obtain ⟨u15, gu15, h⟩ := o_bind h
    refine w_putI (j := 16) 21 hX CI_12 s_146 rfl fl_X12_80 rfl rfl rfl rfl dX12_text_21 ?_
    rw [Option.some.inj gu15]
    refine w_iconst (-1) 24 hX ic_m1 dX12_text_24 ?_
    exact w_iret 25 hX hR dX12_text_25 (by cases h; rfl))
def FX11_fault_0 (p1 : Int32) (u : Mem) : Option Int32 :=
  (if p1 = 0 then (some (u 34 13)) else ((if p1 = 1 then (some (u 34 14)) else (some (-1)))))
theorem CX11_fault_0 {G : Gt} (p1 : Int32) (u : Mem) {v : Int32} (h : FX11_fault_0 p1 u = some v) : CT G yX11_fault cX11_fault 2 (some .int) 1 [.ref 0, .int p1] SH RHO u (some (.int v), SH, RHO, u) :=
  ct_of (by decide) rfl (Nat.le_of_ble_eq_true rfl) (Nat.le_refl _) (Nat.le_refl _) (fun X hX hR => by
  unfold FX11_fault_0 at h
  refine w_iload_n 1 0 hX rfl rfl dX11_fault_0 ?_
  by_cases c1 : p1 = 0
  · have h := it h c1
    refine w_lookup (tgt := 28) (off := 27) 1 hX dX11_fault_1 (by decide) (by rw [c1]; decide) (by decide) ?_
    refine w_aload_n 0 28 hX rfl rfl dX11_fault_28 ?_
    refine w_getR 29 hX CI_11 s_0 rfl r_0_4 fl_X11_42 rfl dX11_fault_29 ?_
    refine w_getI (j := 13) 32 hX CI_6 s_34 rfl fl_X11_176 rfl dX11_fault_32 ?_
    exact w_iret 35 hX hR dX11_fault_35 (by cases h; rfl)
  · have h := ie h c1
    by_cases c2 : p1 = 1
    · have h := it h c2
      refine w_lookup (tgt := 36) (off := 35) 1 hX dX11_fault_1 (by decide) (by rw [c2]; decide) (by decide) ?_
      refine w_aload_n 0 36 hX rfl rfl dX11_fault_36 ?_
      refine w_getR 37 hX CI_11 s_0 rfl r_0_4 fl_X11_42 rfl dX11_fault_37 ?_
      refine w_getI (j := 14) 40 hX CI_6 s_34 rfl fl_X11_179 rfl dX11_fault_40 ?_
      exact w_iret 43 hX hR dX11_fault_43 (by cases h; rfl)
    · have h := ie h c2
      have zc1 := lv_neT c1 (a := 0) (by decide)
      have zc2 := lv_neT c2 (a := 1) (by decide)
      refine w_lookup (tgt := 44) (off := 43) 1 hX dX11_fault_1 (by decide) (by show Op.lookupswitch.offset [(0, 27), (1, 35)] 43 _ = _; rw [lv_osw c1 (by decide), lv_osw c2 (by decide)]; rfl) (by decide) ?_
      refine w_iconst (-1) 44 hX ic_m1 dX11_fault_44 ?_
      exact w_iret 45 hX hR dX11_fault_45 (by cases h; rfl))
def FX12_fault_146 (p1 : Int32) (u : Mem) : Option Int32 :=
  (if p1 = 0 then (some (u 146 23)) else ((if p1 = 1 then (some (u 146 25)) else (some (-1)))))
theorem CX12_fault_146 {G : Gt} (p1 : Int32) (u : Mem) {v : Int32} (h : FX12_fault_146 p1 u = some v) : CT G yX12_fault cX12_fault 2 (some .int) 1 [.ref 146, .int p1] SH RHO u (some (.int v), SH, RHO, u) :=
  ct_of (by decide) rfl (Nat.le_of_ble_eq_true rfl) (Nat.le_refl _) (Nat.le_refl _) (fun X hX hR => by
  unfold FX12_fault_146 at h
  refine w_iload_n 1 0 hX rfl rfl dX12_fault_0 ?_
  refine w_if_ne (tgt := 11) 1 hX dX12_fault_1 (by decide) (fun c1 => ?_) (fun c1 => ?_)
  · have h := ie h c1
    refine w_iload_n 1 11 hX rfl rfl dX12_fault_11 ?_
    refine w_iconst 1 12 hX ic_1 dX12_fault_12 ?_
    refine w_icmp_ne (tgt := 23) 13 hX dX12_fault_13 (by decide) (fun c2 => ?_) (fun c2 => ?_)
    · have h := ie h c2
      refine w_iconst (-1) 23 hX ic_m1 dX12_fault_23 ?_
      exact w_iret 24 hX hR dX12_fault_24 (by cases h; rfl)
    · have h := it h c2
      refine w_aload_n 0 16 hX rfl rfl dX12_fault_16 ?_
      refine w_getI (j := 25) 17 hX CI_12 s_146 rfl fl_X12_40 rfl dX12_fault_17 ?_
      refine w_goto (tgt := 24) 20 hX (by decide) dX12_fault_20 ?_
      exact w_iret 24 hX hR dX12_fault_24 (by cases h; rfl)
  · have h := it h c1
    refine w_aload_n 0 4 hX rfl rfl dX12_fault_4 ?_
    refine w_getI (j := 23) 5 hX CI_12 s_146 rfl fl_X12_273 rfl dX12_fault_5 ?_
    refine w_goto (tgt := 24) 8 hX (by decide) dX12_fault_8 ?_
    exact w_iret 24 hX hR dX12_fault_24 (by cases h; rfl))
def FX11_of_0 (p1 p2 : Int32) (u : Mem) : Option (Int32 × Mem) :=
  (FX9_hasMan_1 p1 u).bind fun x1 => (if x1 = 0 then (some ((-2), u)) else ((if p2 = 0 then ((rdA u 2 12 p1).bind fun x4 => some (x4, u)) else ((if p2 = 1 then ((rdA u 3 12 p1).bind fun x6 => some (x6, u)) else ((if p2 = 2 then ((rdA u 4 12 p1).bind fun x8 => some (x8, u)) else ((if p2 = 3 then ((rdA u 24 12 p1).bind fun x10 => some (x10, u)) else ((if p2 = 4 then ((rdA u 25 12 p1).bind fun x12 => some (x12, u)) else ((if p2 = 5 then ((rdA u 26 12 p1).bind fun x14 => some (x14, u)) else ((if p2 = 6 then ((rdA u 27 12 p1).bind fun x16 => some (x16, u)) else ((if p2 = 7 then ((rdA u 27 12 p1).bind fun x18 => (if x18 = 1 then ((rdA u 28 12 p1).bind fun x20 => some (x20, u)) else (some ((-1), u)))) else ((if p2 = 8 then ((rdA u 5 12 p1).bind fun x22 => some (x22, u)) else ((if p2 = 9 then (some ((-2), u)) else ((if p2 = 10 then (bnd2 (FX3_asked_32 p1 0 u) fun x25 u26 => some (x25, u26)) else ((if p2 = 11 then (bnd2 (FX3_asked_32 p1 1 u) fun x28 u29 => some (x28, u29)) else ((if p2 = 12 then (bnd2 (FX3_asked_32 p1 2 u) fun x31 u32 => some (x31, u32)) else ((if p2 = 13 then (bnd2 (FX3_asked_32 p1 3 u) fun x34 u35 => some (x34, u35)) else (some ((-2), u)))))))))))))))))))))))))))))))
theorem CX11_of_0 {G : Gt} (p1 p2 : Int32) (u : Mem) {v : Int32} {u' : Mem} (h : FX11_of_0 p1 p2 u = some (v, u')) : CT G yX11_of cX11_of 3 (some .int) 4 [.ref 0, .int p1, .int p2] SH RHO u (some (.int v), SH, RHO, u') :=
  ct_of (by decide) rfl (Nat.le_of_ble_eq_true rfl) (Nat.le_refl _) (Nat.le_refl _) (fun X hX hR => by
  unfold FX11_of_0 at h
  refine w_aload_n 0 0 hX rfl rfl dX11_of_0 ?_
  refine w_getR 1 hX CI_11 s_0 rfl r_0_0 fl_X11_10 rfl dX11_of_1 ?_
  refine w_iload_n 1 4 hX rfl rfl dX11_of_4 ?_
  obtain ⟨x1, gx1, h⟩ := o_bind h
  refine w_invVi (av := [.int p1]) (st := []) 5 hX CI_9 s_1 rfl mv_yX9_hasMan mi_yX9_hasMan ml_X11_119 (CX9_hasMan_1 p1 u gx1) rfl (by decide) (Nat.le_of_ble_eq_true rfl) (Nat.le_refl _) (Nat.le_refl _) dX11_of_5 ?_
  refine w_if_ne (tgt := 14) 8 hX dX11_of_8 (by decide) (fun c2 => ?_) (fun c2 => ?_)
  · have h := ie h c2
    refine w_iload_n 2 14 hX rfl rfl dX11_of_14 ?_
    by_cases c3 : p2 = 0
    · have h := it h c3
      refine w_tabIn (tgt := 84) (off := 69) 15 hX dX11_of_15 (by rw [c3]; decide) (by rw [c3]; decide) (by rw [c3]; decide) (by decide) ?_
      refine w_aload_n 0 84 hX rfl rfl dX11_of_84 ?_
      refine w_getR 85 hX CI_11 s_0 rfl r_0_0 fl_X11_10 rfl dX11_of_85 ?_
      refine w_getR 88 hX CI_9 s_1 rfl r_1_1 fl_X11_98 rfl dX11_of_88 ?_
      refine w_iload_n 1 91 hX rfl rfl dX11_of_91 ?_
      obtain ⟨x4, gx4, h⟩ := o_bind h
      refine w_iald 92 hX s_2 gx4 dX11_of_92 ?_
      exact w_iret 93 hX hR dX11_of_93 (by cases h; rfl)
    · have h := ie h c3
      by_cases c5 : p2 = 1
      · have h := it h c5
        refine w_tabIn (tgt := 94) (off := 79) 15 hX dX11_of_15 (by rw [c5]; decide) (by rw [c5]; decide) (by rw [c5]; decide) (by decide) ?_
        refine w_aload_n 0 94 hX rfl rfl dX11_of_94 ?_
        refine w_getR 95 hX CI_11 s_0 rfl r_0_0 fl_X11_10 rfl dX11_of_95 ?_
        refine w_getR 98 hX CI_9 s_1 rfl r_1_2 fl_X11_102 rfl dX11_of_98 ?_
        refine w_iload_n 1 101 hX rfl rfl dX11_of_101 ?_
        obtain ⟨x6, gx6, h⟩ := o_bind h
        refine w_iald 102 hX s_3 gx6 dX11_of_102 ?_
        exact w_iret 103 hX hR dX11_of_103 (by cases h; rfl)
      · have h := ie h c5
        by_cases c7 : p2 = 2
        · have h := it h c7
          refine w_tabIn (tgt := 104) (off := 89) 15 hX dX11_of_15 (by rw [c7]; decide) (by rw [c7]; decide) (by rw [c7]; decide) (by decide) ?_
          refine w_aload_n 0 104 hX rfl rfl dX11_of_104 ?_
          refine w_getR 105 hX CI_11 s_0 rfl r_0_0 fl_X11_10 rfl dX11_of_105 ?_
          refine w_getR 108 hX CI_9 s_1 rfl r_1_3 fl_X11_105 rfl dX11_of_108 ?_
          refine w_iload_n 1 111 hX rfl rfl dX11_of_111 ?_
          obtain ⟨x8, gx8, h⟩ := o_bind h
          refine w_iald 112 hX s_4 gx8 dX11_of_112 ?_
          exact w_iret 113 hX hR dX11_of_113 (by cases h; rfl)
        · have h := ie h c7
          by_cases c9 : p2 = 3
          · have h := it h c9
            refine w_tabIn (tgt := 114) (off := 99) 15 hX dX11_of_15 (by rw [c9]; decide) (by rw [c9]; decide) (by rw [c9]; decide) (by decide) ?_
            refine w_aload_n 0 114 hX rfl rfl dX11_of_114 ?_
            refine w_getR 115 hX CI_11 s_0 rfl r_0_1 fl_X11_19 rfl dX11_of_115 ?_
            refine w_getR 118 hX CI_0 s_23 rfl r_23_0 fl_X11_122 rfl dX11_of_118 ?_
            refine w_iload_n 1 121 hX rfl rfl dX11_of_121 ?_
            obtain ⟨x10, gx10, h⟩ := o_bind h
            refine w_iald 122 hX s_24 gx10 dX11_of_122 ?_
            exact w_iret 123 hX hR dX11_of_123 (by cases h; rfl)
          · have h := ie h c9
            by_cases c11 : p2 = 4
            · have h := it h c11
              refine w_tabIn (tgt := 124) (off := 109) 15 hX dX11_of_15 (by rw [c11]; decide) (by rw [c11]; decide) (by rw [c11]; decide) (by decide) ?_
              refine w_aload_n 0 124 hX rfl rfl dX11_of_124 ?_
              refine w_getR 125 hX CI_11 s_0 rfl r_0_1 fl_X11_19 rfl dX11_of_125 ?_
              refine w_getR 128 hX CI_0 s_23 rfl r_23_1 fl_X11_139 rfl dX11_of_128 ?_
              refine w_iload_n 1 131 hX rfl rfl dX11_of_131 ?_
              obtain ⟨x12, gx12, h⟩ := o_bind h
              refine w_iald 132 hX s_25 gx12 dX11_of_132 ?_
              exact w_iret 133 hX hR dX11_of_133 (by cases h; rfl)
            · have h := ie h c11
              by_cases c13 : p2 = 5
              · have h := it h c13
                refine w_tabIn (tgt := 134) (off := 119) 15 hX dX11_of_15 (by rw [c13]; decide) (by rw [c13]; decide) (by rw [c13]; decide) (by decide) ?_
                refine w_aload_n 0 134 hX rfl rfl dX11_of_134 ?_
                refine w_getR 135 hX CI_11 s_0 rfl r_0_1 fl_X11_19 rfl dX11_of_135 ?_
                refine w_getR 138 hX CI_0 s_23 rfl r_23_2 fl_X11_125 rfl dX11_of_138 ?_
                refine w_iload_n 1 141 hX rfl rfl dX11_of_141 ?_
                obtain ⟨x14, gx14, h⟩ := o_bind h
                refine w_iald 142 hX s_26 gx14 dX11_of_142 ?_
                exact w_iret 143 hX hR dX11_of_143 (by cases h; rfl)
              · have h := ie h c13
                by_cases c15 : p2 = 6
                · have h := it h c15
                  refine w_tabIn (tgt := 144) (off := 129) 15 hX dX11_of_15 (by rw [c15]; decide) (by rw [c15]; decide) (by rw [c15]; decide) (by decide) ?_
                  refine w_aload_n 0 144 hX rfl rfl dX11_of_144 ?_
                  refine w_getR 145 hX CI_11 s_0 rfl r_0_1 fl_X11_19 rfl dX11_of_145 ?_
                  refine w_getR 148 hX CI_0 s_23 rfl r_23_3 fl_X11_141 rfl dX11_of_148 ?_
                  refine w_iload_n 1 151 hX rfl rfl dX11_of_151 ?_
                  obtain ⟨x16, gx16, h⟩ := o_bind h
                  refine w_iald 152 hX s_27 gx16 dX11_of_152 ?_
                  exact w_iret 153 hX hR dX11_of_153 (by cases h; rfl)
                · have h := ie h c15
                  by_cases c17 : p2 = 7
                  · have h := it h c17
                    refine w_tabIn (tgt := 154) (off := 139) 15 hX dX11_of_15 (by rw [c17]; decide) (by rw [c17]; decide) (by rw [c17]; decide) (by decide) ?_
                    refine w_aload_n 0 154 hX rfl rfl dX11_of_154 ?_
                    refine w_getR 155 hX CI_11 s_0 rfl r_0_1 fl_X11_19 rfl dX11_of_155 ?_
                    refine w_getR 158 hX CI_0 s_23 rfl r_23_3 fl_X11_141 rfl dX11_of_158 ?_
                    refine w_iload_n 1 161 hX rfl rfl dX11_of_161 ?_
                    obtain ⟨x18, gx18, h⟩ := o_bind h
                    refine w_iald 162 hX s_27 gx18 dX11_of_162 ?_
                    refine w_iconst 1 163 hX ic_1 dX11_of_163 ?_
                    refine w_icmp_ne (tgt := 179) 164 hX dX11_of_164 (by decide) (fun c19 => ?_) (fun c19 => ?_)
                    · have h := ie h c19
                      refine w_iconst (-1) 179 hX ic_m1 dX11_of_179 ?_
                      exact w_iret 180 hX hR dX11_of_180 (by cases h; rfl)
                    · have h := it h c19
                      refine w_aload_n 0 167 hX rfl rfl dX11_of_167 ?_
                      refine w_getR 168 hX CI_11 s_0 rfl r_0_1 fl_X11_19 rfl dX11_of_168 ?_
                      refine w_getR 171 hX CI_0 s_23 rfl r_23_4 fl_X11_144 rfl dX11_of_171 ?_
                      refine w_iload_n 1 174 hX rfl rfl dX11_of_174 ?_
                      obtain ⟨x20, gx20, h⟩ := o_bind h
                      refine w_iald 175 hX s_28 gx20 dX11_of_175 ?_
                      refine w_goto (tgt := 180) 176 hX (by decide) dX11_of_176 ?_
                      exact w_iret 180 hX hR dX11_of_180 (by cases h; rfl)
                  · have h := ie h c17
                    by_cases c21 : p2 = 8
                    · have h := it h c21
                      refine w_tabIn (tgt := 181) (off := 166) 15 hX dX11_of_15 (by rw [c21]; decide) (by rw [c21]; decide) (by rw [c21]; decide) (by decide) ?_
                      refine w_aload_n 0 181 hX rfl rfl dX11_of_181 ?_
                      refine w_getR 182 hX CI_11 s_0 rfl r_0_0 fl_X11_10 rfl dX11_of_182 ?_
                      refine w_getR 185 hX CI_9 s_1 rfl r_1_4 fl_X11_108 rfl dX11_of_185 ?_
                      refine w_iload_n 1 188 hX rfl rfl dX11_of_188 ?_
                      obtain ⟨x22, gx22, h⟩ := o_bind h
                      refine w_iald 189 hX s_5 gx22 dX11_of_189 ?_
                      exact w_iret 190 hX hR dX11_of_190 (by cases h; rfl)
                    · have h := ie h c21
                      by_cases c23 : p2 = 9
                      · have h := it h c23
                        refine w_tabIn (tgt := 231) (off := 216) 15 hX dX11_of_15 (by rw [c23]; decide) (by rw [c23]; decide) (by rw [c23]; decide) (by decide) ?_
                        refine w_bipush (-2) 231 hX ib_m2 dX11_of_231 ?_
                        exact w_iret 233 hX hR dX11_of_233 (by cases h; rfl)
                      · have h := ie h c23
                        by_cases c24 : p2 = 10
                        · have h := it h c24
                          refine w_tabIn (tgt := 191) (off := 176) 15 hX dX11_of_15 (by rw [c24]; decide) (by rw [c24]; decide) (by rw [c24]; decide) (by decide) ?_
                          refine w_aload_n 0 191 hX rfl rfl dX11_of_191 ?_
                          refine w_getR 192 hX CI_11 s_0 rfl r_0_3 fl_X11_35 rfl dX11_of_192 ?_
                          refine w_iload_n 1 195 hX rfl rfl dX11_of_195 ?_
                          refine w_iconst 0 196 hX ic_0 dX11_of_196 ?_
                          obtain ⟨x25, u26, gx25, h⟩ := o_bnd2 h
                          refine w_invVi (av := [.int p1, .int 0]) (st := []) 197 hX CI_3 s_32 rfl mv_yX3_asked mi_yX3_asked ml_X11_182 (CX3_asked_32 p1 0 u gx25) rfl (by decide) (Nat.le_of_ble_eq_true rfl) (Nat.le_refl _) (Nat.le_refl _) dX11_of_197 ?_
                          exact w_iret 200 hX hR dX11_of_200 (by cases h; rfl)
                        · have h := ie h c24
                          by_cases c27 : p2 = 11
                          · have h := it h c27
                            refine w_tabIn (tgt := 201) (off := 186) 15 hX dX11_of_15 (by rw [c27]; decide) (by rw [c27]; decide) (by rw [c27]; decide) (by decide) ?_
                            refine w_aload_n 0 201 hX rfl rfl dX11_of_201 ?_
                            refine w_getR 202 hX CI_11 s_0 rfl r_0_3 fl_X11_35 rfl dX11_of_202 ?_
                            refine w_iload_n 1 205 hX rfl rfl dX11_of_205 ?_
                            refine w_iconst 1 206 hX ic_1 dX11_of_206 ?_
                            obtain ⟨x28, u29, gx28, h⟩ := o_bnd2 h
                            refine w_invVi (av := [.int p1, .int 1]) (st := []) 207 hX CI_3 s_32 rfl mv_yX3_asked mi_yX3_asked ml_X11_182 (CX3_asked_32 p1 1 u gx28) rfl (by decide) (Nat.le_of_ble_eq_true rfl) (Nat.le_refl _) (Nat.le_refl _) dX11_of_207 ?_
                            exact w_iret 210 hX hR dX11_of_210 (by cases h; rfl)
                          · have h := ie h c27
                            by_cases c30 : p2 = 12
                            · have h := it h c30
                              refine w_tabIn (tgt := 211) (off := 196) 15 hX dX11_of_15 (by rw [c30]; decide) (by rw [c30]; decide) (by rw [c30]; decide) (by decide) ?_
                              refine w_aload_n 0 211 hX rfl rfl dX11_of_211 ?_
                              refine w_getR 212 hX CI_11 s_0 rfl r_0_3 fl_X11_35 rfl dX11_of_212 ?_
                              refine w_iload_n 1 215 hX rfl rfl dX11_of_215 ?_
                              refine w_iconst 2 216 hX ic_2 dX11_of_216 ?_
                              obtain ⟨x31, u32, gx31, h⟩ := o_bnd2 h
                              refine w_invVi (av := [.int p1, .int 2]) (st := []) 217 hX CI_3 s_32 rfl mv_yX3_asked mi_yX3_asked ml_X11_182 (CX3_asked_32 p1 2 u gx31) rfl (by decide) (Nat.le_of_ble_eq_true rfl) (Nat.le_refl _) (Nat.le_refl _) dX11_of_217 ?_
                              exact w_iret 220 hX hR dX11_of_220 (by cases h; rfl)
                            · have h := ie h c30
                              by_cases c33 : p2 = 13
                              · have h := it h c33
                                refine w_tabIn (tgt := 221) (off := 206) 15 hX dX11_of_15 (by rw [c33]; decide) (by rw [c33]; decide) (by rw [c33]; decide) (by decide) ?_
                                refine w_aload_n 0 221 hX rfl rfl dX11_of_221 ?_
                                refine w_getR 222 hX CI_11 s_0 rfl r_0_3 fl_X11_35 rfl dX11_of_222 ?_
                                refine w_iload_n 1 225 hX rfl rfl dX11_of_225 ?_
                                refine w_iconst 3 226 hX ic_3 dX11_of_226 ?_
                                obtain ⟨x34, u35, gx34, h⟩ := o_bnd2 h
                                refine w_invVi (av := [.int p1, .int 3]) (st := []) 227 hX CI_3 s_32 rfl mv_yX3_asked mi_yX3_asked ml_X11_182 (CX3_asked_32 p1 3 u gx34) rfl (by decide) (Nat.le_of_ble_eq_true rfl) (Nat.le_refl _) (Nat.le_refl _) dX11_of_227 ?_
                                exact w_iret 230 hX hR dX11_of_230 (by cases h; rfl)
                              · have h := ie h c33
                                have zc3 := lv_neT c3 (a := 0) (by decide)
                                have zc5 := lv_neT c5 (a := 1) (by decide)
                                have zc7 := lv_neT c7 (a := 2) (by decide)
                                have zc9 := lv_neT c9 (a := 3) (by decide)
                                have zc11 := lv_neT c11 (a := 4) (by decide)
                                have zc13 := lv_neT c13 (a := 5) (by decide)
                                have zc15 := lv_neT c15 (a := 6) (by decide)
                                have zc17 := lv_neT c17 (a := 7) (by decide)
                                have zc21 := lv_neT c21 (a := 8) (by decide)
                                have zc23 := lv_neT c23 (a := 9) (by decide)
                                have zc24 := lv_neT c24 (a := 10) (by decide)
                                have zc27 := lv_neT c27 (a := 11) (by decide)
                                have zc30 := lv_neT c30 (a := 12) (by decide)
                                have zc33 := lv_neT c33 (a := 13) (by decide)
                                refine w_tabOut (tgt := 231) 15 hX dX11_of_15 (by omega) (by decide) ?_
                                refine w_bipush (-2) 231 hX ib_m2 dX11_of_231 ?_
                                exact w_iret 233 hX hR dX11_of_233 (by cases h; rfl)
  · have h := it h c2
    refine w_bipush (-2) 11 hX ib_m2 dX11_of_11 ?_
    exact w_iret 13 hX hR dX11_of_13 (by cases h; rfl))
def FX12_of_146 (p1 p2 : Int32) (u : Mem) : Option (Int32 × Mem) :=
  (FX12_isMan_146 p1 u).bind fun x1 => (if x1 = 0 then (some ((-2), u)) else ((some (mupd u 146 27 0)).bind fun u3 => (if p2 = 0 then ((rdA u3 147 1786 (90 + p1)).bind fun x5 => some (x5, u3)) else ((if p2 = 1 then ((rdA u3 147 1786 (102 + p1)).bind fun x7 => some (x7, u3)) else ((if p2 = 2 then ((rdA u3 147 1786 (114 + p1)).bind fun x9 => some (x9, u3)) else ((if p2 = 3 then ((rdA u3 147 1786 (4 + p1)).bind fun x11 => some (x11, u3)) else ((if p2 = 4 then ((rdA u3 147 1786 (16 + p1)).bind fun x13 => some (x13, u3)) else ((if p2 = 5 then ((rdA u3 147 1786 (28 + p1)).bind fun x15 => some (x15, u3)) else ((if p2 = 6 then ((rdA u3 147 1786 (40 + p1)).bind fun x17 => some (x17, u3)) else ((if p2 = 7 then ((rdA u3 147 1786 (40 + p1)).bind fun x19 => (if x19 = 1 then ((rdA u3 147 1786 (52 + p1)).bind fun x21 => some (x21, u3)) else (some ((-1), u3)))) else ((if p2 = 8 then ((FX12_toldBy_146 p1 u3).bind fun x23 => some (x23, u3)) else ((if p2 = 9 then (some ((-2), u3)) else ((if p2 = 10 then (bnd2 (FX12_callOf_146 p1 u3) fun x26 u27 => some (x26, u27)) else ((if p2 = 11 then (bnd2 (FX12_stepOf_146 p1 u3) fun x29 u30 => some (x29, u30)) else ((if p2 = 12 then (bnd2 (FX12_napOf_146 p1 u3) fun x32 u33 => some (x32, u33)) else ((if p2 = 13 then (bnd2 (FX12_fadeOf_146 p1 u3) fun x35 u36 => some (x35, u36)) else (some ((-2), u3)))))))))))))))))))))))))))))))
theorem CX12_of_146 {G : Gt} (p1 p2 : Int32) (u : Mem) {v : Int32} {u' : Mem} (h : FX12_of_146 p1 p2 u = some (v, u')) : CT G yX12_of cX12_of 3 (some .int) 6 [.ref 146, .int p1, .int p2] SH RHO u (some (.int v), SH, RHO, u') :=
  ct_of (by decide) rfl (Nat.le_of_ble_eq_true rfl) (Nat.le_refl _) (Nat.le_refl _) (fun X hX hR => by
  unfold FX12_of_146 at h
  refine w_aload_n 0 0 hX rfl rfl dX12_of_0 ?_
  refine w_iload_n 1 1 hX rfl rfl dX12_of_1 ?_
  obtain ⟨x1, gx1, h⟩ := o_bind h
  refine w_invVi (av := [.int p1]) (st := []) 2 hX CI_12 s_146 rfl mv_yX12_isMan mi_yX12_isMan ml_X12_70 (CX12_isMan_146 p1 u gx1) rfl (by decide) (Nat.le_of_ble_eq_true rfl) (Nat.le_refl _) (Nat.le_refl _) dX12_of_2 ?_
  refine w_if_ne (tgt := 11) 5 hX dX12_of_5 (by decide) (fun c2 => ?_) (fun c2 => ?_)
  · have h := ie h c2
    refine w_aload_n 0 11 hX rfl rfl dX12_of_11 ?_
    refine w_iconst 0 12 hX ic_0 dX12_of_12 ?_
    obtain ⟨u3, gu3, h⟩ := o_bind h
    refine w_putI (j := 27) 13 hX CI_12 s_146 rfl fl_X12_303 rfl rfl rfl rfl dX12_of_13 ?_
    rw [Option.some.inj gu3]
    refine w_iload_n 2 16 hX rfl rfl dX12_of_16 ?_
    by_cases c4 : p2 = 0
    · have h := it h c4
      refine w_tabIn (tgt := 88) (off := 71) 17 hX dX12_of_17 (by rw [c4]; decide) (by rw [c4]; decide) (by rw [c4]; decide) (by decide) ?_
      refine w_aload_n 0 88 hX rfl rfl dX12_of_88 ?_
      refine w_getR 89 hX CI_12 s_146 rfl r_146_0 fl_X12_7 rfl dX12_of_89 ?_
      refine w_bipush 90 92 hX ib_90 dX12_of_92 ?_
      refine w_iload_n 1 94 hX rfl rfl dX12_of_94 ?_
      refine w_iadd 95 hX dX12_of_95 ?_
      obtain ⟨x5, gx5, h⟩ := o_bind h
      refine w_iald 96 hX s_147 gx5 dX12_of_96 ?_
      exact w_iret 97 hX hR dX12_of_97 (by cases h; rfl)
    · have h := ie h c4
      by_cases c6 : p2 = 1
      · have h := it h c6
        refine w_tabIn (tgt := 98) (off := 81) 17 hX dX12_of_17 (by rw [c6]; decide) (by rw [c6]; decide) (by rw [c6]; decide) (by decide) ?_
        refine w_aload_n 0 98 hX rfl rfl dX12_of_98 ?_
        refine w_getR 99 hX CI_12 s_146 rfl r_146_0 fl_X12_7 rfl dX12_of_99 ?_
        refine w_bipush 102 102 hX ib_102 dX12_of_102 ?_
        refine w_iload_n 1 104 hX rfl rfl dX12_of_104 ?_
        refine w_iadd 105 hX dX12_of_105 ?_
        obtain ⟨x7, gx7, h⟩ := o_bind h
        refine w_iald 106 hX s_147 gx7 dX12_of_106 ?_
        exact w_iret 107 hX hR dX12_of_107 (by cases h; rfl)
      · have h := ie h c6
        by_cases c8 : p2 = 2
        · have h := it h c8
          refine w_tabIn (tgt := 108) (off := 91) 17 hX dX12_of_17 (by rw [c8]; decide) (by rw [c8]; decide) (by rw [c8]; decide) (by decide) ?_
          refine w_aload_n 0 108 hX rfl rfl dX12_of_108 ?_
          refine w_getR 109 hX CI_12 s_146 rfl r_146_0 fl_X12_7 rfl dX12_of_109 ?_
          refine w_bipush 114 112 hX ib_114 dX12_of_112 ?_
          refine w_iload_n 1 114 hX rfl rfl dX12_of_114 ?_
          refine w_iadd 115 hX dX12_of_115 ?_
          obtain ⟨x9, gx9, h⟩ := o_bind h
          refine w_iald 116 hX s_147 gx9 dX12_of_116 ?_
          exact w_iret 117 hX hR dX12_of_117 (by cases h; rfl)
        · have h := ie h c8
          by_cases c10 : p2 = 3
          · have h := it h c10
            refine w_tabIn (tgt := 118) (off := 101) 17 hX dX12_of_17 (by rw [c10]; decide) (by rw [c10]; decide) (by rw [c10]; decide) (by decide) ?_
            refine w_aload_n 0 118 hX rfl rfl dX12_of_118 ?_
            refine w_getR 119 hX CI_12 s_146 rfl r_146_0 fl_X12_7 rfl dX12_of_119 ?_
            refine w_iconst 4 122 hX ic_4 dX12_of_122 ?_
            refine w_iload_n 1 123 hX rfl rfl dX12_of_123 ?_
            refine w_iadd 124 hX dX12_of_124 ?_
            obtain ⟨x11, gx11, h⟩ := o_bind h
            refine w_iald 125 hX s_147 gx11 dX12_of_125 ?_
            exact w_iret 126 hX hR dX12_of_126 (by cases h; rfl)
          · have h := ie h c10
            by_cases c12 : p2 = 4
            · have h := it h c12
              refine w_tabIn (tgt := 127) (off := 110) 17 hX dX12_of_17 (by rw [c12]; decide) (by rw [c12]; decide) (by rw [c12]; decide) (by decide) ?_
              refine w_aload_n 0 127 hX rfl rfl dX12_of_127 ?_
              refine w_getR 128 hX CI_12 s_146 rfl r_146_0 fl_X12_7 rfl dX12_of_128 ?_
              refine w_bipush 16 131 hX ib_16 dX12_of_131 ?_
              refine w_iload_n 1 133 hX rfl rfl dX12_of_133 ?_
              refine w_iadd 134 hX dX12_of_134 ?_
              obtain ⟨x13, gx13, h⟩ := o_bind h
              refine w_iald 135 hX s_147 gx13 dX12_of_135 ?_
              exact w_iret 136 hX hR dX12_of_136 (by cases h; rfl)
            · have h := ie h c12
              by_cases c14 : p2 = 5
              · have h := it h c14
                refine w_tabIn (tgt := 137) (off := 120) 17 hX dX12_of_17 (by rw [c14]; decide) (by rw [c14]; decide) (by rw [c14]; decide) (by decide) ?_
                refine w_aload_n 0 137 hX rfl rfl dX12_of_137 ?_
                refine w_getR 138 hX CI_12 s_146 rfl r_146_0 fl_X12_7 rfl dX12_of_138 ?_
                refine w_bipush 28 141 hX ib_28 dX12_of_141 ?_
                refine w_iload_n 1 143 hX rfl rfl dX12_of_143 ?_
                refine w_iadd 144 hX dX12_of_144 ?_
                obtain ⟨x15, gx15, h⟩ := o_bind h
                refine w_iald 145 hX s_147 gx15 dX12_of_145 ?_
                exact w_iret 146 hX hR dX12_of_146 (by cases h; rfl)
              · have h := ie h c14
                by_cases c16 : p2 = 6
                · have h := it h c16
                  refine w_tabIn (tgt := 147) (off := 130) 17 hX dX12_of_17 (by rw [c16]; decide) (by rw [c16]; decide) (by rw [c16]; decide) (by decide) ?_
                  refine w_aload_n 0 147 hX rfl rfl dX12_of_147 ?_
                  refine w_getR 148 hX CI_12 s_146 rfl r_146_0 fl_X12_7 rfl dX12_of_148 ?_
                  refine w_bipush 40 151 hX ib_40 dX12_of_151 ?_
                  refine w_iload_n 1 153 hX rfl rfl dX12_of_153 ?_
                  refine w_iadd 154 hX dX12_of_154 ?_
                  obtain ⟨x17, gx17, h⟩ := o_bind h
                  refine w_iald 155 hX s_147 gx17 dX12_of_155 ?_
                  exact w_iret 156 hX hR dX12_of_156 (by cases h; rfl)
                · have h := ie h c16
                  by_cases c18 : p2 = 7
                  · have h := it h c18
                    refine w_tabIn (tgt := 157) (off := 140) 17 hX dX12_of_17 (by rw [c18]; decide) (by rw [c18]; decide) (by rw [c18]; decide) (by decide) ?_
                    refine w_aload_n 0 157 hX rfl rfl dX12_of_157 ?_
                    refine w_getR 158 hX CI_12 s_146 rfl r_146_0 fl_X12_7 rfl dX12_of_158 ?_
                    refine w_bipush 40 161 hX ib_40 dX12_of_161 ?_
                    refine w_iload_n 1 163 hX rfl rfl dX12_of_163 ?_
                    refine w_iadd 164 hX dX12_of_164 ?_
                    obtain ⟨x19, gx19, h⟩ := o_bind h
                    refine w_iald 165 hX s_147 gx19 dX12_of_165 ?_
                    refine w_iconst 1 166 hX ic_1 dX12_of_166 ?_
                    refine w_icmp_ne (tgt := 182) 167 hX dX12_of_167 (by decide) (fun c20 => ?_) (fun c20 => ?_)
                    · have h := ie h c20
                      refine w_iconst (-1) 182 hX ic_m1 dX12_of_182 ?_
                      exact w_iret 183 hX hR dX12_of_183 (by cases h; rfl)
                    · have h := it h c20
                      refine w_aload_n 0 170 hX rfl rfl dX12_of_170 ?_
                      refine w_getR 171 hX CI_12 s_146 rfl r_146_0 fl_X12_7 rfl dX12_of_171 ?_
                      refine w_bipush 52 174 hX ib_52 dX12_of_174 ?_
                      refine w_iload_n 1 176 hX rfl rfl dX12_of_176 ?_
                      refine w_iadd 177 hX dX12_of_177 ?_
                      obtain ⟨x21, gx21, h⟩ := o_bind h
                      refine w_iald 178 hX s_147 gx21 dX12_of_178 ?_
                      refine w_goto (tgt := 183) 179 hX (by decide) dX12_of_179 ?_
                      exact w_iret 183 hX hR dX12_of_183 (by cases h; rfl)
                  · have h := ie h c18
                    by_cases c22 : p2 = 8
                    · have h := it h c22
                      refine w_tabIn (tgt := 184) (off := 167) 17 hX dX12_of_17 (by rw [c22]; decide) (by rw [c22]; decide) (by rw [c22]; decide) (by decide) ?_
                      refine w_aload_n 0 184 hX rfl rfl dX12_of_184 ?_
                      refine w_iload_n 1 185 hX rfl rfl dX12_of_185 ?_
                      obtain ⟨x23, gx23, h⟩ := o_bind h
                      refine w_invVi (av := [.int p1]) (st := []) 186 hX CI_12 s_146 rfl mv_yX12_toldBy mi_yX12_toldBy ml_X12_370 (CX12_toldBy_146 p1 u3 gx23) rfl (by decide) (Nat.le_of_ble_eq_true rfl) (Nat.le_refl _) (Nat.le_refl _) dX12_of_186 ?_
                      exact w_iret 189 hX hR dX12_of_189 (by cases h; rfl)
                    · have h := ie h c22
                      by_cases c24 : p2 = 9
                      · have h := it h c24
                        refine w_tabIn (tgt := 214) (off := 197) 17 hX dX12_of_17 (by rw [c24]; decide) (by rw [c24]; decide) (by rw [c24]; decide) (by decide) ?_
                        refine w_bipush (-2) 214 hX ib_m2 dX12_of_214 ?_
                        exact w_iret 216 hX hR dX12_of_216 (by cases h; rfl)
                      · have h := ie h c24
                        by_cases c25 : p2 = 10
                        · have h := it h c25
                          refine w_tabIn (tgt := 190) (off := 173) 17 hX dX12_of_17 (by rw [c25]; decide) (by rw [c25]; decide) (by rw [c25]; decide) (by decide) ?_
                          refine w_aload_n 0 190 hX rfl rfl dX12_of_190 ?_
                          refine w_iload_n 1 191 hX rfl rfl dX12_of_191 ?_
                          obtain ⟨x26, u27, gx26, h⟩ := o_bnd2 h
                          refine w_invVi (av := [.int p1]) (st := []) 192 hX CI_12 s_146 rfl mv_yX12_callOf mi_yX12_callOf ml_X12_326 (CX12_callOf_146 p1 u3 gx26) rfl (by decide) (Nat.le_of_ble_eq_true rfl) (Nat.le_refl _) (Nat.le_refl _) dX12_of_192 ?_
                          exact w_iret 195 hX hR dX12_of_195 (by cases h; rfl)
                        · have h := ie h c25
                          by_cases c28 : p2 = 11
                          · have h := it h c28
                            refine w_tabIn (tgt := 196) (off := 179) 17 hX dX12_of_17 (by rw [c28]; decide) (by rw [c28]; decide) (by rw [c28]; decide) (by decide) ?_
                            refine w_aload_n 0 196 hX rfl rfl dX12_of_196 ?_
                            refine w_iload_n 1 197 hX rfl rfl dX12_of_197 ?_
                            obtain ⟨x29, u30, gx29, h⟩ := o_bnd2 h
                            refine w_invVi (av := [.int p1]) (st := []) 198 hX CI_12 s_146 rfl mv_yX12_stepOf mi_yX12_stepOf ml_X12_340 (CX12_stepOf_146 p1 u3 gx29) rfl (by decide) (Nat.le_of_ble_eq_true rfl) (Nat.le_refl _) (Nat.le_refl _) dX12_of_198 ?_
                            exact w_iret 201 hX hR dX12_of_201 (by cases h; rfl)
                          · have h := ie h c28
                            by_cases c31 : p2 = 12
                            · have h := it h c31
                              refine w_tabIn (tgt := 202) (off := 185) 17 hX dX12_of_17 (by rw [c31]; decide) (by rw [c31]; decide) (by rw [c31]; decide) (by decide) ?_
                              refine w_aload_n 0 202 hX rfl rfl dX12_of_202 ?_
                              refine w_iload_n 1 203 hX rfl rfl dX12_of_203 ?_
                              obtain ⟨x32, u33, gx32, h⟩ := o_bnd2 h
                              refine w_invVi (av := [.int p1]) (st := []) 204 hX CI_12 s_146 rfl mv_yX12_napOf mi_yX12_napOf ml_X12_352 (CX12_napOf_146 p1 u3 gx32) rfl (by decide) (Nat.le_of_ble_eq_true rfl) (Nat.le_refl _) (Nat.le_refl _) dX12_of_204 ?_
                              exact w_iret 207 hX hR dX12_of_207 (by cases h; rfl)
                            · have h := ie h c31
                              by_cases c34 : p2 = 13
                              · have h := it h c34
                                refine w_tabIn (tgt := 208) (off := 191) 17 hX dX12_of_17 (by rw [c34]; decide) (by rw [c34]; decide) (by rw [c34]; decide) (by decide) ?_
                                refine w_aload_n 0 208 hX rfl rfl dX12_of_208 ?_
                                refine w_iload_n 1 209 hX rfl rfl dX12_of_209 ?_
                                obtain ⟨x35, u36, gx35, h⟩ := o_bnd2 h
                                refine w_invVi (av := [.int p1]) (st := []) 210 hX CI_12 s_146 rfl mv_yX12_fadeOf mi_yX12_fadeOf ml_X12_376 (CX12_fadeOf_146 p1 u3 gx35) rfl (by decide) (Nat.le_of_ble_eq_true rfl) (Nat.le_refl _) (Nat.le_refl _) dX12_of_210 ?_
                                exact w_iret 213 hX hR dX12_of_213 (by cases h; rfl)
                              · have h := ie h c34
                                have zc4 := lv_neT c4 (a := 0) (by decide)
                                have zc6 := lv_neT c6 (a := 1) (by decide)
                                have zc8 := lv_neT c8 (a := 2) (by decide)
                                have zc10 := lv_neT c10 (a := 3) (by decide)
                                have zc12 := lv_neT c12 (a := 4) (by decide)
                                have zc14 := lv_neT c14 (a := 5) (by decide)
                                have zc16 := lv_neT c16 (a := 6) (by decide)
                                have zc18 := lv_neT c18 (a := 7) (by decide)
                                have zc22 := lv_neT c22 (a := 8) (by decide)
                                have zc24 := lv_neT c24 (a := 9) (by decide)
                                have zc25 := lv_neT c25 (a := 10) (by decide)
                                have zc28 := lv_neT c28 (a := 11) (by decide)
                                have zc31 := lv_neT c31 (a := 12) (by decide)
                                have zc34 := lv_neT c34 (a := 13) (by decide)
                                refine w_tabOut (tgt := 214) 17 hX dX12_of_17 (by omega) (by decide) ?_
                                refine w_bipush (-2) 214 hX ib_m2 dX12_of_214 ?_
                                exact w_iret 216 hX hR dX12_of_216 (by cases h; rfl)
  · have h := it h c2
    refine w_bipush (-2) 8 hX ib_m2 dX12_of_8 ?_
    exact w_iret 10 hX hR dX12_of_10 (by cases h; rfl))
def FX11_weight_0 (p1 : Int32) (u : Mem) : Option Int32 :=
  (FX11_isFact p1).bind fun x1 => (if x1 = 0 then (some (-1)) else ((rdA u 7 8 p1).bind fun x3 => some x3))
theorem CX11_weight_0 {G : Gt} (p1 : Int32) (u : Mem) {v : Int32} (h : FX11_weight_0 p1 u = some v) : CT G yX11_weight cX11_weight 2 (some .int) 2 [.ref 0, .int p1] SH RHO u (some (.int v), SH, RHO, u) :=
  ct_of (by decide) rfl (Nat.le_of_ble_eq_true rfl) (Nat.le_refl _) (Nat.le_refl _) (fun X hX hR => by
  unfold FX11_weight_0 at h
  refine w_iload_n 1 0 hX rfl rfl dX11_weight_0 ?_
  obtain ⟨x1, gx1, h⟩ := o_bind h
  refine w_invSi (av := [.int p1]) (st := []) 1 hX ms_yX11_isFact mi_yX11_isFact ml_X11_128 (CX11_isFact p1 u gx1) rfl (by decide) (Nat.le_of_ble_eq_true rfl) (Nat.le_refl _) (Nat.le_refl _) dX11_weight_1 ?_
  refine w_if_eq (tgt := 19) 4 hX dX11_weight_4 (by decide) (fun c2 => ?_) (fun c2 => ?_)
  · have h := it h c2
    refine w_iconst (-1) 19 hX ic_m1 dX11_weight_19 ?_
    exact w_iret 20 hX hR dX11_weight_20 (by cases h; rfl)
  · have h := ie h c2
    refine w_aload_n 0 7 hX rfl rfl dX11_weight_7 ?_
    refine w_getR 8 hX CI_11 s_0 rfl r_0_0 fl_X11_10 rfl dX11_weight_8 ?_
    refine w_getR 11 hX CI_9 s_1 rfl r_1_6 fl_X11_185 rfl dX11_weight_11 ?_
    refine w_iload_n 1 14 hX rfl rfl dX11_weight_14 ?_
    obtain ⟨x3, gx3, h⟩ := o_bind h
    refine w_iald 15 hX s_7 gx3 dX11_weight_15 ?_
    refine w_goto (tgt := 20) 16 hX (by decide) dX11_weight_16 ?_
    exact w_iret 20 hX hR dX11_weight_20 (by cases h; rfl))
def FX12_weight_146 (p1 : Int32) (u : Mem) : Option Int32 :=
  (FX12_isIn p1 0 7).bind fun x1 => (if x1 = 0 then (some (-1)) else ((FX12_weightOf_146 p1 u).bind fun x3 => some x3))
theorem CX12_weight_146 {G : Gt} (p1 : Int32) (u : Mem) {v : Int32} (h : FX12_weight_146 p1 u = some v) : CT G yX12_weight cX12_weight 2 (some .int) 2 [.ref 146, .int p1] SH RHO u (some (.int v), SH, RHO, u) :=
  ct_of (by decide) rfl (Nat.le_of_ble_eq_true rfl) (Nat.le_refl _) (Nat.le_refl _) (fun X hX hR => by
  unfold FX12_weight_146 at h
  refine w_iload_n 1 0 hX rfl rfl dX12_weight_0 ?_
  refine w_iconst 0 1 hX ic_0 dX12_weight_1 ?_
  refine w_bipush 7 2 hX ib_7 dX12_weight_2 ?_
  obtain ⟨x1, gx1, h⟩ := o_bind h
  refine w_invSi (av := [.int p1, .int 0, .int 7]) (st := []) 4 hX ms_yX12_isIn mi_yX12_isIn ml_X12_54 (CX12_isIn p1 0 7 u gx1) rfl (by decide) (Nat.le_of_ble_eq_true rfl) (Nat.le_refl _) (Nat.le_refl _) dX12_weight_4 ?_
  refine w_if_eq (tgt := 18) 7 hX dX12_weight_7 (by decide) (fun c2 => ?_) (fun c2 => ?_)
  · have h := it h c2
    refine w_iconst (-1) 18 hX ic_m1 dX12_weight_18 ?_
    exact w_iret 19 hX hR dX12_weight_19 (by cases h; rfl)
  · have h := ie h c2
    refine w_aload_n 0 10 hX rfl rfl dX12_weight_10 ?_
    refine w_iload_n 1 11 hX rfl rfl dX12_weight_11 ?_
    obtain ⟨x3, gx3, h⟩ := o_bind h
    refine w_invVi (av := [.int p1]) (st := []) 12 hX CI_12 s_146 rfl mv_yX12_weightOf mi_yX12_weightOf ml_X12_310 (CX12_weightOf_146 p1 u gx3) rfl (by decide) (Nat.le_of_ble_eq_true rfl) (Nat.le_refl _) (Nat.le_refl _) dX12_weight_12 ?_
    refine w_goto (tgt := 19) 15 hX (by decide) dX12_weight_15 ?_
    exact w_iret 19 hX hR dX12_weight_19 (by cases h; rfl))
def FX11_country_0 (p1 p2 : Int32) (u : Mem) : Option Int32 :=
  (FX11_isCountry p1).bind fun x1 => (if x1 = 0 then (some (-1)) else ((if p2 = 0 then ((FX3_howManyInField_32 p1 u).bind fun x4 => some x4) else ((if p2 = 1 then ((FX3_known_32 p1 u).bind fun x6 => some x6) else ((if p2 = 2 then ((FX3_known_32 p1 u).bind fun x8 => (FX9_weightOf_1 x8 u).bind fun x9 => some x9) else ((if p2 = 3 then ((rdA u 6 2 p1).bind fun x11 => some x11) else ((if p2 = 4 then ((FX5_rests_15 (u 23 7) p1 u).bind fun x13 => (if x13 = 0 then (some 0) else (some 1))) else (some (-1)))))))))))))
theorem CX11_country_0 {G : Gt} (p1 p2 : Int32) (u : Mem) {v : Int32} (h : FX11_country_0 p1 p2 u = some v) : CT G yX11_country cX11_country 3 (some .int) 3 [.ref 0, .int p1, .int p2] SH RHO u (some (.int v), SH, RHO, u) :=
  ct_of (by decide) rfl (Nat.le_of_ble_eq_true rfl) (Nat.le_refl _) (Nat.le_refl _) (fun X hX hR => by
  unfold FX11_country_0 at h
  refine w_iload_n 1 0 hX rfl rfl dX11_country_0 ?_
  obtain ⟨x1, gx1, h⟩ := o_bind h
  refine w_invSi (av := [.int p1]) (st := []) 1 hX ms_yX11_isCountry mi_yX11_isCountry ml_X11_91 (CX11_isCountry p1 u gx1) rfl (by decide) (Nat.le_of_ble_eq_true rfl) (Nat.le_refl _) (Nat.le_refl _) dX11_country_1 ?_
  refine w_if_ne (tgt := 9) 4 hX dX11_country_4 (by decide) (fun c2 => ?_) (fun c2 => ?_)
  · have h := ie h c2
    refine w_iload_n 2 9 hX rfl rfl dX11_country_9 ?_
    by_cases c3 : p2 = 0
    · have h := it h c3
      refine w_tabIn (tgt := 44) (off := 34) 10 hX dX11_country_10 (by rw [c3]; decide) (by rw [c3]; decide) (by rw [c3]; decide) (by decide) ?_
      refine w_aload_n 0 44 hX rfl rfl dX11_country_44 ?_
      refine w_getR 45 hX CI_11 s_0 rfl r_0_3 fl_X11_35 rfl dX11_country_45 ?_
      refine w_iload_n 1 48 hX rfl rfl dX11_country_48 ?_
      obtain ⟨x4, gx4, h⟩ := o_bind h
      refine w_invVi (av := [.int p1]) (st := []) 49 hX CI_3 s_32 rfl mv_yX3_howManyInField mi_yX3_howManyInField ml_X11_188 (CX3_howManyInField_32 p1 u gx4) rfl (by decide) (Nat.le_of_ble_eq_true rfl) (Nat.le_refl _) (Nat.le_refl _) dX11_country_49 ?_
      exact w_iret 52 hX hR dX11_country_52 (by cases h; rfl)
    · have h := ie h c3
      by_cases c5 : p2 = 1
      · have h := it h c5
        refine w_tabIn (tgt := 53) (off := 43) 10 hX dX11_country_10 (by rw [c5]; decide) (by rw [c5]; decide) (by rw [c5]; decide) (by decide) ?_
        refine w_aload_n 0 53 hX rfl rfl dX11_country_53 ?_
        refine w_getR 54 hX CI_11 s_0 rfl r_0_3 fl_X11_35 rfl dX11_country_54 ?_
        refine w_iload_n 1 57 hX rfl rfl dX11_country_57 ?_
        obtain ⟨x6, gx6, h⟩ := o_bind h
        refine w_invVi (av := [.int p1]) (st := []) 58 hX CI_3 s_32 rfl mv_yX3_known mi_yX3_known ml_X11_192 (CX3_known_32 p1 u gx6) rfl (by decide) (Nat.le_of_ble_eq_true rfl) (Nat.le_refl _) (Nat.le_refl _) dX11_country_58 ?_
        exact w_iret 61 hX hR dX11_country_61 (by cases h; rfl)
      · have h := ie h c5
        by_cases c7 : p2 = 2
        · have h := it h c7
          refine w_tabIn (tgt := 62) (off := 52) 10 hX dX11_country_10 (by rw [c7]; decide) (by rw [c7]; decide) (by rw [c7]; decide) (by decide) ?_
          refine w_aload_n 0 62 hX rfl rfl dX11_country_62 ?_
          refine w_getR 63 hX CI_11 s_0 rfl r_0_0 fl_X11_10 rfl dX11_country_63 ?_
          refine w_aload_n 0 66 hX rfl rfl dX11_country_66 ?_
          refine w_getR 67 hX CI_11 s_0 rfl r_0_3 fl_X11_35 rfl dX11_country_67 ?_
          refine w_iload_n 1 70 hX rfl rfl dX11_country_70 ?_
          obtain ⟨x8, gx8, h⟩ := o_bind h
          refine w_invVi (av := [.int p1]) (st := [.ref 1]) 71 hX CI_3 s_32 rfl mv_yX3_known mi_yX3_known ml_X11_192 (CX3_known_32 p1 u gx8) rfl (by decide) (Nat.le_of_ble_eq_true rfl) (Nat.le_refl _) (Nat.le_refl _) dX11_country_71 ?_
          obtain ⟨x9, gx9, h⟩ := o_bind h
          refine w_invVi (av := [.int x8]) (st := []) 74 hX CI_9 s_1 rfl mv_yX9_weightOf mi_yX9_weightOf ml_X11_195 (CX9_weightOf_1 x8 u gx9) rfl (by decide) (Nat.le_of_ble_eq_true rfl) (Nat.le_refl _) (Nat.le_refl _) dX11_country_74 ?_
          exact w_iret 77 hX hR dX11_country_77 (by cases h; rfl)
        · have h := ie h c7
          by_cases c10 : p2 = 3
          · have h := it h c10
            refine w_tabIn (tgt := 78) (off := 68) 10 hX dX11_country_10 (by rw [c10]; decide) (by rw [c10]; decide) (by rw [c10]; decide) (by decide) ?_
            refine w_aload_n 0 78 hX rfl rfl dX11_country_78 ?_
            refine w_getR 79 hX CI_11 s_0 rfl r_0_0 fl_X11_10 rfl dX11_country_79 ?_
            refine w_getR 82 hX CI_9 s_1 rfl r_1_5 fl_X11_198 rfl dX11_country_82 ?_
            refine w_iload_n 1 85 hX rfl rfl dX11_country_85 ?_
            obtain ⟨x11, gx11, h⟩ := o_bind h
            refine w_iald 86 hX s_6 gx11 dX11_country_86 ?_
            exact w_iret 87 hX hR dX11_country_87 (by cases h; rfl)
          · have h := ie h c10
            by_cases c12 : p2 = 4
            · have h := it h c12
              refine w_tabIn (tgt := 88) (off := 78) 10 hX dX11_country_10 (by rw [c12]; decide) (by rw [c12]; decide) (by rw [c12]; decide) (by decide) ?_
              refine w_aload_n 0 88 hX rfl rfl dX11_country_88 ?_
              refine w_getR 89 hX CI_11 s_0 rfl r_0_0 fl_X11_10 rfl dX11_country_89 ?_
              refine w_getR 92 hX CI_9 s_1 rfl r_1_14 fl_X11_201 rfl dX11_country_92 ?_
              refine w_aload_n 0 95 hX rfl rfl dX11_country_95 ?_
              refine w_getR 96 hX CI_11 s_0 rfl r_0_1 fl_X11_19 rfl dX11_country_96 ?_
              refine w_getI (j := 7) 99 hX CI_0 s_23 rfl fl_X11_153 rfl dX11_country_99 ?_
              refine w_iload_n 1 102 hX rfl rfl dX11_country_102 ?_
              obtain ⟨x13, gx13, h⟩ := o_bind h
              refine w_invVi (av := [.int (u 23 7), .int p1]) (st := []) 103 hX CI_5 s_15 rfl mv_yX5_rests mi_yX5_rests ml_X11_205 (CX5_rests_15 (u 23 7) p1 u gx13) rfl (by decide) (Nat.le_of_ble_eq_true rfl) (Nat.le_refl _) (Nat.le_refl _) dX11_country_103 ?_
              refine w_if_eq (tgt := 113) 106 hX dX11_country_106 (by decide) (fun c14 => ?_) (fun c14 => ?_)
              · have h := it h c14
                refine w_iconst 0 113 hX ic_0 dX11_country_113 ?_
                exact w_iret 114 hX hR dX11_country_114 (by cases h; rfl)
              · have h := ie h c14
                refine w_iconst 1 109 hX ic_1 dX11_country_109 ?_
                refine w_goto (tgt := 114) 110 hX (by decide) dX11_country_110 ?_
                exact w_iret 114 hX hR dX11_country_114 (by cases h; rfl)
            · have h := ie h c12
              have zc3 := lv_neT c3 (a := 0) (by decide)
              have zc5 := lv_neT c5 (a := 1) (by decide)
              have zc7 := lv_neT c7 (a := 2) (by decide)
              have zc10 := lv_neT c10 (a := 3) (by decide)
              have zc12 := lv_neT c12 (a := 4) (by decide)
              refine w_tabOut (tgt := 115) 10 hX dX11_country_10 (by omega) (by decide) ?_
              refine w_iconst (-1) 115 hX ic_m1 dX11_country_115 ?_
              exact w_iret 116 hX hR dX11_country_116 (by cases h; rfl)
  · have h := it h c2
    refine w_iconst (-1) 7 hX ic_m1 dX11_country_7 ?_
    exact w_iret 8 hX hR dX11_country_8 (by cases h; rfl))
