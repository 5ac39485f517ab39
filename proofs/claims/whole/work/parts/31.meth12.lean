def FX2_chooseAge_96_b14 (k14 : Int32 → Mem → Option Mem) (l1 : Int32) (u : Mem) : Option Mem :=
  (if l1 < 0 then (some u) else ((FX2_imagine_96 l1 u).bind fun u3 => bnd2 (FX2_until_96 ((u3 96 5) - 1) u3) fun x4 u5 => (FX2_take_96 l1 x4 u5).bind fun u7 => k14 (l1 + (-10)) u7))
theorem bX2_chooseAge_96_14 {G : Gt} {X : Xt} {u' : Mem} (hX : CxOk G X cX2_chooseAge 2 RX2 (none, SH, RHO, u') 7) (hR : CxRet G X none (none, SH, RHO, u')) {k14 : Int32 → Mem → Option Mem} (hk14 : ∀ (l1 : Int32) (u : Mem), k14 l1 u = some u' → WM G X 14 [(0, .ref 96), (1, .int l1)] [] SH RHO u) (l1 : Int32) (u : Mem) (h : FX2_chooseAge_96_b14 k14 l1 u = some u') : WM G X 14 [(0, .ref 96), (1, .int l1)] [] SH RHO u := by
  unfold FX2_chooseAge_96_b14 at h
  refine w_iload_n 1 14 hX rfl rfl dX2_chooseAge_14 ?_
  refine w_if_lt (tgt := 44) 15 hX dX2_chooseAge_15 (by decide) (fun c1 => ?_) (fun c1 => ?_)
  · have h := it h c1
    exact w_vret 44 hX hR dX2_chooseAge_44 (by cases h; rfl)
  · have h := ie h c1
    refine w_aload_n 0 18 hX rfl rfl dX2_chooseAge_18 ?_
    refine w_iload_n 1 19 hX rfl rfl dX2_chooseAge_19 ?_
    obtain ⟨u3, gu3, h⟩ := o_bind h
    refine w_invVv (av := [.int l1]) (st := []) 20 hX CI_2 s_96 rfl mv_yX2_imagine mi_yX2_imagine ml_X2_34 (CX2_imagine_96 l1 u gu3) rfl (by decide) (Nat.le_of_ble_eq_true rfl) (Nat.le_refl _) (Nat.le_refl _) dX2_chooseAge_20 ?_
    refine w_aload_n 0 23 hX rfl rfl dX2_chooseAge_23 ?_
    refine w_iload_n 1 24 hX rfl rfl dX2_chooseAge_24 ?_
    refine w_aload_n 0 25 hX rfl rfl dX2_chooseAge_25 ?_
    refine w_aload_n 0 26 hX rfl rfl dX2_chooseAge_26 ?_
    refine w_getI (j := 5) 27 hX CI_2 s_96 rfl fl_X2_52 rfl dX2_chooseAge_27 ?_
    refine w_iconst 1 30 hX ic_1 dX2_chooseAge_30 ?_
    refine w_isub 31 hX dX2_chooseAge_31 ?_
    obtain ⟨x4, u5, gx4, h⟩ := o_bnd2 h
    refine w_invVi (av := [.int ((u3 96 5) - 1)]) (st := [.int l1, .ref 96]) 32 hX CI_2 s_96 rfl mv_yX2_until mi_yX2_until ml_X2_38 (CX2_until_96 ((u3 96 5) - 1) u3 gx4) rfl (by decide) (Nat.le_of_ble_eq_true rfl) (Nat.le_refl _) (Nat.le_refl _) dX2_chooseAge_32 ?_
    obtain ⟨u7, gu7, h⟩ := o_bind h
    refine w_invVv (av := [.int l1, .int x4]) (st := []) 35 hX CI_2 s_96 rfl mv_yX2_take mi_yX2_take ml_X2_73 (CX2_take_96 l1 x4 u5 gu7) rfl (by decide) (Nat.le_of_ble_eq_true rfl) (Nat.le_refl _) (Nat.le_refl _) dX2_chooseAge_35 ?_
    refine w_iinc (lv' := [(1, .int (l1 + (-10))), (0, .ref 96)]) 38 1 hX dX2_chooseAge_38 rfl (inc_m10 _) (by decide) rfl ?_
    refine w_goto (tgt := 14) 41 hX (by decide) dX2_chooseAge_41 ?_
    exact w_sub [1, 0] rfl (hk14 (l1 + (-10)) u7 h)
def FX2_chooseAge_96_L14 : Nat → Int32 → Mem → Option Mem
  | 0, _, _ => none
  | n + 1, l1, u => FX2_chooseAge_96_b14 (FX2_chooseAge_96_L14 n) l1 u
theorem lX2_chooseAge_96_14 {G : Gt} {X : Xt} {u' : Mem} (hX : CxOk G X cX2_chooseAge 2 RX2 (none, SH, RHO, u') 7) (hR : CxRet G X none (none, SH, RHO, u')) : ∀ (n : Nat) (l1 : Int32) (u : Mem), FX2_chooseAge_96_L14 n l1 u = some u' → WM G X 14 [(0, .ref 96), (1, .int l1)] [] SH RHO u := by
  intro n
  induction n with
  | zero =>
    intro l1 u h
    exact nn_ h
  | succ n ih =>
    intro l1 u h
    exact bX2_chooseAge_96_14 hX hR ih l1 u h
def FX2_chooseAge_96 (u : Mem) : Option Mem :=
  (some (mupd u 96 4 (-1))).bind fun u1 => (some (mupd u1 96 5 100)).bind fun u2 => FX2_chooseAge_96_L14 FU 120 u2
theorem CX2_chooseAge_96 {G : Gt} (u : Mem) {u' : Mem} (h : FX2_chooseAge_96 u = some u') : CT G yX2_chooseAge cX2_chooseAge 2 none 7 [.ref 96] SH RHO u (none, SH, RHO, u') :=
  ct_of (by decide) rfl (Nat.le_of_ble_eq_true rfl) (Nat.le_refl _) (Nat.le_refl _) (fun X hX hR => by
  unfold FX2_chooseAge_96 at h
  refine w_aload_n 0 0 hX rfl rfl dX2_chooseAge_0 ?_
  refine w_iconst (-1) 1 hX ic_m1 dX2_chooseAge_1 ?_
  obtain ⟨u1, gu1, h⟩ := o_bind h
  refine w_putI (j := 4) 2 hX CI_2 s_96 rfl fl_X2_49 rfl rfl rfl rfl dX2_chooseAge_2 ?_
  rw [Option.some.inj gu1]
  refine w_aload_n 0 5 hX rfl rfl dX2_chooseAge_5 ?_
  refine w_bipush 100 6 hX ib_100 dX2_chooseAge_6 ?_
  obtain ⟨u2, gu2, h⟩ := o_bind h
  refine w_putI (j := 5) 8 hX CI_2 s_96 rfl fl_X2_52 rfl rfl rfl rfl dX2_chooseAge_8 ?_
  rw [Option.some.inj gu2]
  refine w_bipush 120 11 hX ib_120 dX2_chooseAge_11 ?_
  refine w_istore_n (lv' := [(1, .int 120), (0, .ref 96)]) 13 hX rfl dX2_chooseAge_13 (by decide) rfl ?_
  exact w_sub [1, 0] rfl (lX2_chooseAge_96_14 hX hR FU 120 u2 h))
def FX11_from_0 (p1 : Int32) (u : Mem) : Option (Int32 × Mem) :=
  (if p1 < 0 then (some ((-1), u)) else ((if p1 ≤ 1 then ((FX2_chooseAge_96 u).bind fun u4 => (FX2_answer_96 p1 u4).bind fun x5 => some (x5, u4)) else (some ((-1), u)))))
theorem CX11_from_0 {G : Gt} (p1 : Int32) (u : Mem) {v : Int32} {u' : Mem} (h : FX11_from_0 p1 u = some (v, u')) : CT G yX11_from cX11_from 2 (some .int) 8 [.ref 0, .int p1] SH RHO u (some (.int v), SH, RHO, u') :=
  ct_of (by decide) rfl (Nat.le_of_ble_eq_true rfl) (Nat.le_refl _) (Nat.le_refl _) (fun X hX hR => by
  unfold FX11_from_0 at h
  refine w_iload_n 1 0 hX rfl rfl dX11_from_0 ?_
  refine w_if_lt (tgt := 9) 1 hX dX11_from_1 (by decide) (fun c1 => ?_) (fun c1 => ?_)
  · have h := it h c1
    refine w_iconst (-1) 9 hX ic_m1 dX11_from_9 ?_
    exact w_iret 10 hX hR dX11_from_10 (by cases h; rfl)
  · have h := ie h c1
    refine w_iload_n 1 4 hX rfl rfl dX11_from_4 ?_
    refine w_iconst 1 5 hX ic_1 dX11_from_5 ?_
    refine w_icmp_le (tgt := 11) 6 hX dX11_from_6 (by decide) (fun c2 => ?_) (fun c2 => ?_)
    · have h := it h c2
      refine w_aload_n 0 11 hX rfl rfl dX11_from_11 ?_
      refine w_getR 12 hX CI_11 s_0 rfl r_0_6 fl_X11_58 rfl dX11_from_12 ?_
      obtain ⟨u4, gu4, h⟩ := o_bind h
      refine w_invVv (av := []) (st := []) 15 hX CI_2 s_96 rfl mv_yX2_chooseAge mi_yX2_chooseAge ml_X11_225 (CX2_chooseAge_96 u gu4) rfl (by decide) (Nat.le_of_ble_eq_true rfl) (Nat.le_refl _) (Nat.le_refl _) dX11_from_15 ?_
      refine w_aload_n 0 18 hX rfl rfl dX11_from_18 ?_
      refine w_getR 19 hX CI_11 s_0 rfl r_0_6 fl_X11_58 rfl dX11_from_19 ?_
      refine w_iload_n 1 22 hX rfl rfl dX11_from_22 ?_
      obtain ⟨x5, gx5, h⟩ := o_bind h
      refine w_invVi (av := [.int p1]) (st := []) 23 hX CI_2 s_96 rfl mv_yX2_answer mi_yX2_answer ml_X11_222 (CX2_answer_96 p1 u4 gx5) rfl (by decide) (Nat.le_of_ble_eq_true rfl) (Nat.le_refl _) (Nat.le_refl _) dX11_from_23 ?_
      exact w_iret 26 hX hR dX11_from_26 (by cases h; rfl)
    · have h := ie h c2
      refine w_iconst (-1) 9 hX ic_m1 dX11_from_9 ?_
      exact w_iret 10 hX hR dX11_from_10 (by cases h; rfl))
def FX12_from_146_b65 (l2 : Int32) (u : Mem) : Option (Int32 × Mem) :=
  some (l2, u)
theorem bX12_from_146_65 {G : Gt} {X : Xt} {v : Int32} {u' : Mem} (hX : CxOk G X cX12_from 6 RX12 (some (.int v), SH, RHO, u') 11) (hR : CxRet G X (some .int) (some (.int v), SH, RHO, u')) (l2 : Int32) (u : Mem) (h : FX12_from_146_b65 l2 u = some (v, u')) : WM G X 65 [(2, .int l2)] [] SH RHO u := by
  unfold FX12_from_146_b65 at h
  refine w_iload_n 0 65 hX rfl rfl dX12_from_65 ?_
  refine w_goto (tgt := 70) 66 hX (by decide) dX12_from_66 ?_
  exact w_iret 70 hX hR dX12_from_70 (by cases h; rfl)
def FX12_from_146_b50 (k21 : Int32 → Int32 → Int32 → Int32 → Mem → Option (Int32 × Mem)) (l1 l2 l3 l4 : Int32) (u : Mem) : Option (Int32 × Mem) :=
  k21 l1 l2 l3 (l4 + (-10)) u
theorem bX12_from_146_50 {G : Gt} {X : Xt} {v : Int32} {u' : Mem} (hX : CxOk G X cX12_from 6 RX12 (some (.int v), SH, RHO, u') 11) (hR : CxRet G X (some .int) (some (.int v), SH, RHO, u')) {k21 : Int32 → Int32 → Int32 → Int32 → Mem → Option (Int32 × Mem)} (hk21 : ∀ (l1 l2 l3 l4 : Int32) (u : Mem), k21 l1 l2 l3 l4 u = some (v, u') → WM G X 21 [(0, .ref 146), (1, .int l1), (2, .int l2), (3, .int l3), (4, .int l4)] [] SH RHO u) (l1 l2 l3 l4 : Int32) (u : Mem) (h : FX12_from_146_b50 k21 l1 l2 l3 l4 u = some (v, u')) : WM G X 50 [(0, .ref 146), (1, .int l1), (2, .int l2), (3, .int l3), (4, .int l4)] [] SH RHO u := by
  unfold FX12_from_146_b50 at h
  refine w_iinc (lv' := [(4, .int (l4 + (-10))), (0, .ref 146), (1, .int l1), (2, .int l2), (3, .int l3)]) 50 4 hX dX12_from_50 rfl (inc_m10 _) (by decide) rfl ?_
  refine w_goto (tgt := 21) 53 hX (by decide) dX12_from_53 ?_
  exact w_sub [1, 2, 3, 4, 0] rfl (hk21 l1 l2 l3 (l4 + (-10)) u h)
def FX12_from_146_b21 (k21 : Int32 → Int32 → Int32 → Int32 → Mem → Option (Int32 × Mem)) (l1 l2 l3 l4 : Int32) (u : Mem) : Option (Int32 × Mem) :=
  (if l4 < 0 then ((if l2 = (-1) then (FX12_from_146_b65 l2 u) else ((if l1 = 0 then (FX12_from_146_b65 l2 u) else (some (l3, u)))))) else (bnd2 (FX12_lastsWith_146 (-1) l4 u) fun x4 u5 => (if x4 < l3 then (FX12_from_146_b50 k21 l1 l4 x4 l4 u5) else (FX12_from_146_b50 k21 l1 l2 l3 l4 u5))))
theorem bX12_from_146_21 {G : Gt} {X : Xt} {v : Int32} {u' : Mem} (hX : CxOk G X cX12_from 6 RX12 (some (.int v), SH, RHO, u') 11) (hR : CxRet G X (some .int) (some (.int v), SH, RHO, u')) {k21 : Int32 → Int32 → Int32 → Int32 → Mem → Option (Int32 × Mem)} (hk21 : ∀ (l1 l2 l3 l4 : Int32) (u : Mem), k21 l1 l2 l3 l4 u = some (v, u') → WM G X 21 [(0, .ref 146), (1, .int l1), (2, .int l2), (3, .int l3), (4, .int l4)] [] SH RHO u) (l1 l2 l3 l4 : Int32) (u : Mem) (h : FX12_from_146_b21 k21 l1 l2 l3 l4 u = some (v, u')) : WM G X 21 [(0, .ref 146), (1, .int l1), (2, .int l2), (3, .int l3), (4, .int l4)] [] SH RHO u := by
  unfold FX12_from_146_b21 at h
  refine w_iload 4 21 hX rfl dX12_from_21 ?_
  refine w_if_lt (tgt := 56) 23 hX dX12_from_23 (by decide) (fun c1 => ?_) (fun c1 => ?_)
  · have h := it h c1
    refine w_iload_n 2 56 hX rfl rfl dX12_from_56 ?_
    refine w_iconst (-1) 57 hX ic_m1 dX12_from_57 ?_
    refine w_icmp_eq (tgt := 65) 58 hX dX12_from_58 (by decide) (fun c2 => ?_) (fun c2 => ?_)
    · have h := it h c2
      exact w_sub [2] rfl (bX12_from_146_65 hX hR l2 u h)
    · have h := ie h c2
      refine w_iload_n 1 61 hX rfl rfl dX12_from_61 ?_
      refine w_if_ne (tgt := 69) 62 hX dX12_from_62 (by decide) (fun c3 => ?_) (fun c3 => ?_)
      · have h := ie h c3
        refine w_iload_n 3 69 hX rfl rfl dX12_from_69 ?_
        exact w_iret 70 hX hR dX12_from_70 (by cases h; rfl)
      · have h := it h c3
        exact w_sub [2] rfl (bX12_from_146_65 hX hR l2 u h)
  · have h := ie h c1
    refine w_aload_n 0 26 hX rfl rfl dX12_from_26 ?_
    refine w_iconst (-1) 27 hX ic_m1 dX12_from_27 ?_
    refine w_iload 4 28 hX rfl dX12_from_28 ?_
    obtain ⟨x4, u5, gx4, h⟩ := o_bnd2 h
    refine w_invVi (av := [.int (-1), .int l4]) (st := []) 30 hX CI_12 s_146 rfl mv_yX12_lastsWith mi_yX12_lastsWith ml_X12_421 (CX12_lastsWith_146 (-1) l4 u gx4) rfl (by decide) (Nat.le_of_ble_eq_true rfl) (Nat.le_refl _) (Nat.le_refl _) dX12_from_30 ?_
    refine w_istore (lv' := [(5, .int x4), (0, .ref 146), (1, .int l1), (2, .int l2), (3, .int l3), (4, .int l4)]) 33 hX dX12_from_33 (by decide) rfl ?_
    refine w_iload 0 35 hX rfl dX12_from_35 ?_
    refine w_iload_n 4 37 hX rfl rfl dX12_from_37 ?_
    refine w_icmp_lt (tgt := 44) 38 hX dX12_from_38 (by decide) (fun c6 => ?_) (fun c6 => ?_)
    · have h := it h c6
      refine w_iload 0 44 hX rfl dX12_from_44 ?_
      refine w_istore_n (lv' := [(3, .int x4), (5, .int x4), (0, .ref 146), (1, .int l1), (2, .int l2), (4, .int l4)]) 46 hX rfl dX12_from_46 (by decide) rfl ?_
      refine w_iload 5 47 hX rfl dX12_from_47 ?_
      refine w_istore_n (lv' := [(2, .int l4), (3, .int x4), (5, .int x4), (0, .ref 146), (1, .int l1), (4, .int l4)]) 49 hX rfl dX12_from_49 (by decide) rfl ?_
      exact w_sub [3, 4, 0, 1, 5] rfl (bX12_from_146_50 hX hR hk21 l1 l4 x4 l4 u5 h)
    · have h := ie h c6
      refine w_goto (tgt := 50) 41 hX (by decide) dX12_from_41 ?_
      exact w_sub [1, 2, 3, 4, 5] rfl (bX12_from_146_50 hX hR hk21 l1 l2 l3 l4 u5 h)
def FX12_from_146_L21 : Nat → Int32 → Int32 → Int32 → Int32 → Mem → Option (Int32 × Mem)
  | 0, _, _, _, _, _ => none
  | n + 1, l1, l2, l3, l4, u => FX12_from_146_b21 (FX12_from_146_L21 n) l1 l2 l3 l4 u
theorem lX12_from_146_21 {G : Gt} {X : Xt} {v : Int32} {u' : Mem} (hX : CxOk G X cX12_from 6 RX12 (some (.int v), SH, RHO, u') 11) (hR : CxRet G X (some .int) (some (.int v), SH, RHO, u')) : ∀ (n : Nat) (l1 l2 l3 l4 : Int32) (u : Mem), FX12_from_146_L21 n l1 l2 l3 l4 u = some (v, u') → WM G X 21 [(0, .ref 146), (1, .int l1), (2, .int l2), (3, .int l3), (4, .int l4)] [] SH RHO u := by
  intro n
  induction n with
  | zero =>
    intro l1 l2 l3 l4 u h
    exact nn_ h
  | succ n ih =>
    intro l1 l2 l3 l4 u h
    exact bX12_from_146_21 hX hR ih l1 l2 l3 l4 u h
def FX12_from_146 (p1 : Int32) (u : Mem) : Option (Int32 × Mem) :=
  (FX12_isIn p1 0 1).bind fun x1 => (if x1 = 0 then (some ((-1), u)) else (FX12_from_146_L21 FU p1 (-1) 1000000 120 u))
theorem CX12_from_146 {G : Gt} (p1 : Int32) (u : Mem) {v : Int32} {u' : Mem} (h : FX12_from_146 p1 u = some (v, u')) : CT G yX12_from cX12_from 6 (some .int) 11 [.ref 146, .int p1] SH RHO u (some (.int v), SH, RHO, u') :=
  ct_of (by decide) rfl (Nat.le_of_ble_eq_true rfl) (Nat.le_refl _) (Nat.le_refl _) (fun X hX hR => by
  unfold FX12_from_146 at h
  refine w_iload_n 1 0 hX rfl rfl dX12_from_0 ?_
  refine w_iconst 0 1 hX ic_0 dX12_from_1 ?_
  refine w_iconst 1 2 hX ic_1 dX12_from_2 ?_
  obtain ⟨x1, gx1, h⟩ := o_bind h
  refine w_invSi (av := [.int p1, .int 0, .int 1]) (st := []) 3 hX ms_yX12_isIn mi_yX12_isIn ml_X12_54 (CX12_isIn p1 0 1 u gx1) rfl (by decide) (Nat.le_of_ble_eq_true rfl) (Nat.le_refl _) (Nat.le_refl _) dX12_from_3 ?_
  refine w_if_ne (tgt := 11) 6 hX dX12_from_6 (by decide) (fun c2 => ?_) (fun c2 => ?_)
  · have h := ie h c2
    refine w_iconst (-1) 11 hX ic_m1 dX12_from_11 ?_
    refine w_istore_n (lv' := [(2, .int (-1)), (0, .ref 146), (1, .int p1)]) 12 hX rfl dX12_from_12 (by decide) rfl ?_
    refine w_ldcw 1000000 13 hX cs_X12_420 dX12_from_13 ?_
    refine w_istore_n (lv' := [(3, .int 1000000), (2, .int (-1)), (0, .ref 146), (1, .int p1)]) 16 hX rfl dX12_from_16 (by decide) rfl ?_
    refine w_bipush 120 17 hX ib_120 dX12_from_17 ?_
    refine w_istore (lv' := [(4, .int 120), (3, .int 1000000), (2, .int (-1)), (0, .ref 146), (1, .int p1)]) 19 hX dX12_from_19 (by decide) rfl ?_
    exact w_sub [3, 4, 2, 1, 0] rfl (lX12_from_146_21 hX hR FU p1 (-1) 1000000 120 u h)
  · have h := it h c2
    refine w_iconst (-1) 9 hX ic_m1 dX12_from_9 ?_
    exact w_iret 10 hX hR dX12_from_10 (by cases h; rfl))
def FX7_knowers_106_b53 (l2 : Int32) (u : Mem) : Option Int32 :=
  some l2
theorem bX7_knowers_106_53 {G : Gt} {X : Xt} {v : Int32} {u : Mem} (hX : CxOk G X cX7_knowers 4 RX7 (some (.int v), SH, RHO, u) 2) (hR : CxRet G X (some .int) (some (.int v), SH, RHO, u)) (l2 : Int32) (h : FX7_knowers_106_b53 l2 u = some v) : WM G X 53 [(2, .int l2)] [] SH RHO u := by
  unfold FX7_knowers_106_b53 at h
  refine w_iload_n 0 53 hX rfl rfl dX7_knowers_53 ?_
  exact w_iret 54 hX hR dX7_knowers_54 (by cases h; rfl)
def FX7_knowers_106_b45 (k4 : Int32 → Int32 → Int32 → Mem → Option Int32) (l1 l3 t0 t1 : Int32) (u : Mem) : Option Int32 :=
  k4 l1 (t0 ||| t1) (l3 + 1) u
theorem bX7_knowers_106_45 {G : Gt} {X : Xt} {v : Int32} {u : Mem} (hX : CxOk G X cX7_knowers 4 RX7 (some (.int v), SH, RHO, u) 2) (hR : CxRet G X (some .int) (some (.int v), SH, RHO, u)) {k4 : Int32 → Int32 → Int32 → Mem → Option Int32} (hk4 : ∀ (l1 l2 l3 : Int32), k4 l1 l2 l3 u = some v → WM G X 4 [(0, .ref 106), (1, .int l1), (2, .int l2), (3, .int l3)] [] SH RHO u) (l1 l3 t0 t1 : Int32) (h : FX7_knowers_106_b45 k4 l1 l3 t0 t1 u = some v) : WM G X 45 [(0, .ref 106), (1, .int l1), (3, .int l3)] [.int t1, .int t0] SH RHO u := by
  unfold FX7_knowers_106_b45 at h
  refine w_ior 45 hX dX7_knowers_45 ?_
  refine w_istore_n (lv' := [(2, .int (t0 ||| t1)), (0, .ref 106), (1, .int l1), (3, .int l3)]) 46 hX rfl dX7_knowers_46 (by decide) rfl ?_
  refine w_iinc (lv' := [(3, .int (l3 + 1)), (2, .int (t0 ||| t1)), (0, .ref 106), (1, .int l1)]) 47 3 hX dX7_knowers_47 rfl (inc_1 _) (by decide) rfl ?_
  refine w_goto (tgt := 4) 50 hX (by decide) dX7_knowers_50 ?_
  exact w_sub [2, 3, 1, 0] rfl (hk4 l1 (t0 ||| t1) (l3 + 1) h)
def FX7_knowers_106_b4 (k4 : Int32 → Int32 → Int32 → Mem → Option Int32) (l1 l2 l3 : Int32) (u : Mem) : Option Int32 :=
  (if 12 ≤ l3 then (FX7_knowers_106_b53 l2 u) else ((if (u 1 0) ≤ l3 then (FX7_knowers_106_b53 l2 u) else ((rdA u 25 12 l3).bind fun x3 => (FX11_holds x3 l1).bind fun x4 => (if x4 = 0 then (FX7_knowers_106_b45 k4 l1 l3 l2 0 u) else (FX7_knowers_106_b45 k4 l1 l3 l2 ((1 : Int32) <<< (l3 &&& 31)) u))))))
theorem bX7_knowers_106_4 {G : Gt} {X : Xt} {v : Int32} {u : Mem} (hX : CxOk G X cX7_knowers 4 RX7 (some (.int v), SH, RHO, u) 2) (hR : CxRet G X (some .int) (some (.int v), SH, RHO, u)) {k4 : Int32 → Int32 → Int32 → Mem → Option Int32} (hk4 : ∀ (l1 l2 l3 : Int32), k4 l1 l2 l3 u = some v → WM G X 4 [(0, .ref 106), (1, .int l1), (2, .int l2), (3, .int l3)] [] SH RHO u) (l1 l2 l3 : Int32) (h : FX7_knowers_106_b4 k4 l1 l2 l3 u = some v) : WM G X 4 [(0, .ref 106), (1, .int l1), (2, .int l2), (3, .int l3)] [] SH RHO u := by
  unfold FX7_knowers_106_b4 at h
  refine w_iload_n 3 4 hX rfl rfl dX7_knowers_4 ?_
  refine w_bipush 12 5 hX ib_12 dX7_knowers_5 ?_
  refine w_icmp_ge (tgt := 53) 7 hX dX7_knowers_7 (by decide) (fun c1 => ?_) (fun c1 => ?_)
  · have h := it h c1
    exact w_sub [2] rfl (bX7_knowers_106_53 hX hR l2 h)
  · have h := ie h c1
    refine w_iload_n 3 10 hX rfl rfl dX7_knowers_10 ?_
    refine w_aload_n 0 11 hX rfl rfl dX7_knowers_11 ?_
    refine w_getR 12 hX CI_7 s_106 rfl r_106_0 fl_X7_36 rfl dX7_knowers_12 ?_
    refine w_getI (j := 0) 15 hX CI_9 s_1 rfl fl_X7_48 rfl dX7_knowers_15 ?_
    refine w_icmp_ge (tgt := 53) 18 hX dX7_knowers_18 (by decide) (fun c2 => ?_) (fun c2 => ?_)
    · have h := it h c2
      exact w_sub [2] rfl (bX7_knowers_106_53 hX hR l2 h)
    · have h := ie h c2
      refine w_iload_n 2 21 hX rfl rfl dX7_knowers_21 ?_
      refine w_aload_n 0 22 hX rfl rfl dX7_knowers_22 ?_
      refine w_getR 23 hX CI_7 s_106 rfl r_106_1 fl_X7_40 rfl dX7_knowers_23 ?_
      refine w_getR 26 hX CI_0 s_23 rfl r_23_1 fl_X7_54 rfl dX7_knowers_26 ?_
      refine w_iload_n 3 29 hX rfl rfl dX7_knowers_29 ?_
      obtain ⟨x3, gx3, h⟩ := o_bind h
      refine w_iald 30 hX s_25 gx3 dX7_knowers_30 ?_
      refine w_iload_n 1 31 hX rfl rfl dX7_knowers_31 ?_
      obtain ⟨x4, gx4, h⟩ := o_bind h
      refine w_invSNi (av := [.int x3, .int l1]) (st := [.int l2]) 32 hX ms_yX11_holds mi_yX11_holds ml_X7_59 (CX11_holds x3 l1 u gx4) rfl (by decide) (Nat.le_of_ble_eq_true rfl) (Nat.le_refl _) (Nat.le_refl _) dX7_knowers_32 ?_
      refine w_if_eq (tgt := 44) 35 hX dX7_knowers_35 (by decide) (fun c5 => ?_) (fun c5 => ?_)
      · have h := it h c5
        refine w_iconst 0 44 hX ic_0 dX7_knowers_44 ?_
        exact w_sub [0, 1, 3] rfl (bX7_knowers_106_45 hX hR hk4 l1 l3 l2 0 h)
      · have h := ie h c5
        refine w_iconst 1 38 hX ic_1 dX7_knowers_38 ?_
        refine w_iload_n 3 39 hX rfl rfl dX7_knowers_39 ?_
        refine w_ishl 40 hX dX7_knowers_40 ?_
        refine w_goto (tgt := 45) 41 hX (by decide) dX7_knowers_41 ?_
        exact w_sub [0, 1, 3] rfl (bX7_knowers_106_45 hX hR hk4 l1 l3 l2 ((1 : Int32) <<< (l3 &&& 31)) h)
def FX7_knowers_106_L4 : Nat → Int32 → Int32 → Int32 → Mem → Option Int32
  | 0, _, _, _, _ => none
  | n + 1, l1, l2, l3, u => FX7_knowers_106_b4 (FX7_knowers_106_L4 n) l1 l2 l3 u
theorem lX7_knowers_106_4 {G : Gt} {X : Xt} {v : Int32} {u : Mem} (hX : CxOk G X cX7_knowers 4 RX7 (some (.int v), SH, RHO, u) 2) (hR : CxRet G X (some .int) (some (.int v), SH, RHO, u)) : ∀ (n : Nat) (l1 l2 l3 : Int32), FX7_knowers_106_L4 n l1 l2 l3 u = some v → WM G X 4 [(0, .ref 106), (1, .int l1), (2, .int l2), (3, .int l3)] [] SH RHO u := by
  intro n
  induction n with
  | zero =>
    intro l1 l2 l3 h
    exact nn_ h
  | succ n ih =>
    intro l1 l2 l3 h
    exact bX7_knowers_106_4 hX hR ih l1 l2 l3 h
def FX7_knowers_106 (p1 : Int32) (u : Mem) : Option Int32 :=
  FX7_knowers_106_L4 FU p1 0 0 u
theorem CX7_knowers_106 {G : Gt} (p1 : Int32) (u : Mem) {v : Int32} (h : FX7_knowers_106 p1 u = some v) : CT G yX7_knowers cX7_knowers 4 (some .int) 2 [.ref 106, .int p1] SH RHO u (some (.int v), SH, RHO, u) :=
  ct_of (by decide) rfl (Nat.le_of_ble_eq_true rfl) (Nat.le_refl _) (Nat.le_refl _) (fun X hX hR => by
  unfold FX7_knowers_106 at h
  refine w_iconst 0 0 hX ic_0 dX7_knowers_0 ?_
  refine w_istore_n (lv' := [(2, .int 0), (0, .ref 106), (1, .int p1)]) 1 hX rfl dX7_knowers_1 (by decide) rfl ?_
  refine w_iconst 0 2 hX ic_0 dX7_knowers_2 ?_
  refine w_istore_n (lv' := [(3, .int 0), (2, .int 0), (0, .ref 106), (1, .int p1)]) 3 hX rfl dX7_knowers_3 (by decide) rfl ?_
  exact w_sub [2, 3, 1, 0] rfl (lX7_knowers_106_4 hX hR FU p1 0 0 h))
def FX7_hearers_106_b68 (k8 : Int32 → Int32 → Mem → Option Int32) (l2 l3 : Int32) (u : Mem) : Option Int32 :=
  k8 l2 (l3 + 1) u
theorem bX7_hearers_106_68 {G : Gt} {X : Xt} {v : Int32} {u : Mem} (hX : CxOk G X cX7_hearers 5 RX7 (some (.int v), SH, RHO, u) 3) (hR : CxRet G X (some .int) (some (.int v), SH, RHO, u)) {k8 : Int32 → Int32 → Mem → Option Int32} (hk8 : ∀ (l2 l3 : Int32), k8 l2 l3 u = some v → WM G X 8 [(0, .ref 106), (2, .int l2), (3, .int l3)] [] SH RHO u) (l2 l3 : Int32) (h : FX7_hearers_106_b68 k8 l2 l3 u = some v) : WM G X 68 [(0, .ref 106), (2, .int l2), (3, .int l3)] [] SH RHO u := by
  unfold FX7_hearers_106_b68 at h
  refine w_iinc (lv' := [(3, .int (l3 + 1)), (0, .ref 106), (2, .int l2)]) 68 2 hX dX7_hearers_68 rfl (inc_1 _) (by decide) rfl ?_
  refine w_goto (tgt := 8) 71 hX (by decide) dX7_hearers_71 ?_
  exact w_sub [1, 2, 0] rfl (hk8 l2 (l3 + 1) h)
def FX7_hearers_106_b60 (k17 : Int32 → Int32 → Int32 → Mem → Option Int32) (l3 l4 t0 t1 : Int32) (u : Mem) : Option Int32 :=
  k17 (t0 ||| t1) l3 (l4 + 1) u
theorem bX7_hearers_106_60 {G : Gt} {X : Xt} {v : Int32} {u : Mem} (hX : CxOk G X cX7_hearers 5 RX7 (some (.int v), SH, RHO, u) 3) (hR : CxRet G X (some .int) (some (.int v), SH, RHO, u)) {k17 : Int32 → Int32 → Int32 → Mem → Option Int32} (hk17 : ∀ (l2 l3 l4 : Int32), k17 l2 l3 l4 u = some v → WM G X 17 [(0, .ref 106), (2, .int l2), (3, .int l3), (4, .int l4)] [] SH RHO u) (l3 l4 t0 t1 : Int32) (h : FX7_hearers_106_b60 k17 l3 l4 t0 t1 u = some v) : WM G X 60 [(0, .ref 106), (3, .int l3), (4, .int l4)] [.int t1, .int t0] SH RHO u := by
  unfold FX7_hearers_106_b60 at h
  refine w_ior 60 hX dX7_hearers_60 ?_
  refine w_istore_n (lv' := [(2, .int (t0 ||| t1)), (0, .ref 106), (3, .int l3), (4, .int l4)]) 61 hX rfl dX7_hearers_61 (by decide) rfl ?_
  refine w_iinc (lv' := [(4, .int (l4 + 1)), (2, .int (t0 ||| t1)), (0, .ref 106), (3, .int l3)]) 62 3 hX dX7_hearers_62 rfl (inc_1 _) (by decide) rfl ?_
  refine w_goto (tgt := 17) 65 hX (by decide) dX7_hearers_65 ?_
  exact w_sub [2, 1, 3, 0] rfl (hk17 (t0 ||| t1) l3 (l4 + 1) h)
def FX7_hearers_106_b17 (k8 : Int32 → Int32 → Mem → Option Int32) (k17 : Int32 → Int32 → Int32 → Mem → Option Int32) (l2 l3 l4 : Int32) (u : Mem) : Option Int32 :=
  (if 12 ≤ l4 then (FX7_hearers_106_b68 k8 l2 l3 u) else ((if (u 1 0) ≤ l4 then (FX7_hearers_106_b68 k8 l2 l3 u) else ((FX11_holds l2 l4).bind fun x3 => (if x3 = 0 then (FX7_hearers_106_b60 k17 l3 l4 l2 0 u) else ((rdA u 5 12 l4).bind fun x5 => FX7_hearers_106_b60 k17 l3 l4 l2 x5 u))))))
theorem bX7_hearers_106_17 {G : Gt} {X : Xt} {v : Int32} {u : Mem} (hX : CxOk G X cX7_hearers 5 RX7 (some (.int v), SH, RHO, u) 3) (hR : CxRet G X (some .int) (some (.int v), SH, RHO, u)) {k8 : Int32 → Int32 → Mem → Option Int32} (hk8 : ∀ (l2 l3 : Int32), k8 l2 l3 u = some v → WM G X 8 [(0, .ref 106), (2, .int l2), (3, .int l3)] [] SH RHO u) {k17 : Int32 → Int32 → Int32 → Mem → Option Int32} (hk17 : ∀ (l2 l3 l4 : Int32), k17 l2 l3 l4 u = some v → WM G X 17 [(0, .ref 106), (2, .int l2), (3, .int l3), (4, .int l4)] [] SH RHO u) (l2 l3 l4 : Int32) (h : FX7_hearers_106_b17 k8 k17 l2 l3 l4 u = some v) : WM G X 17 [(0, .ref 106), (2, .int l2), (3, .int l3), (4, .int l4)] [] SH RHO u := by
  unfold FX7_hearers_106_b17 at h
  refine w_iload 3 17 hX rfl dX7_hearers_17 ?_
  refine w_bipush 12 19 hX ib_12 dX7_hearers_19 ?_
  refine w_icmp_ge (tgt := 68) 21 hX dX7_hearers_21 (by decide) (fun c1 => ?_) (fun c1 => ?_)
  · have h := it h c1
    exact w_sub [0, 1, 2] rfl (bX7_hearers_106_68 hX hR hk8 l2 l3 h)
  · have h := ie h c1
    refine w_iload 3 24 hX rfl dX7_hearers_24 ?_
    refine w_aload_n 0 26 hX rfl rfl dX7_hearers_26 ?_
    refine w_getR 27 hX CI_7 s_106 rfl r_106_0 fl_X7_36 rfl dX7_hearers_27 ?_
    refine w_getI (j := 0) 30 hX CI_9 s_1 rfl fl_X7_48 rfl dX7_hearers_30 ?_
    refine w_icmp_ge (tgt := 68) 33 hX dX7_hearers_33 (by decide) (fun c2 => ?_) (fun c2 => ?_)
    · have h := it h c2
      exact w_sub [0, 1, 2] rfl (bX7_hearers_106_68 hX hR hk8 l2 l3 h)
    · have h := ie h c2
      refine w_iload_n 1 36 hX rfl rfl dX7_hearers_36 ?_
      refine w_iload_n 1 37 hX rfl rfl dX7_hearers_37 ?_
      refine w_iload 3 38 hX rfl dX7_hearers_38 ?_
      obtain ⟨x3, gx3, h⟩ := o_bind h
      refine w_invSNi (av := [.int l2, .int l4]) (st := [.int l2]) 40 hX ms_yX11_holds mi_yX11_holds ml_X7_59 (CX11_holds l2 l4 u gx3) rfl (by decide) (Nat.le_of_ble_eq_true rfl) (Nat.le_refl _) (Nat.le_refl _) dX7_hearers_40 ?_
      refine w_if_eq (tgt := 59) 43 hX dX7_hearers_43 (by decide) (fun c4 => ?_) (fun c4 => ?_)
      · have h := it h c4
        refine w_iconst 0 59 hX ic_0 dX7_hearers_59 ?_
        exact w_sub [0, 2, 3] rfl (bX7_hearers_106_60 hX hR hk17 l3 l4 l2 0 h)
      · have h := ie h c4
        refine w_aload_n 0 46 hX rfl rfl dX7_hearers_46 ?_
        refine w_getR 47 hX CI_7 s_106 rfl r_106_0 fl_X7_36 rfl dX7_hearers_47 ?_
        refine w_getR 50 hX CI_9 s_1 rfl r_1_4 fl_X7_67 rfl dX7_hearers_50 ?_
        refine w_iload 3 53 hX rfl dX7_hearers_53 ?_
        obtain ⟨x5, gx5, h⟩ := o_bind h
        refine w_iald 55 hX s_5 gx5 dX7_hearers_55 ?_
        refine w_goto (tgt := 60) 56 hX (by decide) dX7_hearers_56 ?_
        exact w_sub [0, 2, 3] rfl (bX7_hearers_106_60 hX hR hk17 l3 l4 l2 x5 h)
def FX7_hearers_106_L17 (k8 : Int32 → Int32 → Mem → Option Int32) : Nat → Int32 → Int32 → Int32 → Mem → Option Int32
  | 0, _, _, _, _ => none
  | n + 1, l2, l3, l4, u => FX7_hearers_106_b17 k8 (FX7_hearers_106_L17 k8 n) l2 l3 l4 u
theorem lX7_hearers_106_17 {G : Gt} {X : Xt} {v : Int32} {u : Mem} (hX : CxOk G X cX7_hearers 5 RX7 (some (.int v), SH, RHO, u) 3) (hR : CxRet G X (some .int) (some (.int v), SH, RHO, u)) {k8 : Int32 → Int32 → Mem → Option Int32} (hk8 : ∀ (l2 l3 : Int32), k8 l2 l3 u = some v → WM G X 8 [(0, .ref 106), (2, .int l2), (3, .int l3)] [] SH RHO u) : ∀ (n : Nat) (l2 l3 l4 : Int32), FX7_hearers_106_L17 k8 n l2 l3 l4 u = some v → WM G X 17 [(0, .ref 106), (2, .int l2), (3, .int l3), (4, .int l4)] [] SH RHO u := by
  intro n
  induction n with
  | zero =>
    intro l2 l3 l4 h
    exact nn_ h
  | succ n ih =>
    intro l2 l3 l4 h
    exact bX7_hearers_106_17 hX hR hk8 ih l2 l3 l4 h
def FX7_hearers_106_b8 (k8 : Int32 → Int32 → Mem → Option Int32) (l2 l3 : Int32) (u : Mem) : Option Int32 :=
  (if 12 ≤ l3 then (some l2) else (FX7_hearers_106_L17 k8 FU l2 l3 0 u))
theorem bX7_hearers_106_8 {G : Gt} {X : Xt} {v : Int32} {u : Mem} (hX : CxOk G X cX7_hearers 5 RX7 (some (.int v), SH, RHO, u) 3) (hR : CxRet G X (some .int) (some (.int v), SH, RHO, u)) {k8 : Int32 → Int32 → Mem → Option Int32} (hk8 : ∀ (l2 l3 : Int32), k8 l2 l3 u = some v → WM G X 8 [(0, .ref 106), (2, .int l2), (3, .int l3)] [] SH RHO u) (l2 l3 : Int32) (h : FX7_hearers_106_b8 k8 l2 l3 u = some v) : WM G X 8 [(0, .ref 106), (2, .int l2), (3, .int l3)] [] SH RHO u := by
  unfold FX7_hearers_106_b8 at h
  refine w_iload_n 2 8 hX rfl rfl dX7_hearers_8 ?_
  refine w_bipush 12 9 hX ib_12 dX7_hearers_9 ?_
  refine w_icmp_ge (tgt := 74) 11 hX dX7_hearers_11 (by decide) (fun c1 => ?_) (fun c1 => ?_)
  · have h := it h c1
    refine w_iload_n 1 74 hX rfl rfl dX7_hearers_74 ?_
    exact w_iret 75 hX hR dX7_hearers_75 (by cases h; rfl)
  · have h := ie h c1
    refine w_iconst 0 14 hX ic_0 dX7_hearers_14 ?_
    refine w_istore (lv' := [(4, .int 0), (0, .ref 106), (2, .int l2), (3, .int l3)]) 15 hX dX7_hearers_15 (by decide) rfl ?_
    exact w_sub [1, 2, 3, 0] rfl (lX7_hearers_106_17 hX hR hk8 FU l2 l3 0 h)
def FX7_hearers_106_L8 : Nat → Int32 → Int32 → Mem → Option Int32
  | 0, _, _, _ => none
  | n + 1, l2, l3, u => FX7_hearers_106_b8 (FX7_hearers_106_L8 n) l2 l3 u
theorem lX7_hearers_106_8 {G : Gt} {X : Xt} {v : Int32} {u : Mem} (hX : CxOk G X cX7_hearers 5 RX7 (some (.int v), SH, RHO, u) 3) (hR : CxRet G X (some .int) (some (.int v), SH, RHO, u)) : ∀ (n : Nat) (l2 l3 : Int32), FX7_hearers_106_L8 n l2 l3 u = some v → WM G X 8 [(0, .ref 106), (2, .int l2), (3, .int l3)] [] SH RHO u := by
  intro n
  induction n with
  | zero =>
    intro l2 l3 h
    exact nn_ h
  | succ n ih =>
    intro l2 l3 h
    exact bX7_hearers_106_8 hX hR ih l2 l3 h
def FX7_hearers_106 (p1 : Int32) (u : Mem) : Option Int32 :=
  (FX7_knowers_106 p1 u).bind fun x1 => FX7_hearers_106_L8 FU x1 0 u
theorem CX7_hearers_106 {G : Gt} (p1 : Int32) (u : Mem) {v : Int32} (h : FX7_hearers_106 p1 u = some v) : CT G yX7_hearers cX7_hearers 5 (some .int) 3 [.ref 106, .int p1] SH RHO u (some (.int v), SH, RHO, u) :=
  ct_of (by decide) rfl (Nat.le_of_ble_eq_true rfl) (Nat.le_refl _) (Nat.le_refl _) (fun X hX hR => by
  unfold FX7_hearers_106 at h
  refine w_aload_n 0 0 hX rfl rfl dX7_hearers_0 ?_
  refine w_iload_n 1 1 hX rfl rfl dX7_hearers_1 ?_
  obtain ⟨x1, gx1, h⟩ := o_bind h
  refine w_invVi (av := [.int p1]) (st := []) 2 hX CI_7 s_106 rfl mv_yX7_knowers mi_yX7_knowers ml_X7_63 (CX7_knowers_106 p1 u gx1) rfl (by decide) (Nat.le_of_ble_eq_true rfl) (Nat.le_refl _) (Nat.le_refl _) dX7_hearers_2 ?_
  refine w_istore_n (lv' := [(2, .int x1), (0, .ref 106), (1, .int p1)]) 5 hX rfl dX7_hearers_5 (by decide) rfl ?_
  refine w_iconst 0 6 hX ic_0 dX7_hearers_6 ?_
  refine w_istore_n (lv' := [(3, .int 0), (2, .int x1), (0, .ref 106), (1, .int p1)]) 7 hX rfl dX7_hearers_7 (by decide) rfl ?_
  exact w_sub [2, 1, 0] rfl (lX7_hearers_106_8 hX hR FU x1 0 h))
def FX11_hears_0 (p1 : Int32) (u : Mem) : Option Int32 :=
  (FX11_isFact p1).bind fun x1 => (if x1 = 0 then (some (-1)) else ((FX7_hearers_106 p1 u).bind fun x3 => some x3))
theorem CX11_hears_0 {G : Gt} (p1 : Int32) (u : Mem) {v : Int32} (h : FX11_hears_0 p1 u = some v) : CT G yX11_hears cX11_hears 2 (some .int) 4 [.ref 0, .int p1] SH RHO u (some (.int v), SH, RHO, u) :=
  ct_of (by decide) rfl (Nat.le_of_ble_eq_true rfl) (Nat.le_refl _) (Nat.le_refl _) (fun X hX hR => by
  unfold FX11_hears_0 at h
  refine w_iload_n 1 0 hX rfl rfl dX11_hears_0 ?_
  obtain ⟨x1, gx1, h⟩ := o_bind h
  refine w_invSi (av := [.int p1]) (st := []) 1 hX ms_yX11_isFact mi_yX11_isFact ml_X11_128 (CX11_isFact p1 u gx1) rfl (by decide) (Nat.le_of_ble_eq_true rfl) (Nat.le_refl _) (Nat.le_refl _) dX11_hears_1 ?_
  refine w_if_eq (tgt := 18) 4 hX dX11_hears_4 (by decide) (fun c2 => ?_) (fun c2 => ?_)
  · have h := it h c2
    refine w_iconst (-1) 18 hX ic_m1 dX11_hears_18 ?_
    exact w_iret 19 hX hR dX11_hears_19 (by cases h; rfl)
  · have h := ie h c2
    refine w_aload_n 0 7 hX rfl rfl dX11_hears_7 ?_
    refine w_getR 8 hX CI_11 s_0 rfl r_0_7 fl_X11_67 rfl dX11_hears_8 ?_
    refine w_iload_n 1 11 hX rfl rfl dX11_hears_11 ?_
    obtain ⟨x3, gx3, h⟩ := o_bind h
    refine w_invVi (av := [.int p1]) (st := []) 12 hX CI_7 s_106 rfl mv_yX7_hearers mi_yX7_hearers ml_X11_228 (CX7_hearers_106 p1 u gx3) rfl (by decide) (Nat.le_of_ble_eq_true rfl) (Nat.le_refl _) (Nat.le_refl _) dX11_hears_12 ?_
    refine w_goto (tgt := 19) 15 hX (by decide) dX11_hears_15 ?_
    exact w_iret 19 hX hR dX11_hears_19 (by cases h; rfl))
def FX12_knowers_146_b4 (k4 : Int32 → Int32 → Int32 → Mem → Option Int32) (l1 l2 l3 : Int32) (u : Mem) : Option Int32 :=
  (if (u 147 78) ≤ l3 then (some l2) else ((rdA u 147 1786 (16 + l3)).bind fun x2 => k4 l1 (l2 ||| (((x2 >>> (l1 &&& 31)) &&& 1) <<< (l3 &&& 31))) (l3 + 1) u))
theorem bX12_knowers_146_4 {G : Gt} {X : Xt} {v : Int32} {u : Mem} (hX : CxOk G X cX12_knowers 4 RX12 (some (.int v), SH, RHO, u) 1) (hR : CxRet G X (some .int) (some (.int v), SH, RHO, u)) {k4 : Int32 → Int32 → Int32 → Mem → Option Int32} (hk4 : ∀ (l1 l2 l3 : Int32), k4 l1 l2 l3 u = some v → WM G X 4 [(0, .ref 146), (1, .int l1), (2, .int l2), (3, .int l3)] [] SH RHO u) (l1 l2 l3 : Int32) (h : FX12_knowers_146_b4 k4 l1 l2 l3 u = some v) : WM G X 4 [(0, .ref 146), (1, .int l1), (2, .int l2), (3, .int l3)] [] SH RHO u := by
  unfold FX12_knowers_146_b4 at h
  refine w_iload_n 3 4 hX rfl rfl dX12_knowers_4 ?_
  refine w_aload_n 0 5 hX rfl rfl dX12_knowers_5 ?_
  refine w_getR 6 hX CI_12 s_146 rfl r_146_0 fl_X12_7 rfl dX12_knowers_6 ?_
  refine w_bipush 78 9 hX ib_78 dX12_knowers_9 ?_
  refine w_iald 11 hX s_147 (rdK 78 78 n_78 (by decide) (by decide)) dX12_knowers_11 ?_
  refine w_icmp_ge (tgt := 39) 12 hX dX12_knowers_12 (by decide) (fun c1 => ?_) (fun c1 => ?_)
  · have h := it h c1
    refine w_iload_n 2 39 hX rfl rfl dX12_knowers_39 ?_
    exact w_iret 40 hX hR dX12_knowers_40 (by cases h; rfl)
  · have h := ie h c1
    refine w_iload_n 2 15 hX rfl rfl dX12_knowers_15 ?_
    refine w_aload_n 0 16 hX rfl rfl dX12_knowers_16 ?_
    refine w_getR 17 hX CI_12 s_146 rfl r_146_0 fl_X12_7 rfl dX12_knowers_17 ?_
    refine w_bipush 16 20 hX ib_16 dX12_knowers_20 ?_
    refine w_iload_n 3 22 hX rfl rfl dX12_knowers_22 ?_
    refine w_iadd 23 hX dX12_knowers_23 ?_
    obtain ⟨x2, gx2, h⟩ := o_bind h
    refine w_iald 24 hX s_147 gx2 dX12_knowers_24 ?_
    refine w_iload_n 1 25 hX rfl rfl dX12_knowers_25 ?_
    refine w_ishr 26 hX dX12_knowers_26 ?_
    refine w_iconst 1 27 hX ic_1 dX12_knowers_27 ?_
    refine w_iand 28 hX dX12_knowers_28 ?_
    refine w_iload_n 3 29 hX rfl rfl dX12_knowers_29 ?_
    refine w_ishl 30 hX dX12_knowers_30 ?_
    refine w_ior 31 hX dX12_knowers_31 ?_
    refine w_istore_n (lv' := [(2, .int (l2 ||| (((x2 >>> (l1 &&& 31)) &&& 1) <<< (l3 &&& 31)))), (0, .ref 146), (1, .int l1), (3, .int l3)]) 32 hX rfl dX12_knowers_32 (by decide) rfl ?_
    refine w_iinc (lv' := [(3, .int (l3 + 1)), (2, .int (l2 ||| (((x2 >>> (l1 &&& 31)) &&& 1) <<< (l3 &&& 31)))), (0, .ref 146), (1, .int l1)]) 33 3 hX dX12_knowers_33 rfl (inc_1 _) (by decide) rfl ?_
    refine w_goto (tgt := 4) 36 hX (by decide) dX12_knowers_36 ?_
    exact w_sub [2, 3, 1, 0] rfl (hk4 l1 (l2 ||| (((x2 >>> (l1 &&& 31)) &&& 1) <<< (l3 &&& 31))) (l3 + 1) h)
def FX12_knowers_146_L4 : Nat → Int32 → Int32 → Int32 → Mem → Option Int32
  | 0, _, _, _, _ => none
  | n + 1, l1, l2, l3, u => FX12_knowers_146_b4 (FX12_knowers_146_L4 n) l1 l2 l3 u
theorem lX12_knowers_146_4 {G : Gt} {X : Xt} {v : Int32} {u : Mem} (hX : CxOk G X cX12_knowers 4 RX12 (some (.int v), SH, RHO, u) 1) (hR : CxRet G X (some .int) (some (.int v), SH, RHO, u)) : ∀ (n : Nat) (l1 l2 l3 : Int32), FX12_knowers_146_L4 n l1 l2 l3 u = some v → WM G X 4 [(0, .ref 146), (1, .int l1), (2, .int l2), (3, .int l3)] [] SH RHO u := by
  intro n
  induction n with
  | zero =>
    intro l1 l2 l3 h
    exact nn_ h
  | succ n ih =>
    intro l1 l2 l3 h
    exact bX12_knowers_146_4 hX hR ih l1 l2 l3 h
def FX12_knowers_146 (p1 : Int32) (u : Mem) : Option Int32 :=
  FX12_knowers_146_L4 FU p1 0 0 u
theorem CX12_knowers_146 {G : Gt} (p1 : Int32) (u : Mem) {v : Int32} (h : FX12_knowers_146 p1 u = some v) : CT G yX12_knowers cX12_knowers 4 (some .int) 1 [.ref 146, .int p1] SH RHO u (some (.int v), SH, RHO, u) :=
  ct_of (by decide) rfl (Nat.le_of_ble_eq_true rfl) (Nat.le_refl _) (Nat.le_refl _) (fun X hX hR => by
  unfold FX12_knowers_146 at h
  refine w_iconst 0 0 hX ic_0 dX12_knowers_0 ?_
  refine w_istore_n (lv' := [(2, .int 0), (0, .ref 146), (1, .int p1)]) 1 hX rfl dX12_knowers_1 (by decide) rfl ?_
  refine w_iconst 0 2 hX ic_0 dX12_knowers_2 ?_
  refine w_istore_n (lv' := [(3, .int 0), (2, .int 0), (0, .ref 146), (1, .int p1)]) 3 hX rfl dX12_knowers_3 (by decide) rfl ?_
  exact w_sub [2, 3, 1, 0] rfl (lX12_knowers_146_4 hX hR FU p1 0 0 h))
def FX12_hears_146_b62 (k29 : Int32 → Int32 → Int32 → Mem → Option Int32) (l3 l4 t0 t1 : Int32) (u : Mem) : Option Int32 :=
  k29 (t0 ||| t1) l3 (l4 + 1) u
theorem bX12_hears_146_62 {G : Gt} {X : Xt} {v : Int32} {u : Mem} (hX : CxOk G X cX12_hears 5 RX12 (some (.int v), SH, RHO, u) 2) (hR : CxRet G X (some .int) (some (.int v), SH, RHO, u)) {k29 : Int32 → Int32 → Int32 → Mem → Option Int32} (hk29 : ∀ (l2 l3 l4 : Int32), k29 l2 l3 l4 u = some v → WM G X 29 [(0, .ref 146), (2, .int l2), (3, .int l3), (4, .int l4)] [] SH RHO u) (l3 l4 t0 t1 : Int32) (h : FX12_hears_146_b62 k29 l3 l4 t0 t1 u = some v) : WM G X 62 [(0, .ref 146), (3, .int l3), (4, .int l4)] [.int t1, .int t0] SH RHO u := by
  unfold FX12_hears_146_b62 at h
  refine w_ior 62 hX dX12_hears_62 ?_
  refine w_istore_n (lv' := [(2, .int (t0 ||| t1)), (0, .ref 146), (3, .int l3), (4, .int l4)]) 63 hX rfl dX12_hears_63 (by decide) rfl ?_
  refine w_iinc (lv' := [(4, .int (l4 + 1)), (2, .int (t0 ||| t1)), (0, .ref 146), (3, .int l3)]) 64 3 hX dX12_hears_64 rfl (inc_1 _) (by decide) rfl ?_
  refine w_goto (tgt := 29) 67 hX (by decide) dX12_hears_67 ?_
  exact w_sub [2, 1, 3, 0] rfl (hk29 (t0 ||| t1) l3 (l4 + 1) h)
def FX12_hears_146_b29 (k20 : Int32 → Int32 → Mem → Option Int32) (k29 : Int32 → Int32 → Int32 → Mem → Option Int32) (l2 l3 l4 : Int32) (u : Mem) : Option Int32 :=
  (if (u 147 78) ≤ l4 then (k20 l2 (l3 + 1) u) else ((if ((l2 >>> (l4 &&& 31)) &&& 1) = 1 then ((FX12_toldBy_146 l4 u).bind fun x3 => FX12_hears_146_b62 k29 l3 l4 l2 x3 u) else (FX12_hears_146_b62 k29 l3 l4 l2 0 u))))
theorem bX12_hears_146_29 {G : Gt} {X : Xt} {v : Int32} {u : Mem} (hX : CxOk G X cX12_hears 5 RX12 (some (.int v), SH, RHO, u) 2) (hR : CxRet G X (some .int) (some (.int v), SH, RHO, u)) {k20 : Int32 → Int32 → Mem → Option Int32} (hk20 : ∀ (l2 l3 : Int32), k20 l2 l3 u = some v → WM G X 20 [(0, .ref 146), (2, .int l2), (3, .int l3)] [] SH RHO u) {k29 : Int32 → Int32 → Int32 → Mem → Option Int32} (hk29 : ∀ (l2 l3 l4 : Int32), k29 l2 l3 l4 u = some v → WM G X 29 [(0, .ref 146), (2, .int l2), (3, .int l3), (4, .int l4)] [] SH RHO u) (l2 l3 l4 : Int32) (h : FX12_hears_146_b29 k20 k29 l2 l3 l4 u = some v) : WM G X 29 [(0, .ref 146), (2, .int l2), (3, .int l3), (4, .int l4)] [] SH RHO u := by
  unfold FX12_hears_146_b29 at h
  refine w_iload 3 29 hX rfl dX12_hears_29 ?_
  refine w_aload_n 0 31 hX rfl rfl dX12_hears_31 ?_
  refine w_getR 32 hX CI_12 s_146 rfl r_146_0 fl_X12_7 rfl dX12_hears_32 ?_
  refine w_bipush 78 35 hX ib_78 dX12_hears_35 ?_
  refine w_iald 37 hX s_147 (rdK 78 78 n_78 (by decide) (by decide)) dX12_hears_37 ?_
  refine w_icmp_ge (tgt := 70) 38 hX dX12_hears_38 (by decide) (fun c1 => ?_) (fun c1 => ?_)
  · have h := it h c1
    refine w_iinc (lv' := [(3, .int (l3 + 1)), (0, .ref 146), (2, .int l2), (4, .int l4)]) 70 2 hX dX12_hears_70 rfl (inc_1 _) (by decide) rfl ?_
    refine w_goto (tgt := 20) 73 hX (by decide) dX12_hears_73 ?_
    exact w_sub [1, 2, 0] rfl (hk20 l2 (l3 + 1) h)
  · have h := ie h c1
    refine w_iload_n 1 41 hX rfl rfl dX12_hears_41 ?_
    refine w_iload_n 1 42 hX rfl rfl dX12_hears_42 ?_
    refine w_iload 3 43 hX rfl dX12_hears_43 ?_
    refine w_ishr 45 hX dX12_hears_45 ?_
    refine w_iconst 1 46 hX ic_1 dX12_hears_46 ?_
    refine w_iand 47 hX dX12_hears_47 ?_
    refine w_iconst 1 48 hX ic_1 dX12_hears_48 ?_
    refine w_icmp_ne (tgt := 61) 49 hX dX12_hears_49 (by decide) (fun c2 => ?_) (fun c2 => ?_)
    · have h := ie h c2
      refine w_iconst 0 61 hX ic_0 dX12_hears_61 ?_
      exact w_sub [0, 2, 3] rfl (bX12_hears_146_62 hX hR hk29 l3 l4 l2 0 h)
    · have h := it h c2
      refine w_aload_n 0 52 hX rfl rfl dX12_hears_52 ?_
      refine w_iload 3 53 hX rfl dX12_hears_53 ?_
      obtain ⟨x3, gx3, h⟩ := o_bind h
      refine w_invVi (av := [.int l4]) (st := [.int l2]) 55 hX CI_12 s_146 rfl mv_yX12_toldBy mi_yX12_toldBy ml_X12_370 (CX12_toldBy_146 l4 u gx3) rfl (by decide) (Nat.le_of_ble_eq_true rfl) (Nat.le_refl _) (Nat.le_refl _) dX12_hears_55 ?_
      refine w_goto (tgt := 62) 58 hX (by decide) dX12_hears_58 ?_
      exact w_sub [0, 2, 3] rfl (bX12_hears_146_62 hX hR hk29 l3 l4 l2 x3 h)
def FX12_hears_146_L29 (k20 : Int32 → Int32 → Mem → Option Int32) : Nat → Int32 → Int32 → Int32 → Mem → Option Int32
  | 0, _, _, _, _ => none
  | n + 1, l2, l3, l4, u => FX12_hears_146_b29 k20 (FX12_hears_146_L29 k20 n) l2 l3 l4 u
theorem lX12_hears_146_29 {G : Gt} {X : Xt} {v : Int32} {u : Mem} (hX : CxOk G X cX12_hears 5 RX12 (some (.int v), SH, RHO, u) 2) (hR : CxRet G X (some .int) (some (.int v), SH, RHO, u)) {k20 : Int32 → Int32 → Mem → Option Int32} (hk20 : ∀ (l2 l3 : Int32), k20 l2 l3 u = some v → WM G X 20 [(0, .ref 146), (2, .int l2), (3, .int l3)] [] SH RHO u) : ∀ (n : Nat) (l2 l3 l4 : Int32), FX12_hears_146_L29 k20 n l2 l3 l4 u = some v → WM G X 29 [(0, .ref 146), (2, .int l2), (3, .int l3), (4, .int l4)] [] SH RHO u := by
  intro n
  induction n with
  | zero =>
    intro l2 l3 l4 h
    exact nn_ h
  | succ n ih =>
    intro l2 l3 l4 h
    exact bX12_hears_146_29 hX hR hk20 ih l2 l3 l4 h
def FX12_hears_146_b20 (k20 : Int32 → Int32 → Mem → Option Int32) (l2 l3 : Int32) (u : Mem) : Option Int32 :=
  (if 12 ≤ l3 then (some l2) else (FX12_hears_146_L29 k20 FU l2 l3 0 u))
theorem bX12_hears_146_20 {G : Gt} {X : Xt} {v : Int32} {u : Mem} (hX : CxOk G X cX12_hears 5 RX12 (some (.int v), SH, RHO, u) 2) (hR : CxRet G X (some .int) (some (.int v), SH, RHO, u)) {k20 : Int32 → Int32 → Mem → Option Int32} (hk20 : ∀ (l2 l3 : Int32), k20 l2 l3 u = some v → WM G X 20 [(0, .ref 146), (2, .int l2), (3, .int l3)] [] SH RHO u) (l2 l3 : Int32) (h : FX12_hears_146_b20 k20 l2 l3 u = some v) : WM G X 20 [(0, .ref 146), (2, .int l2), (3, .int l3)] [] SH RHO u := by
  unfold FX12_hears_146_b20 at h
  refine w_iload_n 2 20 hX rfl rfl dX12_hears_20 ?_
  refine w_bipush 12 21 hX ib_12 dX12_hears_21 ?_
  refine w_icmp_ge (tgt := 76) 23 hX dX12_hears_23 (by decide) (fun c1 => ?_) (fun c1 => ?_)
  · have h := it h c1
    refine w_iload_n 1 76 hX rfl rfl dX12_hears_76 ?_
    exact w_iret 77 hX hR dX12_hears_77 (by cases h; rfl)
  · have h := ie h c1
    refine w_iconst 0 26 hX ic_0 dX12_hears_26 ?_
    refine w_istore (lv' := [(4, .int 0), (0, .ref 146), (2, .int l2), (3, .int l3)]) 27 hX dX12_hears_27 (by decide) rfl ?_
    exact w_sub [1, 2, 3, 0] rfl (lX12_hears_146_29 hX hR hk20 FU l2 l3 0 h)
def FX12_hears_146_L20 : Nat → Int32 → Int32 → Mem → Option Int32
  | 0, _, _, _ => none
  | n + 1, l2, l3, u => FX12_hears_146_b20 (FX12_hears_146_L20 n) l2 l3 u
theorem lX12_hears_146_20 {G : Gt} {X : Xt} {v : Int32} {u : Mem} (hX : CxOk G X cX12_hears 5 RX12 (some (.int v), SH, RHO, u) 2) (hR : CxRet G X (some .int) (some (.int v), SH, RHO, u)) : ∀ (n : Nat) (l2 l3 : Int32), FX12_hears_146_L20 n l2 l3 u = some v → WM G X 20 [(0, .ref 146), (2, .int l2), (3, .int l3)] [] SH RHO u := by
  intro n
  induction n with
  | zero =>
    intro l2 l3 h
    exact nn_ h
  | succ n ih =>
    intro l2 l3 h
    exact bX12_hears_146_20 hX hR ih l2 l3 h
def FX12_hears_146 (p1 : Int32) (u : Mem) : Option Int32 :=
  (FX12_isIn p1 0 7).bind fun x1 => (if x1 = 0 then (some (-1)) else ((FX12_knowers_146 p1 u).bind fun x3 => FX12_hears_146_L20 FU x3 0 u))
theorem CX12_hears_146 {G : Gt} (p1 : Int32) (u : Mem) {v : Int32} (h : FX12_hears_146 p1 u = some v) : CT G yX12_hears cX12_hears 5 (some .int) 2 [.ref 146, .int p1] SH RHO u (some (.int v), SH, RHO, u) :=
  ct_of (by decide) rfl (Nat.le_of_ble_eq_true rfl) (Nat.le_refl _) (Nat.le_refl _) (fun X hX hR => by
  unfold FX12_hears_146 at h
  refine w_iload_n 1 0 hX rfl rfl dX12_hears_0 ?_
  refine w_iconst 0 1 hX ic_0 dX12_hears_1 ?_
  refine w_bipush 7 2 hX ib_7 dX12_hears_2 ?_
  obtain ⟨x1, gx1, h⟩ := o_bind h
  refine w_invSi (av := [.int p1, .int 0, .int 7]) (st := []) 4 hX ms_yX12_isIn mi_yX12_isIn ml_X12_54 (CX12_isIn p1 0 7 u gx1) rfl (by decide) (Nat.le_of_ble_eq_true rfl) (Nat.le_refl _) (Nat.le_refl _) dX12_hears_4 ?_
  refine w_if_ne (tgt := 12) 7 hX dX12_hears_7 (by decide) (fun c2 => ?_) (fun c2 => ?_)
  · have h := ie h c2
    refine w_aload_n 0 12 hX rfl rfl dX12_hears_12 ?_
    refine w_iload_n 1 13 hX rfl rfl dX12_hears_13 ?_
    obtain ⟨x3, gx3, h⟩ := o_bind h
    refine w_invVi (av := [.int p1]) (st := []) 14 hX CI_12 s_146 rfl mv_yX12_knowers mi_yX12_knowers ml_X12_424 (CX12_knowers_146 p1 u gx3) rfl (by decide) (Nat.le_of_ble_eq_true rfl) (Nat.le_refl _) (Nat.le_refl _) dX12_hears_14 ?_
    refine w_istore_n (lv' := [(2, .int x3), (0, .ref 146), (1, .int p1)]) 17 hX rfl dX12_hears_17 (by decide) rfl ?_
    refine w_iconst 0 18 hX ic_0 dX12_hears_18 ?_
    refine w_istore_n (lv' := [(3, .int 0), (2, .int x3), (0, .ref 146), (1, .int p1)]) 19 hX rfl dX12_hears_19 (by decide) rfl ?_
    exact w_sub [2, 1, 0] rfl (lX12_hears_146_20 hX hR FU x3 0 h)
  · have h := it h c2
    refine w_iconst (-1) 10 hX ic_m1 dX12_hears_10 ?_
    exact w_iret 11 hX hR dX12_hears_11 (by cases h; rfl))
def FX7_findWay_106_b189 (l2 l3 : Int32) (u : Mem) : Option (Int32 × Mem) :=
  (FX11_holds l3 l2).bind fun x1 => (bchk x1).bind fun x2 => some (x2, u)
theorem bX7_findWay_106_189 {G : Gt} {X : Xt} {v : Int32} {u' : Mem} (hX : CxOk G X cX7_findWay 9 RX7 (some (.int v), SH, RHO, u') 2) (hR : CxRet G X (some .boolean) (some (.int v), SH, RHO, u')) (l2 l3 : Int32) (u : Mem) (h : FX7_findWay_106_b189 l2 l3 u = some (v, u')) : WM G X 189 [(2, .int l2), (3, .int l3)] [] SH RHO u := by
  unfold FX7_findWay_106_b189 at h
  refine w_iload_n 1 189 hX rfl rfl dX7_findWay_189 ?_
  refine w_iload_n 0 190 hX rfl rfl dX7_findWay_190 ?_
  obtain ⟨x1, gx1, h⟩ := o_bind h
  refine w_invSNi (av := [.int l3, .int l2]) (st := []) 191 hX ms_yX11_holds mi_yX11_holds ml_X7_59 (CX11_holds l3 l2 u gx1) rfl (by decide) (Nat.le_of_ble_eq_true rfl) (Nat.le_refl _) (Nat.le_refl _) dX7_findWay_191 ?_
  obtain ⟨x2, gx2, h⟩ := o_bind h
  obtain ⟨jx2, nx2, mx2⟩ := bchk_ok gx2
  rw [jx2]
  exact w_zret 194 hX hR nx2 dX7_findWay_194 (by cases h; rfl)
def FX7_findWay_106_b177 (k86 : Int32 → Int32 → Int32 → Int32 → Int32 → Int32 → Mem → Option (Int32 × Mem)) (l2 l3 l4 l5 l6 l7 : Int32) (u : Mem) : Option (Int32 × Mem) :=
  k86 l2 l3 l4 l5 l6 (l7 + 1) u
theorem bX7_findWay_106_177 {G : Gt} {X : Xt} {v : Int32} {u' : Mem} (hX : CxOk G X cX7_findWay 9 RX7 (some (.int v), SH, RHO, u') 2) (hR : CxRet G X (some .boolean) (some (.int v), SH, RHO, u')) {k86 : Int32 → Int32 → Int32 → Int32 → Int32 → Int32 → Mem → Option (Int32 × Mem)} (hk86 : ∀ (l2 l3 l4 l5 l6 l7 : Int32) (u : Mem), k86 l2 l3 l4 l5 l6 l7 u = some (v, u') → WM G X 86 [(0, .ref 106), (2, .int l2), (3, .int l3), (4, .int l4), (5, .int l5), (6, .int l6), (7, .int l7)] [] SH RHO u) (l2 l3 l4 l5 l6 l7 : Int32) (u : Mem) (h : FX7_findWay_106_b177 k86 l2 l3 l4 l5 l6 l7 u = some (v, u')) : WM G X 177 [(0, .ref 106), (2, .int l2), (3, .int l3), (4, .int l4), (5, .int l5), (6, .int l6), (7, .int l7)] [] SH RHO u := by
  unfold FX7_findWay_106_b177 at h
  refine w_iinc (lv' := [(7, .int (l7 + 1)), (0, .ref 106), (2, .int l2), (3, .int l3), (4, .int l4), (5, .int l5), (6, .int l6)]) 177 6 hX dX7_findWay_177 rfl (inc_1 _) (by decide) rfl ?_
  refine w_goto (tgt := 86) 180 hX (by decide) dX7_findWay_180 ?_
  exact w_sub [1, 2, 3, 4, 5, 6, 0] rfl (hk86 l2 l3 l4 l5 l6 (l7 + 1) u h)
def FX7_findWay_106_b126 (k86 : Int32 → Int32 → Int32 → Int32 → Int32 → Int32 → Mem → Option (Int32 × Mem)) (l2 l3 l4 l5 l6 l7 t0 : Int32) (u : Mem) : Option (Int32 × Mem) :=
  (if t0 = 0 then (FX7_findWay_106_b177 k86 l2 l3 l4 l5 l6 l7 u) else ((FX11_holds l3 l7).bind fun x2 => (if x2 = 0 then ((if 12 ≤ l4 then (FX7_findWay_106_b177 k86 l2 l3 l4 l5 l6 l7 u) else ((wrA u 108 12 l7 l6).bind fun u5 => (wrA u5 109 12 l4 l7).bind fun u6 => FX7_findWay_106_b177 k86 l2 (l3 ||| ((1 : Int32) <<< (l7 &&& 31))) (l4 + 1) l5 l6 l7 u6))) else (FX7_findWay_106_b177 k86 l2 l3 l4 l5 l6 l7 u))))
theorem bX7_findWay_106_126 {G : Gt} {X : Xt} {v : Int32} {u' : Mem} (hX : CxOk G X cX7_findWay 9 RX7 (some (.int v), SH, RHO, u') 2) (hR : CxRet G X (some .boolean) (some (.int v), SH, RHO, u')) {k86 : Int32 → Int32 → Int32 → Int32 → Int32 → Int32 → Mem → Option (Int32 × Mem)} (hk86 : ∀ (l2 l3 l4 l5 l6 l7 : Int32) (u : Mem), k86 l2 l3 l4 l5 l6 l7 u = some (v, u') → WM G X 86 [(0, .ref 106), (2, .int l2), (3, .int l3), (4, .int l4), (5, .int l5), (6, .int l6), (7, .int l7)] [] SH RHO u) (l2 l3 l4 l5 l6 l7 t0 : Int32) (u : Mem) (h : FX7_findWay_106_b126 k86 l2 l3 l4 l5 l6 l7 t0 u = some (v, u')) : WM G X 126 [(0, .ref 106), (2, .int l2), (3, .int l3), (4, .int l4), (5, .int l5), (6, .int l6), (7, .int l7)] [.int t0] SH RHO u := by
  unfold FX7_findWay_106_b126 at h
  refine w_istore (lv' := [(8, .int t0), (0, .ref 106), (2, .int l2), (3, .int l3), (4, .int l4), (5, .int l5), (6, .int l6), (7, .int l7)]) 126 hX dX7_findWay_126 (by decide) rfl ?_
  refine w_iload 0 128 hX rfl dX7_findWay_128 ?_
  refine w_if_eq (tgt := 177) 130 hX dX7_findWay_130 (by decide) (fun c1 => ?_) (fun c1 => ?_)
  · have h := it h c1
    exact w_sub [1, 2, 3, 4, 5, 6, 7] rfl (bX7_findWay_106_177 hX hR hk86 l2 l3 l4 l5 l6 l7 u h)
  · have h := ie h c1
    refine w_iload_n 3 133 hX rfl rfl dX7_findWay_133 ?_
    refine w_iload 7 134 hX rfl dX7_findWay_134 ?_
    obtain ⟨x2, gx2, h⟩ := o_bind h
    refine w_invSNi (av := [.int l3, .int l7]) (st := []) 136 hX ms_yX11_holds mi_yX11_holds ml_X7_59 (CX11_holds l3 l7 u gx2) rfl (by decide) (Nat.le_of_ble_eq_true rfl) (Nat.le_refl _) (Nat.le_refl _) dX7_findWay_136 ?_
    refine w_if_ne (tgt := 177) 139 hX dX7_findWay_139 (by decide) (fun c3 => ?_) (fun c3 => ?_)
    · have h := ie h c3
      exact w_sub [1, 2, 3, 4, 5, 6, 7] rfl (bX7_findWay_106_177 hX hR hk86 l2 l3 l4 l5 l6 l7 u h)
    · have h := it h c3
      refine w_iload 4 142 hX rfl dX7_findWay_142 ?_
      refine w_bipush 12 144 hX ib_12 dX7_findWay_144 ?_
      refine w_icmp_ge (tgt := 177) 146 hX dX7_findWay_146 (by decide) (fun c4 => ?_) (fun c4 => ?_)
      · have h := it h c4
        exact w_sub [1, 2, 3, 4, 5, 6, 7] rfl (bX7_findWay_106_177 hX hR hk86 l2 l3 l4 l5 l6 l7 u h)
      · have h := ie h c4
        refine w_iload_n 3 149 hX rfl rfl dX7_findWay_149 ?_
        refine w_iconst 1 150 hX ic_1 dX7_findWay_150 ?_
        refine w_iload 7 151 hX rfl dX7_findWay_151 ?_
        refine w_ishl 153 hX dX7_findWay_153 ?_
        refine w_ior 154 hX dX7_findWay_154 ?_
        refine w_istore_n (lv' := [(3, .int (l3 ||| ((1 : Int32) <<< (l7 &&& 31)))), (8, .int t0), (0, .ref 106), (2, .int l2), (4, .int l4), (5, .int l5), (6, .int l6), (7, .int l7)]) 155 hX rfl dX7_findWay_155 (by decide) rfl ?_
        refine w_aload_n 2 156 hX rfl rfl dX7_findWay_156 ?_
        refine w_getR 157 hX CI_7 s_106 rfl r_106_4 fl_X7_15 rfl dX7_findWay_157 ?_
        refine w_iload 7 160 hX rfl dX7_findWay_160 ?_
        refine w_iload 6 162 hX rfl dX7_findWay_162 ?_
        obtain ⟨u5, gu5, h⟩ := o_bind h
        refine w_iast 164 hX s_108 gu5 dX7_findWay_164 ?_
        refine w_aload_n 2 165 hX rfl rfl dX7_findWay_165 ?_
        refine w_getR 166 hX CI_7 s_106 rfl r_106_5 fl_X7_18 rfl dX7_findWay_166 ?_
        refine w_iload 4 169 hX rfl dX7_findWay_169 ?_
        refine w_iload 7 171 hX rfl dX7_findWay_171 ?_
        obtain ⟨u6, gu6, h⟩ := o_bind h
        refine w_iast 173 hX s_109 gu6 dX7_findWay_173 ?_
        refine w_iinc (lv' := [(4, .int (l4 + 1)), (3, .int (l3 ||| ((1 : Int32) <<< (l7 &&& 31)))), (8, .int t0), (0, .ref 106), (2, .int l2), (5, .int l5), (6, .int l6), (7, .int l7)]) 174 4 hX dX7_findWay_174 rfl (inc_1 _) (by decide) rfl ?_
        exact w_sub [3, 4, 1, 0, 5, 6, 7] rfl (bX7_findWay_106_177 hX hR hk86 l2 (l3 ||| ((1 : Int32) <<< (l7 &&& 31))) (l4 + 1) l5 l6 l7 u6 h)
def FX7_findWay_106_b86 (k60 : Int32 → Int32 → Int32 → Int32 → Mem → Option (Int32 × Mem)) (k86 : Int32 → Int32 → Int32 → Int32 → Int32 → Int32 → Mem → Option (Int32 × Mem)) (l2 l3 l4 l5 l6 l7 : Int32) (u : Mem) : Option (Int32 × Mem) :=
  (if 12 ≤ l7 then (k60 l2 l3 l4 (l5 + 1) u) else ((if l6 < 0 then (FX7_findWay_106_b126 k86 l2 l3 l4 l5 l6 l7 0 u) else ((if 12 ≤ l6 then (FX7_findWay_106_b126 k86 l2 l3 l4 l5 l6 l7 0 u) else ((rdA u 107 144 ((l6 * 12) + l7)).bind fun x4 => (if x4 ≤ 0 then (FX7_findWay_106_b126 k86 l2 l3 l4 l5 l6 l7 0 u) else (FX7_findWay_106_b126 k86 l2 l3 l4 l5 l6 l7 1 u))))))))
theorem bX7_findWay_106_86 {G : Gt} {X : Xt} {v : Int32} {u' : Mem} (hX : CxOk G X cX7_findWay 9 RX7 (some (.int v), SH, RHO, u') 2) (hR : CxRet G X (some .boolean) (some (.int v), SH, RHO, u')) {k60 : Int32 → Int32 → Int32 → Int32 → Mem → Option (Int32 × Mem)} (hk60 : ∀ (l2 l3 l4 l5 : Int32) (u : Mem), k60 l2 l3 l4 l5 u = some (v, u') → WM G X 60 [(0, .ref 106), (2, .int l2), (3, .int l3), (4, .int l4), (5, .int l5)] [] SH RHO u) {k86 : Int32 → Int32 → Int32 → Int32 → Int32 → Int32 → Mem → Option (Int32 × Mem)} (hk86 : ∀ (l2 l3 l4 l5 l6 l7 : Int32) (u : Mem), k86 l2 l3 l4 l5 l6 l7 u = some (v, u') → WM G X 86 [(0, .ref 106), (2, .int l2), (3, .int l3), (4, .int l4), (5, .int l5), (6, .int l6), (7, .int l7)] [] SH RHO u) (l2 l3 l4 l5 l6 l7 : Int32) (u : Mem) (h : FX7_findWay_106_b86 k60 k86 l2 l3 l4 l5 l6 l7 u = some (v, u')) : WM G X 86 [(0, .ref 106), (2, .int l2), (3, .int l3), (4, .int l4), (5, .int l5), (6, .int l6), (7, .int l7)] [] SH RHO u := by
  unfold FX7_findWay_106_b86 at h
  refine w_iload 6 86 hX rfl dX7_findWay_86 ?_
  refine w_bipush 12 88 hX ib_12 dX7_findWay_88 ?_
  refine w_icmp_ge (tgt := 183) 90 hX dX7_findWay_90 (by decide) (fun c1 => ?_) (fun c1 => ?_)
  · have h := it h c1
    refine w_iinc (lv' := [(5, .int (l5 + 1)), (0, .ref 106), (2, .int l2), (3, .int l3), (4, .int l4), (6, .int l6), (7, .int l7)]) 183 4 hX dX7_findWay_183 rfl (inc_1 _) (by decide) rfl ?_
    refine w_goto (tgt := 60) 186 hX (by decide) dX7_findWay_186 ?_
    exact w_sub [1, 2, 3, 4, 0] rfl (hk60 l2 l3 l4 (l5 + 1) u h)
  · have h := ie h c1
    refine w_iload 5 93 hX rfl dX7_findWay_93 ?_
    refine w_if_lt (tgt := 125) 95 hX dX7_findWay_95 (by decide) (fun c2 => ?_) (fun c2 => ?_)
    · have h := it h c2
      refine w_iconst 0 125 hX ic_0 dX7_findWay_125 ?_
      exact bX7_findWay_106_126 hX hR hk86 l2 l3 l4 l5 l6 l7 0 u h
    · have h := ie h c2
      refine w_iload 5 98 hX rfl dX7_findWay_98 ?_
      refine w_bipush 12 100 hX ib_12 dX7_findWay_100 ?_
      refine w_icmp_ge (tgt := 125) 102 hX dX7_findWay_102 (by decide) (fun c3 => ?_) (fun c3 => ?_)
      · have h := it h c3
        refine w_iconst 0 125 hX ic_0 dX7_findWay_125 ?_
        exact bX7_findWay_106_126 hX hR hk86 l2 l3 l4 l5 l6 l7 0 u h
      · have h := ie h c3
        refine w_aload_n 0 105 hX rfl rfl dX7_findWay_105 ?_
        refine w_getR 106 hX CI_7 s_106 rfl r_106_3 fl_X7_9 rfl dX7_findWay_106 ?_
        refine w_iload 5 109 hX rfl dX7_findWay_109 ?_
        refine w_bipush 12 111 hX ib_12 dX7_findWay_111 ?_
        refine w_imul 113 hX dX7_findWay_113 ?_
        refine w_iload 6 114 hX rfl dX7_findWay_114 ?_
        refine w_iadd 116 hX dX7_findWay_116 ?_
        obtain ⟨x4, gx4, h⟩ := o_bind h
        refine w_iald 117 hX s_107 gx4 dX7_findWay_117 ?_
        refine w_if_le (tgt := 125) 118 hX dX7_findWay_118 (by decide) (fun c5 => ?_) (fun c5 => ?_)
        · have h := it h c5
          refine w_iconst 0 125 hX ic_0 dX7_findWay_125 ?_
          exact bX7_findWay_106_126 hX hR hk86 l2 l3 l4 l5 l6 l7 0 u h
        · have h := ie h c5
          refine w_iconst 1 121 hX ic_1 dX7_findWay_121 ?_
          refine w_goto (tgt := 126) 122 hX (by decide) dX7_findWay_122 ?_
          exact bX7_findWay_106_126 hX hR hk86 l2 l3 l4 l5 l6 l7 1 u h
def FX7_findWay_106_L86 (k60 : Int32 → Int32 → Int32 → Int32 → Mem → Option (Int32 × Mem)) : Nat → Int32 → Int32 → Int32 → Int32 → Int32 → Int32 → Mem → Option (Int32 × Mem)
  | 0, _, _, _, _, _, _, _ => none
  | n + 1, l2, l3, l4, l5, l6, l7, u => FX7_findWay_106_b86 k60 (FX7_findWay_106_L86 k60 n) l2 l3 l4 l5 l6 l7 u
theorem lX7_findWay_106_86 {G : Gt} {X : Xt} {v : Int32} {u' : Mem} (hX : CxOk G X cX7_findWay 9 RX7 (some (.int v), SH, RHO, u') 2) (hR : CxRet G X (some .boolean) (some (.int v), SH, RHO, u')) {k60 : Int32 → Int32 → Int32 → Int32 → Mem → Option (Int32 × Mem)} (hk60 : ∀ (l2 l3 l4 l5 : Int32) (u : Mem), k60 l2 l3 l4 l5 u = some (v, u') → WM G X 60 [(0, .ref 106), (2, .int l2), (3, .int l3), (4, .int l4), (5, .int l5)] [] SH RHO u) : ∀ (n : Nat) (l2 l3 l4 l5 l6 l7 : Int32) (u : Mem), FX7_findWay_106_L86 k60 n l2 l3 l4 l5 l6 l7 u = some (v, u') → WM G X 86 [(0, .ref 106), (2, .int l2), (3, .int l3), (4, .int l4), (5, .int l5), (6, .int l6), (7, .int l7)] [] SH RHO u := by
  intro n
  induction n with
  | zero =>
    intro l2 l3 l4 l5 l6 l7 u h
    exact nn_ h
  | succ n ih =>
    intro l2 l3 l4 l5 l6 l7 u h
    exact bX7_findWay_106_86 hX hR hk60 ih l2 l3 l4 l5 l6 l7 u h
def FX7_findWay_106_b60 (k60 : Int32 → Int32 → Int32 → Int32 → Mem → Option (Int32 × Mem)) (l2 l3 l4 l5 : Int32) (u : Mem) : Option (Int32 × Mem) :=
  (if l4 ≤ l5 then (FX7_findWay_106_b189 l2 l3 u) else ((if 12 ≤ l5 then (FX7_findWay_106_b189 l2 l3 u) else ((rdA u 109 12 l5).bind fun x3 => FX7_findWay_106_L86 k60 FU l2 l3 l4 l5 x3 0 u))))
theorem bX7_findWay_106_60 {G : Gt} {X : Xt} {v : Int32} {u' : Mem} (hX : CxOk G X cX7_findWay 9 RX7 (some (.int v), SH, RHO, u') 2) (hR : CxRet G X (some .boolean) (some (.int v), SH, RHO, u')) {k60 : Int32 → Int32 → Int32 → Int32 → Mem → Option (Int32 × Mem)} (hk60 : ∀ (l2 l3 l4 l5 : Int32) (u : Mem), k60 l2 l3 l4 l5 u = some (v, u') → WM G X 60 [(0, .ref 106), (2, .int l2), (3, .int l3), (4, .int l4), (5, .int l5)] [] SH RHO u) (l2 l3 l4 l5 : Int32) (u : Mem) (h : FX7_findWay_106_b60 k60 l2 l3 l4 l5 u = some (v, u')) : WM G X 60 [(0, .ref 106), (2, .int l2), (3, .int l3), (4, .int l4), (5, .int l5)] [] SH RHO u := by
  unfold FX7_findWay_106_b60 at h
  refine w_iload 4 60 hX rfl dX7_findWay_60 ?_
  refine w_iload 3 62 hX rfl dX7_findWay_62 ?_
  refine w_icmp_ge (tgt := 189) 64 hX dX7_findWay_64 (by decide) (fun c1 => ?_) (fun c1 => ?_)
  · have h := it h c1
    exact w_sub [1, 2] rfl (bX7_findWay_106_189 hX hR l2 l3 u h)
  · have h := ie h c1
    refine w_iload 4 67 hX rfl dX7_findWay_67 ?_
    refine w_bipush 12 69 hX ib_12 dX7_findWay_69 ?_
    refine w_icmp_ge (tgt := 189) 71 hX dX7_findWay_71 (by decide) (fun c2 => ?_) (fun c2 => ?_)
    · have h := it h c2
      exact w_sub [1, 2] rfl (bX7_findWay_106_189 hX hR l2 l3 u h)
    · have h := ie h c2
      refine w_aload_n 0 74 hX rfl rfl dX7_findWay_74 ?_
      refine w_getR 75 hX CI_7 s_106 rfl r_106_5 fl_X7_18 rfl dX7_findWay_75 ?_
      refine w_iload 4 78 hX rfl dX7_findWay_78 ?_
      obtain ⟨x3, gx3, h⟩ := o_bind h
      refine w_iald 80 hX s_109 gx3 dX7_findWay_80 ?_
      refine w_istore (lv' := [(6, .int x3), (0, .ref 106), (2, .int l2), (3, .int l3), (4, .int l4), (5, .int l5)]) 81 hX dX7_findWay_81 (by decide) rfl ?_
      refine w_iconst 0 83 hX ic_0 dX7_findWay_83 ?_
      refine w_istore (lv' := [(7, .int 0), (6, .int x3), (0, .ref 106), (2, .int l2), (3, .int l3), (4, .int l4), (5, .int l5)]) 84 hX dX7_findWay_84 (by decide) rfl ?_
      exact w_sub [2, 3, 4, 5, 6, 1, 0] rfl (lX7_findWay_106_86 hX hR hk60 FU l2 l3 l4 l5 x3 0 u h)
def FX7_findWay_106_L60 : Nat → Int32 → Int32 → Int32 → Int32 → Mem → Option (Int32 × Mem)
  | 0, _, _, _, _, _ => none
  | n + 1, l2, l3, l4, l5, u => FX7_findWay_106_b60 (FX7_findWay_106_L60 n) l2 l3 l4 l5 u
theorem lX7_findWay_106_60 {G : Gt} {X : Xt} {v : Int32} {u' : Mem} (hX : CxOk G X cX7_findWay 9 RX7 (some (.int v), SH, RHO, u') 2) (hR : CxRet G X (some .boolean) (some (.int v), SH, RHO, u')) : ∀ (n : Nat) (l2 l3 l4 l5 : Int32) (u : Mem), FX7_findWay_106_L60 n l2 l3 l4 l5 u = some (v, u') → WM G X 60 [(0, .ref 106), (2, .int l2), (3, .int l3), (4, .int l4), (5, .int l5)] [] SH RHO u := by
  intro n
  induction n with
  | zero =>
    intro l2 l3 l4 l5 u h
    exact nn_ h
  | succ n ih =>
    intro l2 l3 l4 l5 u h
    exact bX7_findWay_106_60 hX hR ih l2 l3 l4 l5 u h
def FX7_findWay_106_b51 (k8 : Int32 → Int32 → Int32 → Int32 → Int32 → Mem → Option (Int32 × Mem)) (l1 l2 l3 l4 l5 : Int32) (u : Mem) : Option (Int32 × Mem) :=
  k8 l1 l2 l3 l4 (l5 + 1) u
theorem bX7_findWay_106_51 {G : Gt} {X : Xt} {v : Int32} {u' : Mem} (hX : CxOk G X cX7_findWay 9 RX7 (some (.int v), SH, RHO, u') 2) (hR : CxRet G X (some .boolean) (some (.int v), SH, RHO, u')) {k8 : Int32 → Int32 → Int32 → Int32 → Int32 → Mem → Option (Int32 × Mem)} (hk8 : ∀ (l1 l2 l3 l4 l5 : Int32) (u : Mem), k8 l1 l2 l3 l4 l5 u = some (v, u') → WM G X 8 [(0, .ref 106), (1, .int l1), (2, .int l2), (3, .int l3), (4, .int l4), (5, .int l5)] [] SH RHO u) (l1 l2 l3 l4 l5 : Int32) (u : Mem) (h : FX7_findWay_106_b51 k8 l1 l2 l3 l4 l5 u = some (v, u')) : WM G X 51 [(0, .ref 106), (1, .int l1), (2, .int l2), (3, .int l3), (4, .int l4), (5, .int l5)] [] SH RHO u := by
  unfold FX7_findWay_106_b51 at h
  refine w_iinc (lv' := [(5, .int (l5 + 1)), (0, .ref 106), (1, .int l1), (2, .int l2), (3, .int l3), (4, .int l4)]) 51 5 hX dX7_findWay_51 rfl (inc_1 _) (by decide) rfl ?_
  refine w_goto (tgt := 8) 54 hX (by decide) dX7_findWay_54 ?_
  exact w_sub [1, 2, 3, 4, 5, 0] rfl (hk8 l1 l2 l3 l4 (l5 + 1) u h)
def FX7_findWay_106_b8 (k8 : Int32 → Int32 → Int32 → Int32 → Int32 → Mem → Option (Int32 × Mem)) (l1 l2 l3 l4 l5 : Int32) (u : Mem) : Option (Int32 × Mem) :=
  (if 12 ≤ l5 then (FX7_findWay_106_L60 FU l2 l3 l4 0 u) else ((wrA u 108 12 l5 (-1)).bind fun u2 => (FX11_holds l1 l5).bind fun x3 => (if x3 = 0 then (FX7_findWay_106_b51 k8 l1 l2 l3 l4 l5 u2) else ((if 12 ≤ l4 then (FX7_findWay_106_b51 k8 l1 l2 l3 l4 l5 u2) else ((wrA u2 109 12 l4 l5).bind fun u6 => FX7_findWay_106_b51 k8 l1 l2 l3 (l4 + 1) l5 u6))))))
theorem bX7_findWay_106_8 {G : Gt} {X : Xt} {v : Int32} {u' : Mem} (hX : CxOk G X cX7_findWay 9 RX7 (some (.int v), SH, RHO, u') 2) (hR : CxRet G X (some .boolean) (some (.int v), SH, RHO, u')) {k8 : Int32 → Int32 → Int32 → Int32 → Int32 → Mem → Option (Int32 × Mem)} (hk8 : ∀ (l1 l2 l3 l4 l5 : Int32) (u : Mem), k8 l1 l2 l3 l4 l5 u = some (v, u') → WM G X 8 [(0, .ref 106), (1, .int l1), (2, .int l2), (3, .int l3), (4, .int l4), (5, .int l5)] [] SH RHO u) (l1 l2 l3 l4 l5 : Int32) (u : Mem) (h : FX7_findWay_106_b8 k8 l1 l2 l3 l4 l5 u = some (v, u')) : WM G X 8 [(0, .ref 106), (1, .int l1), (2, .int l2), (3, .int l3), (4, .int l4), (5, .int l5)] [] SH RHO u := by
  unfold FX7_findWay_106_b8 at h
  refine w_iload 5 8 hX rfl dX7_findWay_8 ?_
  refine w_bipush 12 10 hX ib_12 dX7_findWay_10 ?_
  refine w_icmp_ge (tgt := 57) 12 hX dX7_findWay_12 (by decide) (fun c1 => ?_) (fun c1 => ?_)
  · have h := it h c1
    refine w_iconst 0 57 hX ic_0 dX7_findWay_57 ?_
    refine w_istore (lv' := [(5, .int 0), (0, .ref 106), (1, .int l1), (2, .int l2), (3, .int l3), (4, .int l4)]) 58 hX dX7_findWay_58 (by decide) rfl ?_
    exact w_sub [1, 3, 4, 5, 0] rfl (lX7_findWay_106_60 hX hR FU l2 l3 l4 0 u h)
  · have h := ie h c1
    refine w_aload_n 0 15 hX rfl rfl dX7_findWay_15 ?_
    refine w_getR 16 hX CI_7 s_106 rfl r_106_4 fl_X7_15 rfl dX7_findWay_16 ?_
    refine w_iload 5 19 hX rfl dX7_findWay_19 ?_
    refine w_iconst (-1) 21 hX ic_m1 dX7_findWay_21 ?_
    obtain ⟨u2, gu2, h⟩ := o_bind h
    refine w_iast 22 hX s_108 gu2 dX7_findWay_22 ?_
    refine w_iload_n 1 23 hX rfl rfl dX7_findWay_23 ?_
    refine w_iload 5 24 hX rfl dX7_findWay_24 ?_
    obtain ⟨x3, gx3, h⟩ := o_bind h
    refine w_invSNi (av := [.int l1, .int l5]) (st := []) 26 hX ms_yX11_holds mi_yX11_holds ml_X7_59 (CX11_holds l1 l5 u2 gx3) rfl (by decide) (Nat.le_of_ble_eq_true rfl) (Nat.le_refl _) (Nat.le_refl _) dX7_findWay_26 ?_
    refine w_if_eq (tgt := 51) 29 hX dX7_findWay_29 (by decide) (fun c4 => ?_) (fun c4 => ?_)
    · have h := it h c4
      exact bX7_findWay_106_51 hX hR hk8 l1 l2 l3 l4 l5 u2 h
    · have h := ie h c4
      refine w_iload 4 32 hX rfl dX7_findWay_32 ?_
      refine w_bipush 12 34 hX ib_12 dX7_findWay_34 ?_
      refine w_icmp_ge (tgt := 51) 36 hX dX7_findWay_36 (by decide) (fun c5 => ?_) (fun c5 => ?_)
      · have h := it h c5
        exact bX7_findWay_106_51 hX hR hk8 l1 l2 l3 l4 l5 u2 h
      · have h := ie h c5
        refine w_aload_n 0 39 hX rfl rfl dX7_findWay_39 ?_
        refine w_getR 40 hX CI_7 s_106 rfl r_106_5 fl_X7_18 rfl dX7_findWay_40 ?_
        refine w_iload 4 43 hX rfl dX7_findWay_43 ?_
        refine w_iload 5 45 hX rfl dX7_findWay_45 ?_
        obtain ⟨u6, gu6, h⟩ := o_bind h
        refine w_iast 47 hX s_109 gu6 dX7_findWay_47 ?_
        refine w_iinc (lv' := [(4, .int (l4 + 1)), (0, .ref 106), (1, .int l1), (2, .int l2), (3, .int l3), (5, .int l5)]) 48 4 hX dX7_findWay_48 rfl (inc_1 _) (by decide) rfl ?_
        exact w_sub [1, 2, 3, 4, 0, 5] rfl (bX7_findWay_106_51 hX hR hk8 l1 l2 l3 (l4 + 1) l5 u6 h)
def FX7_findWay_106_L8 : Nat → Int32 → Int32 → Int32 → Int32 → Int32 → Mem → Option (Int32 × Mem)
  | 0, _, _, _, _, _, _ => none
  | n + 1, l1, l2, l3, l4, l5, u => FX7_findWay_106_b8 (FX7_findWay_106_L8 n) l1 l2 l3 l4 l5 u
theorem lX7_findWay_106_8 {G : Gt} {X : Xt} {v : Int32} {u' : Mem} (hX : CxOk G X cX7_findWay 9 RX7 (some (.int v), SH, RHO, u') 2) (hR : CxRet G X (some .boolean) (some (.int v), SH, RHO, u')) : ∀ (n : Nat) (l1 l2 l3 l4 l5 : Int32) (u : Mem), FX7_findWay_106_L8 n l1 l2 l3 l4 l5 u = some (v, u') → WM G X 8 [(0, .ref 106), (1, .int l1), (2, .int l2), (3, .int l3), (4, .int l4), (5, .int l5)] [] SH RHO u := by
  intro n
  induction n with
  | zero =>
    intro l1 l2 l3 l4 l5 u h
    exact nn_ h
  | succ n ih =>
    intro l1 l2 l3 l4 l5 u h
    exact bX7_findWay_106_8 hX hR ih l1 l2 l3 l4 l5 u h
def FX7_findWay_106 (p1 p2 : Int32) (u : Mem) : Option (Int32 × Mem) :=
  FX7_findWay_106_L8 FU p1 p2 p1 0 0 u
theorem CX7_findWay_106 {G : Gt} (p1 p2 : Int32) (u : Mem) {v : Int32} {u' : Mem} (h : FX7_findWay_106 p1 p2 u = some (v, u')) : CT G yX7_findWay cX7_findWay 9 (some .boolean) 2 [.ref 106, .int p1, .int p2] SH RHO u (some (.int v), SH, RHO, u') :=
  ct_of (by decide) rfl (Nat.le_of_ble_eq_true rfl) (Nat.le_refl _) (Nat.le_refl _) (fun X hX hR => by
  unfold FX7_findWay_106 at h
  refine w_iload_n 1 0 hX rfl rfl dX7_findWay_0 ?_
  refine w_istore_n (lv' := [(3, .int p1), (0, .ref 106), (1, .int p1), (2, .int p2)]) 1 hX rfl dX7_findWay_1 (by decide) rfl ?_
  refine w_iconst 0 2 hX ic_0 dX7_findWay_2 ?_
  refine w_istore (lv' := [(4, .int 0), (3, .int p1), (0, .ref 106), (1, .int p1), (2, .int p2)]) 3 hX dX7_findWay_3 (by decide) rfl ?_
  refine w_iconst 0 5 hX ic_0 dX7_findWay_5 ?_
  refine w_istore (lv' := [(5, .int 0), (4, .int 0), (3, .int p1), (0, .ref 106), (1, .int p1), (2, .int p2)]) 6 hX dX7_findWay_6 (by decide) rfl ?_
  exact w_sub [3, 4, 5, 2, 1, 0] rfl (lX7_findWay_106_8 hX hR FU p1 p2 p1 0 0 u h))
def FX7_useWay_106_b4 (k4 : Int32 → Int32 → Mem → Option Mem) (l2 l3 : Int32) (u : Mem) : Option Mem :=
  (if 12 ≤ l3 then (some u) else ((if l2 < 0 then (some u) else ((if 12 ≤ l2 then (some u) else ((rdA u 108 12 l2).bind fun x4 => (if x4 < 0 then (some u) else ((if x4 < 12 then ((rdA u 107 144 ((x4 * 12) + l2)).bind fun x7 => (wrA u 107 144 ((x4 * 12) + l2) (x7 - 1)).bind fun u8 => (rdA u8 107 144 ((l2 * 12) + x4)).bind fun x9 => (wrA u8 107 144 ((l2 * 12) + x4) (x9 + 1)).bind fun u10 => k4 x4 (l3 + 1) u10) else (some u))))))))))
theorem bX7_useWay_106_4 {G : Gt} {X : Xt} {u' : Mem} (hX : CxOk G X cX7_useWay 5 RX7 (none, SH, RHO, u') 1) (hR : CxRet G X none (none, SH, RHO, u')) {k4 : Int32 → Int32 → Mem → Option Mem} (hk4 : ∀ (l2 l3 : Int32) (u : Mem), k4 l2 l3 u = some u' → WM G X 4 [(0, .ref 106), (2, .int l2), (3, .int l3)] [] SH RHO u) (l2 l3 : Int32) (u : Mem) (h : FX7_useWay_106_b4 k4 l2 l3 u = some u') : WM G X 4 [(0, .ref 106), (2, .int l2), (3, .int l3)] [] SH RHO u := by
  unfold FX7_useWay_106_b4 at h
  refine w_iload_n 2 4 hX rfl rfl dX7_useWay_4 ?_
  refine w_bipush 12 5 hX ib_12 dX7_useWay_5 ?_
  refine w_icmp_ge (tgt := 82) 7 hX dX7_useWay_7 (by decide) (fun c1 => ?_) (fun c1 => ?_)
  · have h := it h c1
    exact w_vret 82 hX hR dX7_useWay_82 (by cases h; rfl)
  · have h := ie h c1
    refine w_iload_n 1 10 hX rfl rfl dX7_useWay_10 ?_
    refine w_if_lt (tgt := 82) 11 hX dX7_useWay_11 (by decide) (fun c2 => ?_) (fun c2 => ?_)
    · have h := it h c2
      exact w_vret 82 hX hR dX7_useWay_82 (by cases h; rfl)
    · have h := ie h c2
      refine w_iload_n 1 14 hX rfl rfl dX7_useWay_14 ?_
      refine w_bipush 12 15 hX ib_12 dX7_useWay_15 ?_
      refine w_icmp_ge (tgt := 82) 17 hX dX7_useWay_17 (by decide) (fun c3 => ?_) (fun c3 => ?_)
      · have h := it h c3
        exact w_vret 82 hX hR dX7_useWay_82 (by cases h; rfl)
      · have h := ie h c3
        refine w_aload_n 0 20 hX rfl rfl dX7_useWay_20 ?_
        refine w_getR 21 hX CI_7 s_106 rfl r_106_4 fl_X7_15 rfl dX7_useWay_21 ?_
        refine w_iload_n 1 24 hX rfl rfl dX7_useWay_24 ?_
        obtain ⟨x4, gx4, h⟩ := o_bind h
        refine w_iald 25 hX s_108 gx4 dX7_useWay_25 ?_
        refine w_istore (lv' := [(4, .int x4), (0, .ref 106), (2, .int l2), (3, .int l3)]) 26 hX dX7_useWay_26 (by decide) rfl ?_
        refine w_iload 0 28 hX rfl dX7_useWay_28 ?_
        refine w_if_lt (tgt := 40) 30 hX dX7_useWay_30 (by decide) (fun c5 => ?_) (fun c5 => ?_)
        · have h := it h c5
          exact w_vret 40 hX hR dX7_useWay_40 (by cases h; rfl)
        · have h := ie h c5
          refine w_iload 0 33 hX rfl dX7_useWay_33 ?_
          refine w_bipush 12 35 hX ib_12 dX7_useWay_35 ?_
          refine w_icmp_lt (tgt := 41) 37 hX dX7_useWay_37 (by decide) (fun c6 => ?_) (fun c6 => ?_)
          · have h := it h c6
            refine w_aload_n 1 41 hX rfl rfl dX7_useWay_41 ?_
            refine w_getR 42 hX CI_7 s_106 rfl r_106_3 fl_X7_9 rfl dX7_useWay_42 ?_
            refine w_iload 0 45 hX rfl dX7_useWay_45 ?_
            refine w_bipush 12 47 hX ib_12 dX7_useWay_47 ?_
            refine w_imul 49 hX dX7_useWay_49 ?_
            refine w_iload_n 2 50 hX rfl rfl dX7_useWay_50 ?_
            refine w_iadd 51 hX dX7_useWay_51 ?_
            refine w_dup2 52 hX rfl rfl dX7_useWay_52 ?_
            obtain ⟨x7, gx7, h⟩ := o_bind h
            refine w_iald 53 hX s_107 gx7 dX7_useWay_53 ?_
            refine w_iconst 1 54 hX ic_1 dX7_useWay_54 ?_
            refine w_isub 55 hX dX7_useWay_55 ?_
            obtain ⟨u8, gu8, h⟩ := o_bind h
            refine w_iast 56 hX s_107 gu8 dX7_useWay_56 ?_
            refine w_aload_n 1 57 hX rfl rfl dX7_useWay_57 ?_
            refine w_getR 58 hX CI_7 s_106 rfl r_106_3 fl_X7_9 rfl dX7_useWay_58 ?_
            refine w_iload_n 2 61 hX rfl rfl dX7_useWay_61 ?_
            refine w_bipush 12 62 hX ib_12 dX7_useWay_62 ?_
            refine w_imul 64 hX dX7_useWay_64 ?_
            refine w_iload 0 65 hX rfl dX7_useWay_65 ?_
            refine w_iadd 67 hX dX7_useWay_67 ?_
            refine w_dup2 68 hX rfl rfl dX7_useWay_68 ?_
            obtain ⟨x9, gx9, h⟩ := o_bind h
            refine w_iald 69 hX s_107 gx9 dX7_useWay_69 ?_
            refine w_iconst 1 70 hX ic_1 dX7_useWay_70 ?_
            refine w_iadd 71 hX dX7_useWay_71 ?_
            obtain ⟨u10, gu10, h⟩ := o_bind h
            refine w_iast 72 hX s_107 gu10 dX7_useWay_72 ?_
            refine w_iload 0 73 hX rfl dX7_useWay_73 ?_
            refine w_istore_n (lv' := [(2, .int x4), (4, .int x4), (0, .ref 106), (3, .int l3)]) 75 hX rfl dX7_useWay_75 (by decide) rfl ?_
            refine w_iinc (lv' := [(3, .int (l3 + 1)), (2, .int x4), (4, .int x4), (0, .ref 106)]) 76 3 hX dX7_useWay_76 rfl (inc_1 _) (by decide) rfl ?_
            refine w_goto (tgt := 4) 79 hX (by decide) dX7_useWay_79 ?_
            exact w_sub [3, 1, 0] rfl (hk4 x4 (l3 + 1) u10 h)
          · have h := ie h c6
            exact w_vret 40 hX hR dX7_useWay_40 (by cases h; rfl)
def FX7_useWay_106_L4 : Nat → Int32 → Int32 → Mem → Option Mem
  | 0, _, _, _ => none
  | n + 1, l2, l3, u => FX7_useWay_106_b4 (FX7_useWay_106_L4 n) l2 l3 u
theorem lX7_useWay_106_4 {G : Gt} {X : Xt} {u' : Mem} (hX : CxOk G X cX7_useWay 5 RX7 (none, SH, RHO, u') 1) (hR : CxRet G X none (none, SH, RHO, u')) : ∀ (n : Nat) (l2 l3 : Int32) (u : Mem), FX7_useWay_106_L4 n l2 l3 u = some u' → WM G X 4 [(0, .ref 106), (2, .int l2), (3, .int l3)] [] SH RHO u := by
  intro n
  induction n with
  | zero =>
    intro l2 l3 u h
    exact nn_ h
  | succ n ih =>
    intro l2 l3 u h
    exact bX7_useWay_106_4 hX hR ih l2 l3 u h
def FX7_useWay_106 (p1 : Int32) (u : Mem) : Option Mem :=
  FX7_useWay_106_L4 FU p1 0 u
theorem CX7_useWay_106 {G : Gt} (p1 : Int32) (u : Mem) {u' : Mem} (h : FX7_useWay_106 p1 u = some u') : CT G yX7_useWay cX7_useWay 5 none 1 [.ref 106, .int p1] SH RHO u (none, SH, RHO, u') :=
  ct_of (by decide) rfl (Nat.le_of_ble_eq_true rfl) (Nat.le_refl _) (Nat.le_refl _) (fun X hX hR => by
  unfold FX7_useWay_106 at h
  refine w_iload_n 1 0 hX rfl rfl dX7_useWay_0 ?_
  refine w_istore_n (lv' := [(2, .int p1), (0, .ref 106), (1, .int p1)]) 1 hX rfl dX7_useWay_1 (by decide) rfl ?_
  refine w_iconst 0 2 hX ic_0 dX7_useWay_2 ?_
  refine w_istore_n (lv' := [(3, .int 0), (2, .int p1), (0, .ref 106), (1, .int p1)]) 3 hX rfl dX7_useWay_3 (by decide) rfl ?_
  exact w_sub [2, 1, 0] rfl (lX7_useWay_106_4 hX hR FU p1 0 u h))
def FX7_fewestTellings_106_b96 (l3 : Int32) (u : Mem) : Option (Int32 × Mem) :=
  some (l3, u)
theorem bX7_fewestTellings_106_96 {G : Gt} {X : Xt} {v : Int32} {u' : Mem} (hX : CxOk G X cX7_fewestTellings 5 RX7 (some (.int v), SH, RHO, u') 3) (hR : CxRet G X (some .int) (some (.int v), SH, RHO, u')) (l3 : Int32) (u : Mem) (h : FX7_fewestTellings_106_b96 l3 u = some (v, u')) : WM G X 96 [(3, .int l3)] [] SH RHO u := by
  unfold FX7_fewestTellings_106_b96 at h
  refine w_iload_n 0 96 hX rfl rfl dX7_fewestTellings_96 ?_
  exact w_iret 97 hX hR dX7_fewestTellings_97 (by cases h; rfl)
def FX7_fewestTellings_106_b66 (k66 : Int32 → Int32 → Int32 → Mem → Option (Int32 × Mem)) (l1 l2 l3 : Int32) (u : Mem) : Option (Int32 × Mem) :=
  (if 12 ≤ l3 then (FX7_fewestTellings_106_b96 l3 u) else ((FX7_knowers_106 l1 u).bind fun x2 => bnd2 (FX7_findWay_106 x2 l2 u) fun x3 u4 => (if x3 = 0 then (FX7_fewestTellings_106_b96 l3 u4) else ((FX7_useWay_106 l2 u4).bind fun u7 => k66 l1 l2 (l3 + 1) u7))))
theorem bX7_fewestTellings_106_66 {G : Gt} {X : Xt} {v : Int32} {u' : Mem} (hX : CxOk G X cX7_fewestTellings 5 RX7 (some (.int v), SH, RHO, u') 3) (hR : CxRet G X (some .int) (some (.int v), SH, RHO, u')) {k66 : Int32 → Int32 → Int32 → Mem → Option (Int32 × Mem)} (hk66 : ∀ (l1 l2 l3 : Int32) (u : Mem), k66 l1 l2 l3 u = some (v, u') → WM G X 66 [(0, .ref 106), (1, .int l1), (2, .int l2), (3, .int l3)] [] SH RHO u) (l1 l2 l3 : Int32) (u : Mem) (h : FX7_fewestTellings_106_b66 k66 l1 l2 l3 u = some (v, u')) : WM G X 66 [(0, .ref 106), (1, .int l1), (2, .int l2), (3, .int l3)] [] SH RHO u := by
  unfold FX7_fewestTellings_106_b66 at h
  refine w_iload_n 3 66 hX rfl rfl dX7_fewestTellings_66 ?_
  refine w_bipush 12 67 hX ib_12 dX7_fewestTellings_67 ?_
  refine w_icmp_ge (tgt := 96) 69 hX dX7_fewestTellings_69 (by decide) (fun c1 => ?_) (fun c1 => ?_)
  · have h := it h c1
    exact w_sub [3] rfl (bX7_fewestTellings_106_96 hX hR l3 u h)
  · have h := ie h c1
    refine w_aload_n 0 72 hX rfl rfl dX7_fewestTellings_72 ?_
    refine w_aload_n 0 73 hX rfl rfl dX7_fewestTellings_73 ?_
    refine w_iload_n 1 74 hX rfl rfl dX7_fewestTellings_74 ?_
    obtain ⟨x2, gx2, h⟩ := o_bind h
    refine w_invVi (av := [.int l1]) (st := [.ref 106]) 75 hX CI_7 s_106 rfl mv_yX7_knowers mi_yX7_knowers ml_X7_63 (CX7_knowers_106 l1 u gx2) rfl (by decide) (Nat.le_of_ble_eq_true rfl) (Nat.le_refl _) (Nat.le_refl _) dX7_fewestTellings_75 ?_
    refine w_iload_n 2 78 hX rfl rfl dX7_fewestTellings_78 ?_
    obtain ⟨x3, u4, gx3, h⟩ := o_bnd2 h
    refine w_invVi (av := [.int x2, .int l2]) (st := []) 79 hX CI_7 s_106 rfl mv_yX7_findWay mi_yX7_findWay ml_X7_70 (CX7_findWay_106 x2 l2 u gx3) rfl (by decide) (Nat.le_of_ble_eq_true rfl) (Nat.le_refl _) (Nat.le_refl _) dX7_fewestTellings_79 ?_
    refine w_if_eq (tgt := 96) 82 hX dX7_fewestTellings_82 (by decide) (fun c5 => ?_) (fun c5 => ?_)
    · have h := it h c5
      exact w_sub [3] rfl (bX7_fewestTellings_106_96 hX hR l3 u4 h)
    · have h := ie h c5
      refine w_aload_n 0 85 hX rfl rfl dX7_fewestTellings_85 ?_
      refine w_iload_n 2 86 hX rfl rfl dX7_fewestTellings_86 ?_
      obtain ⟨u7, gu7, h⟩ := o_bind h
      refine w_invVv (av := [.int l2]) (st := []) 87 hX CI_7 s_106 rfl mv_yX7_useWay mi_yX7_useWay ml_X7_73 (CX7_useWay_106 l2 u4 gu7) rfl (by decide) (Nat.le_of_ble_eq_true rfl) (Nat.le_refl _) (Nat.le_refl _) dX7_fewestTellings_87 ?_
      refine w_iinc (lv' := [(3, .int (l3 + 1)), (0, .ref 106), (1, .int l1), (2, .int l2)]) 90 3 hX dX7_fewestTellings_90 rfl (inc_1 _) (by decide) rfl ?_
      refine w_goto (tgt := 66) 93 hX (by decide) dX7_fewestTellings_93 ?_
      exact w_sub [1, 2, 3, 0] rfl (hk66 l1 l2 (l3 + 1) u7 h)
def FX7_fewestTellings_106_L66 : Nat → Int32 → Int32 → Int32 → Mem → Option (Int32 × Mem)
  | 0, _, _, _, _ => none
  | n + 1, l1, l2, l3, u => FX7_fewestTellings_106_b66 (FX7_fewestTellings_106_L66 n) l1 l2 l3 u
theorem lX7_fewestTellings_106_66 {G : Gt} {X : Xt} {v : Int32} {u' : Mem} (hX : CxOk G X cX7_fewestTellings 5 RX7 (some (.int v), SH, RHO, u') 3) (hR : CxRet G X (some .int) (some (.int v), SH, RHO, u')) : ∀ (n : Nat) (l1 l2 l3 : Int32) (u : Mem), FX7_fewestTellings_106_L66 n l1 l2 l3 u = some (v, u') → WM G X 66 [(0, .ref 106), (1, .int l1), (2, .int l2), (3, .int l3)] [] SH RHO u := by
  intro n
  induction n with
  | zero =>
    intro l1 l2 l3 u h
    exact nn_ h
  | succ n ih =>
    intro l1 l2 l3 u h
    exact bX7_fewestTellings_106_66 hX hR ih l1 l2 l3 u h
def FX7_fewestTellings_106_b51 (k11 : Int32 → Int32 → Int32 → Int32 → Mem → Option (Int32 × Mem)) (l1 l2 l3 l4 t1 t2 : Int32) (u : Mem) : Option (Int32 × Mem) :=
  (wrA u 107 144 t1 t2).bind fun u1 => k11 l1 l2 l3 (l4 + 1) u1
theorem bX7_fewestTellings_106_51 {G : Gt} {X : Xt} {v : Int32} {u' : Mem} (hX : CxOk G X cX7_fewestTellings 5 RX7 (some (.int v), SH, RHO, u') 3) (hR : CxRet G X (some .int) (some (.int v), SH, RHO, u')) {k11 : Int32 → Int32 → Int32 → Int32 → Mem → Option (Int32 × Mem)} (hk11 : ∀ (l1 l2 l3 l4 : Int32) (u : Mem), k11 l1 l2 l3 l4 u = some (v, u') → WM G X 11 [(0, .ref 106), (1, .int l1), (2, .int l2), (3, .int l3), (4, .int l4)] [] SH RHO u) (l1 l2 l3 l4 t1 t2 : Int32) (u : Mem) (h : FX7_fewestTellings_106_b51 k11 l1 l2 l3 l4 t1 t2 u = some (v, u')) : WM G X 51 [(0, .ref 106), (1, .int l1), (2, .int l2), (3, .int l3), (4, .int l4)] [.int t2, .int t1, .ref 107] SH RHO u := by
  unfold FX7_fewestTellings_106_b51 at h
  obtain ⟨u1, gu1, h⟩ := o_bind h
  refine w_iast 51 hX s_107 gu1 dX7_fewestTellings_51 ?_
  refine w_iinc (lv' := [(4, .int (l4 + 1)), (0, .ref 106), (1, .int l1), (2, .int l2), (3, .int l3)]) 52 4 hX dX7_fewestTellings_52 rfl (inc_1 _) (by decide) rfl ?_
  refine w_goto (tgt := 11) 55 hX (by decide) dX7_fewestTellings_55 ?_
  exact w_sub [1, 2, 3, 4, 0] rfl (hk11 l1 l2 l3 (l4 + 1) u1 h)
def FX7_fewestTellings_106_b11 (k2 : Int32 → Int32 → Int32 → Mem → Option (Int32 × Mem)) (k11 : Int32 → Int32 → Int32 → Int32 → Mem → Option (Int32 × Mem)) (l1 l2 l3 l4 : Int32) (u : Mem) : Option (Int32 × Mem) :=
  (if 12 ≤ l4 then (k2 l1 l2 (l3 + 1) u) else ((rdA u 5 12 l3).bind fun x2 => (FX11_holds x2 l4).bind fun x3 => (if x3 = 0 then (FX7_fewestTellings_106_b51 k11 l1 l2 l3 l4 ((l3 * 12) + l4) 0 u) else (FX7_fewestTellings_106_b51 k11 l1 l2 l3 l4 ((l3 * 12) + l4) 1 u))))
theorem bX7_fewestTellings_106_11 {G : Gt} {X : Xt} {v : Int32} {u' : Mem} (hX : CxOk G X cX7_fewestTellings 5 RX7 (some (.int v), SH, RHO, u') 3) (hR : CxRet G X (some .int) (some (.int v), SH, RHO, u')) {k2 : Int32 → Int32 → Int32 → Mem → Option (Int32 × Mem)} (hk2 : ∀ (l1 l2 l3 : Int32) (u : Mem), k2 l1 l2 l3 u = some (v, u') → WM G X 2 [(0, .ref 106), (1, .int l1), (2, .int l2), (3, .int l3)] [] SH RHO u) {k11 : Int32 → Int32 → Int32 → Int32 → Mem → Option (Int32 × Mem)} (hk11 : ∀ (l1 l2 l3 l4 : Int32) (u : Mem), k11 l1 l2 l3 l4 u = some (v, u') → WM G X 11 [(0, .ref 106), (1, .int l1), (2, .int l2), (3, .int l3), (4, .int l4)] [] SH RHO u) (l1 l2 l3 l4 : Int32) (u : Mem) (h : FX7_fewestTellings_106_b11 k2 k11 l1 l2 l3 l4 u = some (v, u')) : WM G X 11 [(0, .ref 106), (1, .int l1), (2, .int l2), (3, .int l3), (4, .int l4)] [] SH RHO u := by
  unfold FX7_fewestTellings_106_b11 at h
  refine w_iload 4 11 hX rfl dX7_fewestTellings_11 ?_
  refine w_bipush 12 13 hX ib_12 dX7_fewestTellings_13 ?_
  refine w_icmp_ge (tgt := 58) 15 hX dX7_fewestTellings_15 (by decide) (fun c1 => ?_) (fun c1 => ?_)
  · have h := it h c1
    refine w_iinc (lv' := [(3, .int (l3 + 1)), (0, .ref 106), (1, .int l1), (2, .int l2), (4, .int l4)]) 58 3 hX dX7_fewestTellings_58 rfl (inc_1 _) (by decide) rfl ?_
    refine w_goto (tgt := 2) 61 hX (by decide) dX7_fewestTellings_61 ?_
    exact w_sub [1, 2, 3, 0] rfl (hk2 l1 l2 (l3 + 1) u h)
  · have h := ie h c1
    refine w_aload_n 0 18 hX rfl rfl dX7_fewestTellings_18 ?_
    refine w_getR 19 hX CI_7 s_106 rfl r_106_3 fl_X7_9 rfl dX7_fewestTellings_19 ?_
    refine w_iload_n 3 22 hX rfl rfl dX7_fewestTellings_22 ?_
    refine w_bipush 12 23 hX ib_12 dX7_fewestTellings_23 ?_
    refine w_imul 25 hX dX7_fewestTellings_25 ?_
    refine w_iload 4 26 hX rfl dX7_fewestTellings_26 ?_
    refine w_iadd 28 hX dX7_fewestTellings_28 ?_
    refine w_aload_n 0 29 hX rfl rfl dX7_fewestTellings_29 ?_
    refine w_getR 30 hX CI_7 s_106 rfl r_106_0 fl_X7_36 rfl dX7_fewestTellings_30 ?_
    refine w_getR 33 hX CI_9 s_1 rfl r_1_4 fl_X7_67 rfl dX7_fewestTellings_33 ?_
    refine w_iload_n 3 36 hX rfl rfl dX7_fewestTellings_36 ?_
    obtain ⟨x2, gx2, h⟩ := o_bind h
    refine w_iald 37 hX s_5 gx2 dX7_fewestTellings_37 ?_
    refine w_iload 4 38 hX rfl dX7_fewestTellings_38 ?_
    obtain ⟨x3, gx3, h⟩ := o_bind h
    refine w_invSNi (av := [.int x2, .int l4]) (st := [.int ((l3 * 12) + l4), .ref 107]) 40 hX ms_yX11_holds mi_yX11_holds ml_X7_59 (CX11_holds x2 l4 u gx3) rfl (by decide) (Nat.le_of_ble_eq_true rfl) (Nat.le_refl _) (Nat.le_refl _) dX7_fewestTellings_40 ?_
    refine w_if_eq (tgt := 50) 43 hX dX7_fewestTellings_43 (by decide) (fun c4 => ?_) (fun c4 => ?_)
    · have h := it h c4
      refine w_iconst 0 50 hX ic_0 dX7_fewestTellings_50 ?_
      exact bX7_fewestTellings_106_51 hX hR hk11 l1 l2 l3 l4 ((l3 * 12) + l4) 0 u h
    · have h := ie h c4
      refine w_iconst 1 46 hX ic_1 dX7_fewestTellings_46 ?_
      refine w_goto (tgt := 51) 47 hX (by decide) dX7_fewestTellings_47 ?_
      exact bX7_fewestTellings_106_51 hX hR hk11 l1 l2 l3 l4 ((l3 * 12) + l4) 1 u h
def FX7_fewestTellings_106_L11 (k2 : Int32 → Int32 → Int32 → Mem → Option (Int32 × Mem)) : Nat → Int32 → Int32 → Int32 → Int32 → Mem → Option (Int32 × Mem)
  | 0, _, _, _, _, _ => none
  | n + 1, l1, l2, l3, l4, u => FX7_fewestTellings_106_b11 k2 (FX7_fewestTellings_106_L11 k2 n) l1 l2 l3 l4 u
theorem lX7_fewestTellings_106_11 {G : Gt} {X : Xt} {v : Int32} {u' : Mem} (hX : CxOk G X cX7_fewestTellings 5 RX7 (some (.int v), SH, RHO, u') 3) (hR : CxRet G X (some .int) (some (.int v), SH, RHO, u')) {k2 : Int32 → Int32 → Int32 → Mem → Option (Int32 × Mem)} (hk2 : ∀ (l1 l2 l3 : Int32) (u : Mem), k2 l1 l2 l3 u = some (v, u') → WM G X 2 [(0, .ref 106), (1, .int l1), (2, .int l2), (3, .int l3)] [] SH RHO u) : ∀ (n : Nat) (l1 l2 l3 l4 : Int32) (u : Mem), FX7_fewestTellings_106_L11 k2 n l1 l2 l3 l4 u = some (v, u') → WM G X 11 [(0, .ref 106), (1, .int l1), (2, .int l2), (3, .int l3), (4, .int l4)] [] SH RHO u := by
  intro n
  induction n with
  | zero =>
    intro l1 l2 l3 l4 u h
    exact nn_ h
  | succ n ih =>
    intro l1 l2 l3 l4 u h
    exact bX7_fewestTellings_106_11 hX hR hk2 ih l1 l2 l3 l4 u h
def FX7_fewestTellings_106_b2 (k2 : Int32 → Int32 → Int32 → Mem → Option (Int32 × Mem)) (l1 l2 l3 : Int32) (u : Mem) : Option (Int32 × Mem) :=
  (if 12 ≤ l3 then (FX7_fewestTellings_106_L66 FU l1 l2 0 u) else (FX7_fewestTellings_106_L11 k2 FU l1 l2 l3 0 u))
theorem bX7_fewestTellings_106_2 {G : Gt} {X : Xt} {v : Int32} {u' : Mem} (hX : CxOk G X cX7_fewestTellings 5 RX7 (some (.int v), SH, RHO, u') 3) (hR : CxRet G X (some .int) (some (.int v), SH, RHO, u')) {k2 : Int32 → Int32 → Int32 → Mem → Option (Int32 × Mem)} (hk2 : ∀ (l1 l2 l3 : Int32) (u : Mem), k2 l1 l2 l3 u = some (v, u') → WM G X 2 [(0, .ref 106), (1, .int l1), (2, .int l2), (3, .int l3)] [] SH RHO u) (l1 l2 l3 : Int32) (u : Mem) (h : FX7_fewestTellings_106_b2 k2 l1 l2 l3 u = some (v, u')) : WM G X 2 [(0, .ref 106), (1, .int l1), (2, .int l2), (3, .int l3)] [] SH RHO u := by
  unfold FX7_fewestTellings_106_b2 at h
  refine w_iload_n 3 2 hX rfl rfl dX7_fewestTellings_2 ?_
  refine w_bipush 12 3 hX ib_12 dX7_fewestTellings_3 ?_
  refine w_icmp_ge (tgt := 64) 5 hX dX7_fewestTellings_5 (by decide) (fun c1 => ?_) (fun c1 => ?_)
  · have h := it h c1
    refine w_iconst 0 64 hX ic_0 dX7_fewestTellings_64 ?_
    refine w_istore_n (lv' := [(3, .int 0), (0, .ref 106), (1, .int l1), (2, .int l2)]) 65 hX rfl dX7_fewestTellings_65 (by decide) rfl ?_
    exact w_sub [1, 2, 3, 0] rfl (lX7_fewestTellings_106_66 hX hR FU l1 l2 0 u h)
  · have h := ie h c1
    refine w_iconst 0 8 hX ic_0 dX7_fewestTellings_8 ?_
    refine w_istore (lv' := [(4, .int 0), (0, .ref 106), (1, .int l1), (2, .int l2), (3, .int l3)]) 9 hX dX7_fewestTellings_9 (by decide) rfl ?_
    exact w_sub [1, 2, 3, 4, 0] rfl (lX7_fewestTellings_106_11 hX hR hk2 FU l1 l2 l3 0 u h)
def FX7_fewestTellings_106_L2 : Nat → Int32 → Int32 → Int32 → Mem → Option (Int32 × Mem)
  | 0, _, _, _, _ => none
  | n + 1, l1, l2, l3, u => FX7_fewestTellings_106_b2 (FX7_fewestTellings_106_L2 n) l1 l2 l3 u
theorem lX7_fewestTellings_106_2 {G : Gt} {X : Xt} {v : Int32} {u' : Mem} (hX : CxOk G X cX7_fewestTellings 5 RX7 (some (.int v), SH, RHO, u') 3) (hR : CxRet G X (some .int) (some (.int v), SH, RHO, u')) : ∀ (n : Nat) (l1 l2 l3 : Int32) (u : Mem), FX7_fewestTellings_106_L2 n l1 l2 l3 u = some (v, u') → WM G X 2 [(0, .ref 106), (1, .int l1), (2, .int l2), (3, .int l3)] [] SH RHO u := by
  intro n
  induction n with
  | zero =>
    intro l1 l2 l3 u h
    exact nn_ h
  | succ n ih =>
    intro l1 l2 l3 u h
    exact bX7_fewestTellings_106_2 hX hR ih l1 l2 l3 u h
def FX7_fewestTellings_106 (p1 p2 : Int32) (u : Mem) : Option (Int32 × Mem) :=
  FX7_fewestTellings_106_L2 FU p1 p2 0 u
theorem CX7_fewestTellings_106 {G : Gt} (p1 p2 : Int32) (u : Mem) {v : Int32} {u' : Mem} (h : FX7_fewestTellings_106 p1 p2 u = some (v, u')) : CT G yX7_fewestTellings cX7_fewestTellings 5 (some .int) 3 [.ref 106, .int p1, .int p2] SH RHO u (some (.int v), SH, RHO, u') :=
  ct_of (by decide) rfl (Nat.le_of_ble_eq_true rfl) (Nat.le_refl _) (Nat.le_refl _) (fun X hX hR => by
  unfold FX7_fewestTellings_106 at h
  refine w_iconst 0 0 hX ic_0 dX7_fewestTellings_0 ?_
  refine w_istore_n (lv' := [(3, .int 0), (0, .ref 106), (1, .int p1), (2, .int p2)]) 1 hX rfl dX7_fewestTellings_1 (by decide) rfl ?_
  exact w_sub [1, 2, 3, 0] rfl (lX7_fewestTellings_106_2 hX hR FU p1 p2 0 u h))
def FX11_knees_0_b35 (l1 l2 t0 : Int32) (u : Mem) : Option (Int32 × Mem) :=
  (if t0 = 0 then (some ((-1), u)) else (bnd2 (FX7_fewestTellings_106 l1 l2 u) fun x2 u3 => some (x2, u3)))
theorem bX11_knees_0_35 {G : Gt} {X : Xt} {v : Int32} {u' : Mem} (hX : CxOk G X cX11_knees 4 RX11 (some (.int v), SH, RHO, u') 4) (hR : CxRet G X (some .int) (some (.int v), SH, RHO, u')) (l1 l2 t0 : Int32) (u : Mem) (h : FX11_knees_0_b35 l1 l2 t0 u = some (v, u')) : WM G X 35 [(0, .ref 0), (1, .int l1), (2, .int l2)] [.int t0] SH RHO u := by
  unfold FX11_knees_0_b35 at h
  refine w_istore_n (lv' := [(3, .int t0), (0, .ref 0), (1, .int l1), (2, .int l2)]) 35 hX rfl dX11_knees_35 (by decide) rfl ?_
  refine w_iload_n 0 36 hX rfl rfl dX11_knees_36 ?_
  refine w_if_eq (tgt := 52) 37 hX dX11_knees_37 (by decide) (fun c1 => ?_) (fun c1 => ?_)
  · have h := it h c1
    refine w_iconst (-1) 52 hX ic_m1 dX11_knees_52 ?_
    exact w_iret 53 hX hR dX11_knees_53 (by cases h; rfl)
  · have h := ie h c1
    refine w_aload_n 1 40 hX rfl rfl dX11_knees_40 ?_
    refine w_getR 41 hX CI_11 s_0 rfl r_0_7 fl_X11_67 rfl dX11_knees_41 ?_
    refine w_iload_n 2 44 hX rfl rfl dX11_knees_44 ?_
    refine w_iload_n 3 45 hX rfl rfl dX11_knees_45 ?_
    obtain ⟨x2, u3, gx2, h⟩ := o_bnd2 h
    refine w_invVi (av := [.int l1, .int l2]) (st := []) 46 hX CI_7 s_106 rfl mv_yX7_fewestTellings mi_yX7_fewestTellings ml_X11_231 (CX7_fewestTellings_106 l1 l2 u gx2) rfl (by decide) (Nat.le_of_ble_eq_true rfl) (Nat.le_refl _) (Nat.le_refl _) dX11_knees_46 ?_
    refine w_goto (tgt := 53) 49 hX (by decide) dX11_knees_49 ?_
    exact w_iret 53 hX hR dX11_knees_53 (by cases h; rfl)
def FX11_knees_0 (p1 p2 : Int32) (u : Mem) : Option (Int32 × Mem) :=
  (FX11_isFact p1).bind fun x1 => (if x1 = 0 then (FX11_knees_0_b35 p1 p2 0 u) else ((FX9_hasMan_1 p2 u).bind fun x3 => (if x3 = 0 then (FX11_knees_0_b35 p1 p2 0 u) else ((FX0_knows_23 p2 p1 u).bind fun x5 => (if x5 = 0 then (FX11_knees_0_b35 p1 p2 1 u) else (FX11_knees_0_b35 p1 p2 0 u))))))
theorem CX11_knees_0 {G : Gt} (p1 p2 : Int32) (u : Mem) {v : Int32} {u' : Mem} (h : FX11_knees_0 p1 p2 u = some (v, u')) : CT G yX11_knees cX11_knees 4 (some .int) 4 [.ref 0, .int p1, .int p2] SH RHO u (some (.int v), SH, RHO, u') :=
  ct_of (by decide) rfl (Nat.le_of_ble_eq_true rfl) (Nat.le_refl _) (Nat.le_refl _) (fun X hX hR => by
  unfold FX11_knees_0 at h
  refine w_iload_n 1 0 hX rfl rfl dX11_knees_0 ?_
  obtain ⟨x1, gx1, h⟩ := o_bind h
  refine w_invSi (av := [.int p1]) (st := []) 1 hX ms_yX11_isFact mi_yX11_isFact ml_X11_128 (CX11_isFact p1 u gx1) rfl (by decide) (Nat.le_of_ble_eq_true rfl) (Nat.le_refl _) (Nat.le_refl _) dX11_knees_1 ?_
  refine w_if_eq (tgt := 34) 4 hX dX11_knees_4 (by decide) (fun c2 => ?_) (fun c2 => ?_)
  · have h := it h c2
    refine w_iconst 0 34 hX ic_0 dX11_knees_34 ?_
    exact bX11_knees_0_35 hX hR p1 p2 0 u h
  · have h := ie h c2
    refine w_aload_n 0 7 hX rfl rfl dX11_knees_7 ?_
    refine w_getR 8 hX CI_11 s_0 rfl r_0_0 fl_X11_10 rfl dX11_knees_8 ?_
    refine w_iload_n 2 11 hX rfl rfl dX11_knees_11 ?_
    obtain ⟨x3, gx3, h⟩ := o_bind h
    refine w_invVi (av := [.int p2]) (st := []) 12 hX CI_9 s_1 rfl mv_yX9_hasMan mi_yX9_hasMan ml_X11_119 (CX9_hasMan_1 p2 u gx3) rfl (by decide) (Nat.le_of_ble_eq_true rfl) (Nat.le_refl _) (Nat.le_refl _) dX11_knees_12 ?_
    refine w_if_eq (tgt := 34) 15 hX dX11_knees_15 (by decide) (fun c4 => ?_) (fun c4 => ?_)
    · have h := it h c4
      refine w_iconst 0 34 hX ic_0 dX11_knees_34 ?_
      exact bX11_knees_0_35 hX hR p1 p2 0 u h
    · have h := ie h c4
      refine w_aload_n 0 18 hX rfl rfl dX11_knees_18 ?_
      refine w_getR 19 hX CI_11 s_0 rfl r_0_1 fl_X11_19 rfl dX11_knees_19 ?_
      refine w_iload_n 2 22 hX rfl rfl dX11_knees_22 ?_
      refine w_iload_n 1 23 hX rfl rfl dX11_knees_23 ?_
      obtain ⟨x5, gx5, h⟩ := o_bind h
      refine w_invVi (av := [.int p2, .int p1]) (st := []) 24 hX CI_0 s_23 rfl mv_yX0_knows mi_yX0_knows ml_X11_131 (CX0_knows_23 p2 p1 u gx5) rfl (by decide) (Nat.le_of_ble_eq_true rfl) (Nat.le_refl _) (Nat.le_refl _) dX11_knees_24 ?_
      refine w_if_ne (tgt := 34) 27 hX dX11_knees_27 (by decide) (fun c6 => ?_) (fun c6 => ?_)
      · have h := ie h c6
        refine w_iconst 0 34 hX ic_0 dX11_knees_34 ?_
        exact bX11_knees_0_35 hX hR p1 p2 0 u h
      · have h := it h c6
        refine w_iconst 1 30 hX ic_1 dX11_knees_30 ?_
        refine w_goto (tgt := 35) 31 hX (by decide) dX11_knees_31 ?_
        exact bX11_knees_0_35 hX hR p1 p2 1 u h)
def FX12_knees_146_b153 (k51 : Int32 → Int32 → Int32 → Int32 → Mem → Option Int32) (l2 l3 l4 l5 : Int32) (u : Mem) : Option Int32 :=
  k51 l2 l3 l4 (l5 + 1) u
theorem bX12_knees_146_153 {G : Gt} {X : Xt} {v : Int32} {u : Mem} (hX : CxOk G X cX12_knees 8 RX12 (some (.int v), SH, RHO, u) 3) (hR : CxRet G X (some .int) (some (.int v), SH, RHO, u)) {k51 : Int32 → Int32 → Int32 → Int32 → Mem → Option Int32} (hk51 : ∀ (l2 l3 l4 l5 : Int32), k51 l2 l3 l4 l5 u = some v → WM G X 51 [(0, .ref 146), (2, .int l2), (3, .int l3), (4, .int l4), (5, .int l5)] [] SH RHO u) (l2 l3 l4 l5 : Int32) (h : FX12_knees_146_b153 k51 l2 l3 l4 l5 u = some v) : WM G X 153 [(0, .ref 146), (2, .int l2), (3, .int l3), (4, .int l4), (5, .int l5)] [] SH RHO u := by
  unfold FX12_knees_146_b153 at h
  refine w_iinc (lv' := [(5, .int (l5 + 1)), (0, .ref 146), (2, .int l2), (3, .int l3), (4, .int l4)]) 153 4 hX dX12_knees_153 rfl (inc_1 _) (by decide) rfl ?_
  refine w_goto (tgt := 51) 156 hX (by decide) dX12_knees_156 ?_
  exact w_sub [1, 2, 3, 4, 0] rfl (hk51 l2 l3 l4 (l5 + 1) h)
def FX12_knees_146_b135 (k92 : Int32 → Int32 → Int32 → Int32 → Int32 → Int32 → Mem → Option Int32) (l2 l3 l4 l5 l7 t0 t1 : Int32) (u : Mem) : Option Int32 :=
  k92 l2 l3 l4 l5 (t0 + t1) (l7 + 1) u
theorem bX12_knees_146_135 {G : Gt} {X : Xt} {v : Int32} {u : Mem} (hX : CxOk G X cX12_knees 8 RX12 (some (.int v), SH, RHO, u) 3) (hR : CxRet G X (some .int) (some (.int v), SH, RHO, u)) {k92 : Int32 → Int32 → Int32 → Int32 → Int32 → Int32 → Mem → Option Int32} (hk92 : ∀ (l2 l3 l4 l5 l6 l7 : Int32), k92 l2 l3 l4 l5 l6 l7 u = some v → WM G X 92 [(0, .ref 146), (2, .int l2), (3, .int l3), (4, .int l4), (5, .int l5), (6, .int l6), (7, .int l7)] [] SH RHO u) (l2 l3 l4 l5 l7 t0 t1 : Int32) (h : FX12_knees_146_b135 k92 l2 l3 l4 l5 l7 t0 t1 u = some v) : WM G X 135 [(0, .ref 146), (2, .int l2), (3, .int l3), (4, .int l4), (5, .int l5), (7, .int l7)] [.int t1, .int t0] SH RHO u := by
  unfold FX12_knees_146_b135 at h
  refine w_iadd 135 hX dX12_knees_135 ?_
  refine w_istore (lv' := [(6, .int (t0 + t1)), (0, .ref 146), (2, .int l2), (3, .int l3), (4, .int l4), (5, .int l5), (7, .int l7)]) 136 hX dX12_knees_136 (by decide) rfl ?_
  refine w_iinc (lv' := [(7, .int (l7 + 1)), (6, .int (t0 + t1)), (0, .ref 146), (2, .int l2), (3, .int l3), (4, .int l4), (5, .int l5)]) 138 6 hX dX12_knees_138 rfl (inc_1 _) (by decide) rfl ?_
  refine w_goto (tgt := 92) 141 hX (by decide) dX12_knees_141 ?_
  exact w_sub [2, 3, 4, 5, 6, 1, 0] rfl (hk92 l2 l3 l4 l5 (t0 + t1) (l7 + 1) h)
def FX12_knees_146_b92 (k51 : Int32 → Int32 → Int32 → Int32 → Mem → Option Int32) (k92 : Int32 → Int32 → Int32 → Int32 → Int32 → Int32 → Mem → Option Int32) (l2 l3 l4 l5 l6 l7 : Int32) (u : Mem) : Option Int32 :=
  (if (u 147 78) ≤ l7 then ((FX12_lesser l4 l6).bind fun x2 => FX12_knees_146_b153 k51 l2 l3 x2 l5 u) else ((if ((l5 >>> (l7 &&& 31)) &&& 1) = 1 then ((FX12_toldBy_146 l7 u).bind fun x4 => (FX12_count (x4 &&& (l5 ^^^ (-1)))).bind fun x5 => FX12_knees_146_b135 k92 l2 l3 l4 l5 l7 l6 x5 u) else (FX12_knees_146_b135 k92 l2 l3 l4 l5 l7 l6 0 u))))
theorem bX12_knees_146_92 {G : Gt} {X : Xt} {v : Int32} {u : Mem} (hX : CxOk G X cX12_knees 8 RX12 (some (.int v), SH, RHO, u) 3) (hR : CxRet G X (some .int) (some (.int v), SH, RHO, u)) {k51 : Int32 → Int32 → Int32 → Int32 → Mem → Option Int32} (hk51 : ∀ (l2 l3 l4 l5 : Int32), k51 l2 l3 l4 l5 u = some v → WM G X 51 [(0, .ref 146), (2, .int l2), (3, .int l3), (4, .int l4), (5, .int l5)] [] SH RHO u) {k92 : Int32 → Int32 → Int32 → Int32 → Int32 → Int32 → Mem → Option Int32} (hk92 : ∀ (l2 l3 l4 l5 l6 l7 : Int32), k92 l2 l3 l4 l5 l6 l7 u = some v → WM G X 92 [(0, .ref 146), (2, .int l2), (3, .int l3), (4, .int l4), (5, .int l5), (6, .int l6), (7, .int l7)] [] SH RHO u) (l2 l3 l4 l5 l6 l7 : Int32) (h : FX12_knees_146_b92 k51 k92 l2 l3 l4 l5 l6 l7 u = some v) : WM G X 92 [(0, .ref 146), (2, .int l2), (3, .int l3), (4, .int l4), (5, .int l5), (6, .int l6), (7, .int l7)] [] SH RHO u := by
  unfold FX12_knees_146_b92 at h
  refine w_iload 6 92 hX rfl dX12_knees_92 ?_
  refine w_aload_n 0 94 hX rfl rfl dX12_knees_94 ?_
  refine w_getR 95 hX CI_12 s_146 rfl r_146_0 fl_X12_7 rfl dX12_knees_95 ?_
  refine w_bipush 78 98 hX ib_78 dX12_knees_98 ?_
  refine w_iald 100 hX s_147 (rdK 78 78 n_78 (by decide) (by decide)) dX12_knees_100 ?_
  refine w_icmp_ge (tgt := 144) 101 hX dX12_knees_101 (by decide) (fun c1 => ?_) (fun c1 => ?_)
  · have h := it h c1
    refine w_iload 3 144 hX rfl dX12_knees_144 ?_
    refine w_iload 5 146 hX rfl dX12_knees_146 ?_
    obtain ⟨x2, gx2, h⟩ := o_bind h
    refine w_invSi (av := [.int l4, .int l6]) (st := []) 148 hX ms_yX12_lesser mi_yX12_lesser ml_X12_297 (CX12_lesser l4 l6 u gx2) rfl (by decide) (Nat.le_of_ble_eq_true rfl) (Nat.le_refl _) (Nat.le_refl _) dX12_knees_148 ?_
    refine w_istore (lv' := [(4, .int x2), (0, .ref 146), (2, .int l2), (3, .int l3), (5, .int l5), (6, .int l6), (7, .int l7)]) 151 hX dX12_knees_151 (by decide) rfl ?_
    exact w_sub [1, 2, 3, 0, 4] rfl (bX12_knees_146_153 hX hR hk51 l2 l3 x2 l5 h)
  · have h := ie h c1
    refine w_iload 5 104 hX rfl dX12_knees_104 ?_
    refine w_iload 4 106 hX rfl dX12_knees_106 ?_
    refine w_iload 6 108 hX rfl dX12_knees_108 ?_
    refine w_ishr 110 hX dX12_knees_110 ?_
    refine w_iconst 1 111 hX ic_1 dX12_knees_111 ?_
    refine w_iand 112 hX dX12_knees_112 ?_
    refine w_iconst 1 113 hX ic_1 dX12_knees_113 ?_
    refine w_icmp_ne (tgt := 134) 114 hX dX12_knees_114 (by decide) (fun c3 => ?_) (fun c3 => ?_)
    · have h := ie h c3
      refine w_iconst 0 134 hX ic_0 dX12_knees_134 ?_
      exact w_sub [0, 1, 2, 3, 4, 6] rfl (bX12_knees_146_135 hX hR hk92 l2 l3 l4 l5 l7 l6 0 h)
    · have h := it h c3
      refine w_aload_n 0 117 hX rfl rfl dX12_knees_117 ?_
      refine w_iload 6 118 hX rfl dX12_knees_118 ?_
      obtain ⟨x4, gx4, h⟩ := o_bind h
      refine w_invVi (av := [.int l7]) (st := [.int l6]) 120 hX CI_12 s_146 rfl mv_yX12_toldBy mi_yX12_toldBy ml_X12_370 (CX12_toldBy_146 l7 u gx4) rfl (by decide) (Nat.le_of_ble_eq_true rfl) (Nat.le_refl _) (Nat.le_refl _) dX12_knees_120 ?_
      refine w_iload 4 123 hX rfl dX12_knees_123 ?_
      refine w_iconst (-1) 125 hX ic_m1 dX12_knees_125 ?_
      refine w_ixor 126 hX dX12_knees_126 ?_
      refine w_iand 127 hX dX12_knees_127 ?_
      obtain ⟨x5, gx5, h⟩ := o_bind h
      refine w_invSi (av := [.int (x4 &&& (l5 ^^^ (-1)))]) (st := [.int l6]) 128 hX ms_yX12_count mi_yX12_count ml_X12_291 (CX12_count (x4 &&& (l5 ^^^ (-1))) u gx5) rfl (by decide) (Nat.le_of_ble_eq_true rfl) (Nat.le_refl _) (Nat.le_refl _) dX12_knees_128 ?_
      refine w_goto (tgt := 135) 131 hX (by decide) dX12_knees_131 ?_
      exact w_sub [0, 1, 2, 3, 4, 6] rfl (bX12_knees_146_135 hX hR hk92 l2 l3 l4 l5 l7 l6 x5 h)
def FX12_knees_146_L92 (k51 : Int32 → Int32 → Int32 → Int32 → Mem → Option Int32) : Nat → Int32 → Int32 → Int32 → Int32 → Int32 → Int32 → Mem → Option Int32
  | 0, _, _, _, _, _, _, _ => none
  | n + 1, l2, l3, l4, l5, l6, l7, u => FX12_knees_146_b92 k51 (FX12_knees_146_L92 k51 n) l2 l3 l4 l5 l6 l7 u
theorem lX12_knees_146_92 {G : Gt} {X : Xt} {v : Int32} {u : Mem} (hX : CxOk G X cX12_knees 8 RX12 (some (.int v), SH, RHO, u) 3) (hR : CxRet G X (some .int) (some (.int v), SH, RHO, u)) {k51 : Int32 → Int32 → Int32 → Int32 → Mem → Option Int32} (hk51 : ∀ (l2 l3 l4 l5 : Int32), k51 l2 l3 l4 l5 u = some v → WM G X 51 [(0, .ref 146), (2, .int l2), (3, .int l3), (4, .int l4), (5, .int l5)] [] SH RHO u) : ∀ (n : Nat) (l2 l3 l4 l5 l6 l7 : Int32), FX12_knees_146_L92 k51 n l2 l3 l4 l5 l6 l7 u = some v → WM G X 92 [(0, .ref 146), (2, .int l2), (3, .int l3), (4, .int l4), (5, .int l5), (6, .int l6), (7, .int l7)] [] SH RHO u := by
  intro n
  induction n with
  | zero =>
    intro l2 l3 l4 l5 l6 l7 h
    exact nn_ h
  | succ n ih =>
    intro l2 l3 l4 l5 l6 l7 h
    exact bX12_knees_146_92 hX hR hk51 ih l2 l3 l4 l5 l6 l7 h
def FX12_knees_146_b51 (k51 : Int32 → Int32 → Int32 → Int32 → Mem → Option Int32) (l2 l3 l4 l5 : Int32) (u : Mem) : Option Int32 :=
  (if ((1 : Int32) <<< ((u 147 78) &&& 31)) ≤ l5 then (some l4) else ((if (l5 &&& l3) = l3 then ((if ((l5 >>> (l2 &&& 31)) &&& 1) = 1 then (FX12_knees_146_b153 k51 l2 l3 l4 l5 u) else (FX12_knees_146_L92 k51 FU l2 l3 l4 l5 0 0 u))) else (FX12_knees_146_b153 k51 l2 l3 l4 l5 u))))
theorem bX12_knees_146_51 {G : Gt} {X : Xt} {v : Int32} {u : Mem} (hX : CxOk G X cX12_knees 8 RX12 (some (.int v), SH, RHO, u) 3) (hR : CxRet G X (some .int) (some (.int v), SH, RHO, u)) {k51 : Int32 → Int32 → Int32 → Int32 → Mem → Option Int32} (hk51 : ∀ (l2 l3 l4 l5 : Int32), k51 l2 l3 l4 l5 u = some v → WM G X 51 [(0, .ref 146), (2, .int l2), (3, .int l3), (4, .int l4), (5, .int l5)] [] SH RHO u) (l2 l3 l4 l5 : Int32) (h : FX12_knees_146_b51 k51 l2 l3 l4 l5 u = some v) : WM G X 51 [(0, .ref 146), (2, .int l2), (3, .int l3), (4, .int l4), (5, .int l5)] [] SH RHO u := by
  unfold FX12_knees_146_b51 at h
  refine w_iload 4 51 hX rfl dX12_knees_51 ?_
  refine w_iconst 1 53 hX ic_1 dX12_knees_53 ?_
  refine w_aload_n 0 54 hX rfl rfl dX12_knees_54 ?_
  refine w_getR 55 hX CI_12 s_146 rfl r_146_0 fl_X12_7 rfl dX12_knees_55 ?_
  refine w_bipush 78 58 hX ib_78 dX12_knees_58 ?_
  refine w_iald 60 hX s_147 (rdK 78 78 n_78 (by decide) (by decide)) dX12_knees_60 ?_
  refine w_ishl 61 hX dX12_knees_61 ?_
  refine w_icmp_ge (tgt := 159) 62 hX dX12_knees_62 (by decide) (fun c1 => ?_) (fun c1 => ?_)
  · have h := it h c1
    refine w_iload 3 159 hX rfl dX12_knees_159 ?_
    exact w_iret 161 hX hR dX12_knees_161 (by cases h; rfl)
  · have h := ie h c1
    refine w_iload 4 65 hX rfl dX12_knees_65 ?_
    refine w_iload_n 2 67 hX rfl rfl dX12_knees_67 ?_
    refine w_iand 68 hX dX12_knees_68 ?_
    refine w_iload_n 2 69 hX rfl rfl dX12_knees_69 ?_
    refine w_icmp_ne (tgt := 153) 70 hX dX12_knees_70 (by decide) (fun c2 => ?_) (fun c2 => ?_)
    · have h := ie h c2
      exact bX12_knees_146_153 hX hR hk51 l2 l3 l4 l5 h
    · have h := it h c2
      refine w_iload 4 73 hX rfl dX12_knees_73 ?_
      refine w_iload_n 1 75 hX rfl rfl dX12_knees_75 ?_
      refine w_ishr 76 hX dX12_knees_76 ?_
      refine w_iconst 1 77 hX ic_1 dX12_knees_77 ?_
      refine w_iand 78 hX dX12_knees_78 ?_
      refine w_iconst 1 79 hX ic_1 dX12_knees_79 ?_
      refine w_icmp_ne (tgt := 86) 80 hX dX12_knees_80 (by decide) (fun c3 => ?_) (fun c3 => ?_)
      · have h := ie h c3
        refine w_iconst 0 86 hX ic_0 dX12_knees_86 ?_
        refine w_istore (lv' := [(6, .int 0), (0, .ref 146), (2, .int l2), (3, .int l3), (4, .int l4), (5, .int l5)]) 87 hX dX12_knees_87 (by decide) rfl ?_
        refine w_iconst 0 89 hX ic_0 dX12_knees_89 ?_
        refine w_istore (lv' := [(7, .int 0), (6, .int 0), (0, .ref 146), (2, .int l2), (3, .int l3), (4, .int l4), (5, .int l5)]) 90 hX dX12_knees_90 (by decide) rfl ?_
        exact w_sub [2, 3, 4, 5, 6, 1, 0] rfl (lX12_knees_146_92 hX hR hk51 FU l2 l3 l4 l5 0 0 h)
      · have h := it h c3
        refine w_goto (tgt := 153) 83 hX (by decide) dX12_knees_83 ?_
        exact bX12_knees_146_153 hX hR hk51 l2 l3 l4 l5 h
def FX12_knees_146_L51 : Nat → Int32 → Int32 → Int32 → Int32 → Mem → Option Int32
  | 0, _, _, _, _, _ => none
  | n + 1, l2, l3, l4, l5, u => FX12_knees_146_b51 (FX12_knees_146_L51 n) l2 l3 l4 l5 u
theorem lX12_knees_146_51 {G : Gt} {X : Xt} {v : Int32} {u : Mem} (hX : CxOk G X cX12_knees 8 RX12 (some (.int v), SH, RHO, u) 3) (hR : CxRet G X (some .int) (some (.int v), SH, RHO, u)) : ∀ (n : Nat) (l2 l3 l4 l5 : Int32), FX12_knees_146_L51 n l2 l3 l4 l5 u = some v → WM G X 51 [(0, .ref 146), (2, .int l2), (3, .int l3), (4, .int l4), (5, .int l5)] [] SH RHO u := by
  intro n
  induction n with
  | zero =>
    intro l2 l3 l4 l5 h
    exact nn_ h
  | succ n ih =>
    intro l2 l3 l4 l5 h
    exact bX12_knees_146_51 hX hR ih l2 l3 l4 l5 h
def FX12_knees_146 (p1 p2 : Int32) (u : Mem) : Option Int32 :=
  (FX12_isIn p1 0 7).bind fun x1 => (if x1 = 0 then (some (-1)) else ((FX12_isMan_146 p2 u).bind fun x3 => (if x3 = 0 then (some (-1)) else ((rdA u 147 1786 (16 + p2)).bind fun x5 => (if ((x5 >>> (p1 &&& 31)) &&& 1) = 1 then (some (-1)) else ((FX12_knowers_146 p1 u).bind fun x7 => FX12_knees_146_L51 FU p2 x7 1000000 0 u))))))
theorem CX12_knees_146 {G : Gt} (p1 p2 : Int32) (u : Mem) {v : Int32} (h : FX12_knees_146 p1 p2 u = some v) : CT G yX12_knees cX12_knees 8 (some .int) 3 [.ref 146, .int p1, .int p2] SH RHO u (some (.int v), SH, RHO, u) :=
  ct_of (by decide) rfl (Nat.le_of_ble_eq_true rfl) (Nat.le_refl _) (Nat.le_refl _) (fun X hX hR => by
  unfold FX12_knees_146 at h
  refine w_iload_n 1 0 hX rfl rfl dX12_knees_0 ?_
  refine w_iconst 0 1 hX ic_0 dX12_knees_1 ?_
  refine w_bipush 7 2 hX ib_7 dX12_knees_2 ?_
  obtain ⟨x1, gx1, h⟩ := o_bind h
  refine w_invSi (av := [.int p1, .int 0, .int 7]) (st := []) 4 hX ms_yX12_isIn mi_yX12_isIn ml_X12_54 (CX12_isIn p1 0 7 u gx1) rfl (by decide) (Nat.le_of_ble_eq_true rfl) (Nat.le_refl _) (Nat.le_refl _) dX12_knees_4 ?_
  refine w_if_eq (tgt := 35) 7 hX dX12_knees_7 (by decide) (fun c2 => ?_) (fun c2 => ?_)
  · have h := it h c2
    refine w_iconst (-1) 35 hX ic_m1 dX12_knees_35 ?_
    exact w_iret 36 hX hR dX12_knees_36 (by cases h; rfl)
  · have h := ie h c2
    refine w_aload_n 0 10 hX rfl rfl dX12_knees_10 ?_
    refine w_iload_n 2 11 hX rfl rfl dX12_knees_11 ?_
    obtain ⟨x3, gx3, h⟩ := o_bind h
    refine w_invVi (av := [.int p2]) (st := []) 12 hX CI_12 s_146 rfl mv_yX12_isMan mi_yX12_isMan ml_X12_70 (CX12_isMan_146 p2 u gx3) rfl (by decide) (Nat.le_of_ble_eq_true rfl) (Nat.le_refl _) (Nat.le_refl _) dX12_knees_12 ?_
    refine w_if_eq (tgt := 35) 15 hX dX12_knees_15 (by decide) (fun c4 => ?_) (fun c4 => ?_)
    · have h := it h c4
      refine w_iconst (-1) 35 hX ic_m1 dX12_knees_35 ?_
      exact w_iret 36 hX hR dX12_knees_36 (by cases h; rfl)
    · have h := ie h c4
      refine w_aload_n 0 18 hX rfl rfl dX12_knees_18 ?_
      refine w_getR 19 hX CI_12 s_146 rfl r_146_0 fl_X12_7 rfl dX12_knees_19 ?_
      refine w_bipush 16 22 hX ib_16 dX12_knees_22 ?_
      refine w_iload_n 2 24 hX rfl rfl dX12_knees_24 ?_
      refine w_iadd 25 hX dX12_knees_25 ?_
      obtain ⟨x5, gx5, h⟩ := o_bind h
      refine w_iald 26 hX s_147 gx5 dX12_knees_26 ?_
      refine w_iload_n 1 27 hX rfl rfl dX12_knees_27 ?_
      refine w_ishr 28 hX dX12_knees_28 ?_
      refine w_iconst 1 29 hX ic_1 dX12_knees_29 ?_
      refine w_iand 30 hX dX12_knees_30 ?_
      refine w_iconst 1 31 hX ic_1 dX12_knees_31 ?_
      refine w_icmp_ne (tgt := 37) 32 hX dX12_knees_32 (by decide) (fun c6 => ?_) (fun c6 => ?_)
      · have h := ie h c6
        refine w_aload_n 0 37 hX rfl rfl dX12_knees_37 ?_
        refine w_iload_n 1 38 hX rfl rfl dX12_knees_38 ?_
        obtain ⟨x7, gx7, h⟩ := o_bind h
        refine w_invVi (av := [.int p1]) (st := []) 39 hX CI_12 s_146 rfl mv_yX12_knowers mi_yX12_knowers ml_X12_424 (CX12_knowers_146 p1 u gx7) rfl (by decide) (Nat.le_of_ble_eq_true rfl) (Nat.le_refl _) (Nat.le_refl _) dX12_knees_39 ?_
        refine w_istore_n (lv' := [(3, .int x7), (0, .ref 146), (1, .int p1), (2, .int p2)]) 42 hX rfl dX12_knees_42 (by decide) rfl ?_
        refine w_ldcw 1000000 43 hX cs_X12_420 dX12_knees_43 ?_
        refine w_istore (lv' := [(4, .int 1000000), (3, .int x7), (0, .ref 146), (1, .int p1), (2, .int p2)]) 46 hX dX12_knees_46 (by decide) rfl ?_
        refine w_iconst 0 48 hX ic_0 dX12_knees_48 ?_
        refine w_istore (lv' := [(5, .int 0), (4, .int 1000000), (3, .int x7), (0, .ref 146), (1, .int p1), (2, .int p2)]) 49 hX dX12_knees_49 (by decide) rfl ?_
        exact w_sub [3, 5, 2, 1, 0] rfl (lX12_knees_146_51 hX hR FU p2 x7 1000000 0 h)
      · have h := it h c6
        refine w_iconst (-1) 35 hX ic_m1 dX12_knees_35 ?_
        exact w_iret 36 hX hR dX12_knees_36 (by cases h; rfl))
def FX7_turned_b29 (k4 : Int32 → Int32 → Int32 → Int32 → Option Int32) (l0 l1 l3 t0 t1 : Int32) : Option Int32 :=
  k4 l0 l1 (t0 ||| t1) (l3 + 1)
theorem bX7_turned_29 {G : Gt} {X : Xt} {v : Int32} {u : Mem} (hX : CxOk G X cX7_turned 4 RX7 (some (.int v), SH, RHO, u) 2) (hR : CxRet G X (some .int) (some (.int v), SH, RHO, u)) {k4 : Int32 → Int32 → Int32 → Int32 → Option Int32} (hk4 : ∀ (l0 l1 l2 l3 : Int32), k4 l0 l1 l2 l3 = some v → WM G X 4 [(0, .int l0), (1, .int l1), (2, .int l2), (3, .int l3)] [] SH RHO u) (l0 l1 l3 t0 t1 : Int32) (h : FX7_turned_b29 k4 l0 l1 l3 t0 t1 = some v) : WM G X 29 [(0, .int l0), (1, .int l1), (3, .int l3)] [.int t1, .int t0] SH RHO u := by
  unfold FX7_turned_b29 at h
  refine w_ior 29 hX dX7_turned_29 ?_
  refine w_istore_n (lv' := [(2, .int (t0 ||| t1)), (0, .int l0), (1, .int l1), (3, .int l3)]) 30 hX rfl dX7_turned_30 (by decide) rfl ?_
  refine w_iinc (lv' := [(3, .int (l3 + 1)), (2, .int (t0 ||| t1)), (0, .int l0), (1, .int l1)]) 31 3 hX dX7_turned_31 rfl (inc_1 _) (by decide) rfl ?_
  refine w_goto (tgt := 4) 34 hX (by decide) dX7_turned_34 ?_
  exact w_sub [2, 3, 1, 0] rfl (hk4 l0 l1 (t0 ||| t1) (l3 + 1) h)
def FX7_turned_b4 (k4 : Int32 → Int32 → Int32 → Int32 → Option Int32) (l0 l1 l2 l3 : Int32) : Option Int32 :=
  (if l1 ≤ l3 then (some l2) else ((FX11_holds l0 l3).bind fun x2 => (if x2 = 0 then (FX7_turned_b29 k4 l0 l1 l3 l2 0) else (FX7_turned_b29 k4 l0 l1 l3 l2 ((1 : Int32) <<< (((l1 - 1) - l3) &&& 31))))))
theorem bX7_turned_4 {G : Gt} {X : Xt} {v : Int32} {u : Mem} (hX : CxOk G X cX7_turned 4 RX7 (some (.int v), SH, RHO, u) 2) (hR : CxRet G X (some .int) (some (.int v), SH, RHO, u)) {k4 : Int32 → Int32 → Int32 → Int32 → Option Int32} (hk4 : ∀ (l0 l1 l2 l3 : Int32), k4 l0 l1 l2 l3 = some v → WM G X 4 [(0, .int l0), (1, .int l1), (2, .int l2), (3, .int l3)] [] SH RHO u) (l0 l1 l2 l3 : Int32) (h : FX7_turned_b4 k4 l0 l1 l2 l3 = some v) : WM G X 4 [(0, .int l0), (1, .int l1), (2, .int l2), (3, .int l3)] [] SH RHO u := by
  unfold FX7_turned_b4 at h
  refine w_iload_n 3 4 hX rfl rfl dX7_turned_4 ?_
  refine w_iload_n 1 5 hX rfl rfl dX7_turned_5 ?_
  refine w_icmp_ge (tgt := 37) 6 hX dX7_turned_6 (by decide) (fun c1 => ?_) (fun c1 => ?_)
  · have h := it h c1
    refine w_iload_n 2 37 hX rfl rfl dX7_turned_37 ?_
    exact w_iret 38 hX hR dX7_turned_38 (by cases h; rfl)
  · have h := ie h c1
    refine w_iload_n 2 9 hX rfl rfl dX7_turned_9 ?_
    refine w_iload_n 0 10 hX rfl rfl dX7_turned_10 ?_
    refine w_iload_n 3 11 hX rfl rfl dX7_turned_11 ?_
    obtain ⟨x2, gx2, h⟩ := o_bind h
    refine w_invSNi (av := [.int l0, .int l3]) (st := [.int l2]) 12 hX ms_yX11_holds mi_yX11_holds ml_X7_59 (CX11_holds l0 l3 u gx2) rfl (by decide) (Nat.le_of_ble_eq_true rfl) (Nat.le_refl _) (Nat.le_refl _) dX7_turned_12 ?_
    refine w_if_eq (tgt := 28) 15 hX dX7_turned_15 (by decide) (fun c3 => ?_) (fun c3 => ?_)
    · have h := it h c3
      refine w_iconst 0 28 hX ic_0 dX7_turned_28 ?_
      exact w_sub [0, 1, 3] rfl (bX7_turned_29 hX hR hk4 l0 l1 l3 l2 0 h)
    · have h := ie h c3
      refine w_iconst 1 18 hX ic_1 dX7_turned_18 ?_
      refine w_iload_n 1 19 hX rfl rfl dX7_turned_19 ?_
      refine w_iconst 1 20 hX ic_1 dX7_turned_20 ?_
      refine w_isub 21 hX dX7_turned_21 ?_
      refine w_iload_n 3 22 hX rfl rfl dX7_turned_22 ?_
      refine w_isub 23 hX dX7_turned_23 ?_
      refine w_ishl 24 hX dX7_turned_24 ?_
      refine w_goto (tgt := 29) 25 hX (by decide) dX7_turned_25 ?_
      exact w_sub [0, 1, 3] rfl (bX7_turned_29 hX hR hk4 l0 l1 l3 l2 ((1 : Int32) <<< (((l1 - 1) - l3) &&& 31)) h)
def FX7_turned_L4 : Nat → Int32 → Int32 → Int32 → Int32 → Option Int32
  | 0, _, _, _, _ => none
  | n + 1, l0, l1, l2, l3 => FX7_turned_b4 (FX7_turned_L4 n) l0 l1 l2 l3
theorem lX7_turned_4 {G : Gt} {X : Xt} {v : Int32} {u : Mem} (hX : CxOk G X cX7_turned 4 RX7 (some (.int v), SH, RHO, u) 2) (hR : CxRet G X (some .int) (some (.int v), SH, RHO, u)) : ∀ (n : Nat) (l0 l1 l2 l3 : Int32), FX7_turned_L4 n l0 l1 l2 l3 = some v → WM G X 4 [(0, .int l0), (1, .int l1), (2, .int l2), (3, .int l3)] [] SH RHO u := by
  intro n
  induction n with
  | zero =>
    intro l0 l1 l2 l3 h
    exact nn_ h
  | succ n ih =>
    intro l0 l1 l2 l3 h
    exact bX7_turned_4 hX hR ih l0 l1 l2 l3 h
def FX7_turned (p0 p1 : Int32) : Option Int32 :=
  FX7_turned_L4 FU p0 p1 0 0
theorem CX7_turned {G : Gt} (p0 p1 : Int32) (u : Mem) {v : Int32} (h : FX7_turned p0 p1 = some v) : CT G yX7_turned cX7_turned 4 (some .int) 2 [.int p0, .int p1] SH RHO u (some (.int v), SH, RHO, u) :=
  ct_of (by decide) rfl (Nat.le_of_ble_eq_true rfl) (Nat.le_refl _) (Nat.le_refl _) (fun X hX hR => by
  unfold FX7_turned at h
  refine w_iconst 0 0 hX ic_0 dX7_turned_0 ?_
  refine w_istore_n (lv' := [(2, .int 0), (0, .int p0), (1, .int p1)]) 1 hX rfl dX7_turned_1 (by decide) rfl ?_
  refine w_iconst 0 2 hX ic_0 dX7_turned_2 ?_
  refine w_istore_n (lv' := [(3, .int 0), (2, .int 0), (0, .int p0), (1, .int p1)]) 3 hX rfl dX7_turned_3 (by decide) rfl ?_
  exact w_sub [2, 3, 1, 0] rfl (lX7_turned_4 hX hR FU p0 p1 0 0 h))
def FX7_breathBehind_106_b92 (l5 : Int32) (u : Mem) : Option Int32 :=
  (if 0 ≤ l5 then (some l5) else (some (-1)))
theorem bX7_breathBehind_106_92 {G : Gt} {X : Xt} {v : Int32} {u : Mem} (hX : CxOk G X cX7_breathBehind 9 RX7 (some (.int v), SH, RHO, u) 2) (hR : CxRet G X (some .int) (some (.int v), SH, RHO, u)) (l5 : Int32) (h : FX7_breathBehind_106_b92 l5 u = some v) : WM G X 92 [(5, .int l5)] [] SH RHO u := by
  unfold FX7_breathBehind_106_b92 at h
  refine w_iload 0 92 hX rfl dX7_breathBehind_92 ?_
  refine w_if_ge (tgt := 101) 94 hX dX7_breathBehind_94 (by decide) (fun c1 => ?_) (fun c1 => ?_)
  · have h := it h c1
    refine w_iload 0 101 hX rfl dX7_breathBehind_101 ?_
    exact w_iret 103 hX hR dX7_breathBehind_103 (by cases h; rfl)
  · have h := ie h c1
    refine w_iconst (-1) 97 hX ic_m1 dX7_breathBehind_97 ?_
    refine w_goto (tgt := 103) 98 hX (by decide) dX7_breathBehind_98 ?_
    exact w_iret 103 hX hR dX7_breathBehind_103 (by cases h; rfl)
def FX7_breathBehind_106_b86 (k19 : Int32 → Int32 → Int32 → Int32 → Int32 → Mem → Option Int32) (l1 l4 l5 l6 l7 : Int32) (u : Mem) : Option Int32 :=
  k19 l1 l4 l5 l6 (l7 + (-1)) u
theorem bX7_breathBehind_106_86 {G : Gt} {X : Xt} {v : Int32} {u : Mem} (hX : CxOk G X cX7_breathBehind 9 RX7 (some (.int v), SH, RHO, u) 2) (hR : CxRet G X (some .int) (some (.int v), SH, RHO, u)) {k19 : Int32 → Int32 → Int32 → Int32 → Int32 → Mem → Option Int32} (hk19 : ∀ (l1 l4 l5 l6 l7 : Int32), k19 l1 l4 l5 l6 l7 u = some v → WM G X 19 [(0, .ref 106), (1, .int l1), (4, .int l4), (5, .int l5), (6, .int l6), (7, .int l7)] [] SH RHO u) (l1 l4 l5 l6 l7 : Int32) (h : FX7_breathBehind_106_b86 k19 l1 l4 l5 l6 l7 u = some v) : WM G X 86 [(0, .ref 106), (1, .int l1), (4, .int l4), (5, .int l5), (6, .int l6), (7, .int l7)] [] SH RHO u := by
  unfold FX7_breathBehind_106_b86 at h
  refine w_iinc (lv' := [(7, .int (l7 + (-1))), (0, .ref 106), (1, .int l1), (4, .int l4), (5, .int l5), (6, .int l6)]) 86 5 hX dX7_breathBehind_86 rfl (inc_m1 _) (by decide) rfl ?_
  refine w_goto (tgt := 19) 89 hX (by decide) dX7_breathBehind_89 ?_
  exact w_sub [1, 2, 3, 4, 5, 0] rfl (hk19 l1 l4 l5 l6 (l7 + (-1)) h)
def FX7_breathBehind_106_b19 (k19 : Int32 → Int32 → Int32 → Int32 → Int32 → Mem → Option Int32) (l1 l4 l5 l6 l7 : Int32) (u : Mem) : Option Int32 :=
  (if l7 < 0 then (FX7_breathBehind_106_b92 l5 u) else ((if l5 < 0 then (FX7_breathBehind_106_b92 l5 u) else ((FX11_holds l4 l7).bind fun x3 => (if x3 = 0 then (FX7_breathBehind_106_b86 k19 l1 l4 (if (l5 + 10) < 99 then (l5 + 10) else 99) l6 l7 u) else ((rdA u 4 12 l1).bind fun x5 => FX7_breathBehind_106_b86 k19 l1 l4 (l5 - (5 * (if x5 < l6 then x5 else l6))) (l6 - (if x5 < l6 then x5 else l6)) l7 u))))))
theorem bX7_breathBehind_106_19 {G : Gt} {X : Xt} {v : Int32} {u : Mem} (hX : CxOk G X cX7_breathBehind 9 RX7 (some (.int v), SH, RHO, u) 2) (hR : CxRet G X (some .int) (some (.int v), SH, RHO, u)) {k19 : Int32 → Int32 → Int32 → Int32 → Int32 → Mem → Option Int32} (hk19 : ∀ (l1 l4 l5 l6 l7 : Int32), k19 l1 l4 l5 l6 l7 u = some v → WM G X 19 [(0, .ref 106), (1, .int l1), (4, .int l4), (5, .int l5), (6, .int l6), (7, .int l7)] [] SH RHO u) (l1 l4 l5 l6 l7 : Int32) (h : FX7_breathBehind_106_b19 k19 l1 l4 l5 l6 l7 u = some v) : WM G X 19 [(0, .ref 106), (1, .int l1), (4, .int l4), (5, .int l5), (6, .int l6), (7, .int l7)] [] SH RHO u := by
  unfold FX7_breathBehind_106_b19 at h
  refine w_iload 5 19 hX rfl dX7_breathBehind_19 ?_
  refine w_if_lt (tgt := 92) 21 hX dX7_breathBehind_21 (by decide) (fun c1 => ?_) (fun c1 => ?_)
  · have h := it h c1
    exact w_sub [3] rfl (bX7_breathBehind_106_92 hX hR l5 h)
  · have h := ie h c1
    refine w_iload 3 24 hX rfl dX7_breathBehind_24 ?_
    refine w_if_lt (tgt := 92) 26 hX dX7_breathBehind_26 (by decide) (fun c2 => ?_) (fun c2 => ?_)
    · have h := it h c2
      exact w_sub [3] rfl (bX7_breathBehind_106_92 hX hR l5 h)
    · have h := ie h c2
      refine w_iload 2 29 hX rfl dX7_breathBehind_29 ?_
      refine w_iload 5 31 hX rfl dX7_breathBehind_31 ?_
      obtain ⟨x3, gx3, h⟩ := o_bind h
      refine w_invSNi (av := [.int l4, .int l7]) (st := []) 33 hX ms_yX11_holds mi_yX11_holds ml_X7_59 (CX11_holds l4 l7 u gx3) rfl (by decide) (Nat.le_of_ble_eq_true rfl) (Nat.le_refl _) (Nat.le_refl _) dX7_breathBehind_33 ?_
      refine w_if_eq (tgt := 74) 36 hX dX7_breathBehind_36 (by decide) (fun c4 => ?_) (fun c4 => ?_)
      · have h := it h c4
        refine w_bipush 99 74 hX ib_99 dX7_breathBehind_74 ?_
        refine w_iload 3 76 hX rfl dX7_breathBehind_76 ?_
        refine w_bipush 10 78 hX ib_10 dX7_breathBehind_78 ?_
        refine w_iadd 80 hX dX7_breathBehind_80 ?_
        refine w_min 81 hX ml_X7_100 jm_min_s jm_i jm_min_c (by decide) (Nat.le_of_ble_eq_true rfl) (Nat.le_refl _) (Nat.le_refl _) dX7_breathBehind_81 ?_
        refine w_istore (lv' := [(5, .int (if (l5 + 10) < 99 then (l5 + 10) else 99)), (0, .ref 106), (1, .int l1), (4, .int l4), (6, .int l6), (7, .int l7)]) 84 hX dX7_breathBehind_84 (by decide) rfl ?_
        exact w_sub [1, 2, 3, 0, 4, 5] rfl (bX7_breathBehind_106_86 hX hR hk19 l1 l4 (if (l5 + 10) < 99 then (l5 + 10) else 99) l6 l7 h)
      · have h := ie h c4
        refine w_iload 4 39 hX rfl dX7_breathBehind_39 ?_
        refine w_aload_n 0 41 hX rfl rfl dX7_breathBehind_41 ?_
        refine w_getR 42 hX CI_7 s_106 rfl r_106_0 fl_X7_36 rfl dX7_breathBehind_42 ?_
        refine w_getR 45 hX CI_9 s_1 rfl r_1_3 fl_X7_81 rfl dX7_breathBehind_45 ?_
        refine w_iload_n 1 48 hX rfl rfl dX7_breathBehind_48 ?_
        obtain ⟨x5, gx5, h⟩ := o_bind h
        refine w_iald 49 hX s_4 gx5 dX7_breathBehind_49 ?_
        refine w_min 50 hX ml_X7_100 jm_min_s jm_i jm_min_c (by decide) (Nat.le_of_ble_eq_true rfl) (Nat.le_refl _) (Nat.le_refl _) dX7_breathBehind_50 ?_
        refine w_istore (lv' := [(8, .int (if x5 < l6 then x5 else l6)), (0, .ref 106), (1, .int l1), (4, .int l4), (5, .int l5), (6, .int l6), (7, .int l7)]) 53 hX dX7_breathBehind_53 (by decide) rfl ?_
        refine w_iload 5 55 hX rfl dX7_breathBehind_55 ?_
        refine w_iload 0 57 hX rfl dX7_breathBehind_57 ?_
        refine w_isub 59 hX dX7_breathBehind_59 ?_
        refine w_istore (lv' := [(6, .int (l6 - (if x5 < l6 then x5 else l6))), (8, .int (if x5 < l6 then x5 else l6)), (0, .ref 106), (1, .int l1), (4, .int l4), (5, .int l5), (7, .int l7)]) 60 hX dX7_breathBehind_60 (by decide) rfl ?_
        refine w_iload 5 62 hX rfl dX7_breathBehind_62 ?_
        refine w_iconst 5 64 hX ic_5 dX7_breathBehind_64 ?_
        refine w_iload 1 65 hX rfl dX7_breathBehind_65 ?_
        refine w_imul 67 hX dX7_breathBehind_67 ?_
        refine w_isub 68 hX dX7_breathBehind_68 ?_
        refine w_istore (lv' := [(5, .int (l5 - (5 * (if x5 < l6 then x5 else l6)))), (6, .int (l6 - (if x5 < l6 then x5 else l6))), (8, .int (if x5 < l6 then x5 else l6)), (0, .ref 106), (1, .int l1), (4, .int l4), (7, .int l7)]) 69 hX dX7_breathBehind_69 (by decide) rfl ?_
        refine w_goto (tgt := 86) 71 hX (by decide) dX7_breathBehind_71 ?_
        exact w_sub [3, 4, 5, 0, 1, 6] rfl (bX7_breathBehind_106_86 hX hR hk19 l1 l4 (l5 - (5 * (if x5 < l6 then x5 else l6))) (l6 - (if x5 < l6 then x5 else l6)) l7 h)
def FX7_breathBehind_106_L19 : Nat → Int32 → Int32 → Int32 → Int32 → Int32 → Mem → Option Int32
  | 0, _, _, _, _, _, _ => none
  | n + 1, l1, l4, l5, l6, l7, u => FX7_breathBehind_106_b19 (FX7_breathBehind_106_L19 n) l1 l4 l5 l6 l7 u
theorem lX7_breathBehind_106_19 {G : Gt} {X : Xt} {v : Int32} {u : Mem} (hX : CxOk G X cX7_breathBehind 9 RX7 (some (.int v), SH, RHO, u) 2) (hR : CxRet G X (some .int) (some (.int v), SH, RHO, u)) : ∀ (n : Nat) (l1 l4 l5 l6 l7 : Int32), FX7_breathBehind_106_L19 n l1 l4 l5 l6 l7 u = some v → WM G X 19 [(0, .ref 106), (1, .int l1), (4, .int l4), (5, .int l5), (6, .int l6), (7, .int l7)] [] SH RHO u := by
  intro n
  induction n with
  | zero =>
    intro l1 l4 l5 l6 l7 h
    exact nn_ h
  | succ n ih =>
    intro l1 l4 l5 l6 l7 h
    exact bX7_breathBehind_106_19 hX hR ih l1 l4 l5 l6 l7 h
def FX7_breathBehind_106 (p1 p2 p3 p4 : Int32) (u : Mem) : Option Int32 :=
  (rdA u 24 12 p1).bind fun x1 => FX7_breathBehind_106_L19 FU p1 p4 x1 p2 (p3 - 1) u
theorem CX7_breathBehind_106 {G : Gt} (p1 p2 p3 p4 : Int32) (u : Mem) {v : Int32} (h : FX7_breathBehind_106 p1 p2 p3 p4 u = some v) : CT G yX7_breathBehind cX7_breathBehind 9 (some .int) 2 [.ref 106, .int p1, .int p2, .int p3, .int p4] SH RHO u (some (.int v), SH, RHO, u) :=
  ct_of (by decide) rfl (Nat.le_of_ble_eq_true rfl) (Nat.le_refl _) (Nat.le_refl _) (fun X hX hR => by
  unfold FX7_breathBehind_106 at h
  refine w_aload_n 0 0 hX rfl rfl dX7_breathBehind_0 ?_
  refine w_getR 1 hX CI_7 s_106 rfl r_106_1 fl_X7_40 rfl dX7_breathBehind_1 ?_
  refine w_getR 4 hX CI_0 s_23 rfl r_23_0 fl_X7_97 rfl dX7_breathBehind_4 ?_
  refine w_iload_n 1 7 hX rfl rfl dX7_breathBehind_7 ?_
  obtain ⟨x1, gx1, h⟩ := o_bind h
  refine w_iald 8 hX s_24 gx1 dX7_breathBehind_8 ?_
  refine w_istore (lv' := [(5, .int x1), (0, .ref 106), (1, .int p1), (2, .int p2), (3, .int p3), (4, .int p4)]) 9 hX dX7_breathBehind_9 (by decide) rfl ?_
  refine w_iload_n 3 11 hX rfl rfl dX7_breathBehind_11 ?_
  refine w_istore (lv' := [(6, .int p2), (5, .int x1), (0, .ref 106), (1, .int p1), (2, .int p2), (3, .int p3), (4, .int p4)]) 12 hX dX7_breathBehind_12 (by decide) rfl ?_
  refine w_iload_n 5 14 hX rfl rfl dX7_breathBehind_14 ?_
  refine w_iconst 1 15 hX ic_1 dX7_breathBehind_15 ?_
  refine w_isub 16 hX dX7_breathBehind_16 ?_
  refine w_istore (lv' := [(7, .int (p3 - 1)), (6, .int p2), (5, .int x1), (0, .ref 106), (1, .int p1), (2, .int p2), (3, .int p3), (4, .int p4)]) 17 hX dX7_breathBehind_17 (by decide) rfl ?_
  exact w_sub [3, 4, 7, 2, 1, 0] rfl (lX7_breathBehind_106_19 hX hR FU p1 p4 x1 p2 (p3 - 1) h))
def FX7_bestMarch_106_b124 (l6 : Int32) (u : Mem) : Option Int32 :=
  some l6
theorem bX7_bestMarch_106_124 {G : Gt} {X : Xt} {v : Int32} {u : Mem} (hX : CxOk G X cX7_bestMarch 10 RX7 (some (.int v), SH, RHO, u) 3) (hR : CxRet G X (some .int) (some (.int v), SH, RHO, u)) (l6 : Int32) (h : FX7_bestMarch_106_b124 l6 u = some v) : WM G X 124 [(6, .int l6)] [] SH RHO u := by
  unfold FX7_bestMarch_106_b124 at h
  refine w_iload 0 124 hX rfl dX7_bestMarch_124 ?_
  refine w_goto (tgt := 135) 126 hX (by decide) dX7_bestMarch_126 ?_
  exact w_iret 135 hX hR dX7_bestMarch_135 (by cases h; rfl)
def FX7_bestMarch_106_b107 (k59 : Int32 → Int32 → Int32 → Int32 → Int32 → Int32 → Int32 → Int32 → Mem → Option Int32) (l1 l2 l3 l4 l5 l6 l7 l8 : Int32) (u : Mem) : Option Int32 :=
  k59 l1 l2 l3 l4 l5 l6 l7 (l8 + 1) u
theorem bX7_bestMarch_106_107 {G : Gt} {X : Xt} {v : Int32} {u : Mem} (hX : CxOk G X cX7_bestMarch 10 RX7 (some (.int v), SH, RHO, u) 3) (hR : CxRet G X (some .int) (some (.int v), SH, RHO, u)) {k59 : Int32 → Int32 → Int32 → Int32 → Int32 → Int32 → Int32 → Int32 → Mem → Option Int32} (hk59 : ∀ (l1 l2 l3 l4 l5 l6 l7 l8 : Int32), k59 l1 l2 l3 l4 l5 l6 l7 l8 u = some v → WM G X 59 [(0, .ref 106), (1, .int l1), (2, .int l2), (3, .int l3), (4, .int l4), (5, .int l5), (6, .int l6), (7, .int l7), (8, .int l8)] [] SH RHO u) (l1 l2 l3 l4 l5 l6 l7 l8 : Int32) (h : FX7_bestMarch_106_b107 k59 l1 l2 l3 l4 l5 l6 l7 l8 u = some v) : WM G X 107 [(0, .ref 106), (1, .int l1), (2, .int l2), (3, .int l3), (4, .int l4), (5, .int l5), (6, .int l6), (7, .int l7), (8, .int l8)] [] SH RHO u := by
  unfold FX7_bestMarch_106_b107 at h
  refine w_iinc (lv' := [(8, .int (l8 + 1)), (0, .ref 106), (1, .int l1), (2, .int l2), (3, .int l3), (4, .int l4), (5, .int l5), (6, .int l6), (7, .int l7)]) 107 8 hX dX7_bestMarch_107 rfl (inc_1 _) (by decide) rfl ?_
  refine w_goto (tgt := 59) 110 hX (by decide) dX7_bestMarch_110 ?_
  exact w_sub [1, 2, 3, 4, 5, 6, 7, 8, 0] rfl (hk59 l1 l2 l3 l4 l5 l6 l7 (l8 + 1) h)
def FX7_bestMarch_106_b90 (k59 : Int32 → Int32 → Int32 → Int32 → Int32 → Int32 → Int32 → Int32 → Mem → Option Int32) (l1 l2 l3 l4 l5 l6 l7 l8 t0 : Int32) (u : Mem) : Option Int32 :=
  (if t0 ≤ l6 then (FX7_bestMarch_106_b107 k59 l1 l2 l3 l4 l5 l6 l7 l8 u) else (FX7_bestMarch_106_b107 k59 l1 l2 l3 l4 l5 t0 l8 l8 u))
theorem bX7_bestMarch_106_90 {G : Gt} {X : Xt} {v : Int32} {u : Mem} (hX : CxOk G X cX7_bestMarch 10 RX7 (some (.int v), SH, RHO, u) 3) (hR : CxRet G X (some .int) (some (.int v), SH, RHO, u)) {k59 : Int32 → Int32 → Int32 → Int32 → Int32 → Int32 → Int32 → Int32 → Mem → Option Int32} (hk59 : ∀ (l1 l2 l3 l4 l5 l6 l7 l8 : Int32), k59 l1 l2 l3 l4 l5 l6 l7 l8 u = some v → WM G X 59 [(0, .ref 106), (1, .int l1), (2, .int l2), (3, .int l3), (4, .int l4), (5, .int l5), (6, .int l6), (7, .int l7), (8, .int l8)] [] SH RHO u) (l1 l2 l3 l4 l5 l6 l7 l8 t0 : Int32) (h : FX7_bestMarch_106_b90 k59 l1 l2 l3 l4 l5 l6 l7 l8 t0 u = some v) : WM G X 90 [(0, .ref 106), (1, .int l1), (2, .int l2), (3, .int l3), (4, .int l4), (5, .int l5), (6, .int l6), (7, .int l7), (8, .int l8)] [.int t0] SH RHO u := by
  unfold FX7_bestMarch_106_b90 at h
  refine w_istore (lv' := [(9, .int t0), (0, .ref 106), (1, .int l1), (2, .int l2), (3, .int l3), (4, .int l4), (5, .int l5), (6, .int l6), (7, .int l7), (8, .int l8)]) 90 hX dX7_bestMarch_90 (by decide) rfl ?_
  refine w_iload 0 92 hX rfl dX7_bestMarch_92 ?_
  refine w_iload 7 94 hX rfl dX7_bestMarch_94 ?_
  refine w_icmp_le (tgt := 107) 96 hX dX7_bestMarch_96 (by decide) (fun c1 => ?_) (fun c1 => ?_)
  · have h := it h c1
    exact w_sub [1, 2, 3, 4, 5, 6, 7, 8, 9] rfl (bX7_bestMarch_106_107 hX hR hk59 l1 l2 l3 l4 l5 l6 l7 l8 h)
  · have h := ie h c1
    refine w_iload 0 99 hX rfl dX7_bestMarch_99 ?_
    refine w_istore (lv' := [(6, .int t0), (9, .int t0), (0, .ref 106), (1, .int l1), (2, .int l2), (3, .int l3), (4, .int l4), (5, .int l5), (7, .int l7), (8, .int l8)]) 101 hX dX7_bestMarch_101 (by decide) rfl ?_
    refine w_iload 9 103 hX rfl dX7_bestMarch_103 ?_
    refine w_istore (lv' := [(7, .int l8), (6, .int t0), (9, .int t0), (0, .ref 106), (1, .int l1), (2, .int l2), (3, .int l3), (4, .int l4), (5, .int l5), (8, .int l8)]) 105 hX dX7_bestMarch_105 (by decide) rfl ?_
    exact w_sub [3, 4, 5, 6, 7, 8, 1, 0, 9] rfl (bX7_bestMarch_106_107 hX hR hk59 l1 l2 l3 l4 l5 t0 l8 l8 h)
def FX7_bestMarch_106_b59 (k59 : Int32 → Int32 → Int32 → Int32 → Int32 → Int32 → Int32 → Int32 → Mem → Option Int32) (l1 l2 l3 l4 l5 l6 l7 l8 : Int32) (u : Mem) : Option Int32 :=
  (if ((1 : Int32) <<< (l3 &&& 31)) ≤ l8 then ((if l4 = 0 then (FX7_bestMarch_106_b124 l6 u) else ((if l7 = (-1) then (FX7_bestMarch_106_b124 l6 u) else ((FX7_turned l7 l3).bind fun x4 => some x4))))) else ((FJ6_bitCount_0f7a4 l8).bind fun x5 => (if x5 = l5 then ((FX7_breathBehind_106 l1 l2 l3 l8 u).bind fun x7 => FX7_bestMarch_106_b90 k59 l1 l2 l3 l4 l5 l6 l7 l8 x7 u) else (FX7_bestMarch_106_b90 k59 l1 l2 l3 l4 l5 l6 l7 l8 (-1) u))))
theorem bX7_bestMarch_106_59 {G : Gt} {X : Xt} {v : Int32} {u : Mem} (hX : CxOk G X cX7_bestMarch 10 RX7 (some (.int v), SH, RHO, u) 3) (hR : CxRet G X (some .int) (some (.int v), SH, RHO, u)) {k59 : Int32 → Int32 → Int32 → Int32 → Int32 → Int32 → Int32 → Int32 → Mem → Option Int32} (hk59 : ∀ (l1 l2 l3 l4 l5 l6 l7 l8 : Int32), k59 l1 l2 l3 l4 l5 l6 l7 l8 u = some v → WM G X 59 [(0, .ref 106), (1, .int l1), (2, .int l2), (3, .int l3), (4, .int l4), (5, .int l5), (6, .int l6), (7, .int l7), (8, .int l8)] [] SH RHO u) (l1 l2 l3 l4 l5 l6 l7 l8 : Int32) (h : FX7_bestMarch_106_b59 k59 l1 l2 l3 l4 l5 l6 l7 l8 u = some v) : WM G X 59 [(0, .ref 106), (1, .int l1), (2, .int l2), (3, .int l3), (4, .int l4), (5, .int l5), (6, .int l6), (7, .int l7), (8, .int l8)] [] SH RHO u := by
  unfold FX7_bestMarch_106_b59 at h
  refine w_iload 8 59 hX rfl dX7_bestMarch_59 ?_
  refine w_iconst 1 61 hX ic_1 dX7_bestMarch_61 ?_
  refine w_iload_n 3 62 hX rfl rfl dX7_bestMarch_62 ?_
  refine w_ishl 63 hX dX7_bestMarch_63 ?_
  refine w_icmp_ge (tgt := 113) 64 hX dX7_bestMarch_64 (by decide) (fun c1 => ?_) (fun c1 => ?_)
  · have h := it h c1
    refine w_iload 4 113 hX rfl dX7_bestMarch_113 ?_
    refine w_if_eq (tgt := 124) 115 hX dX7_bestMarch_115 (by decide) (fun c2 => ?_) (fun c2 => ?_)
    · have h := it h c2
      exact w_sub [6] rfl (bX7_bestMarch_106_124 hX hR l6 h)
    · have h := ie h c2
      refine w_iload 7 118 hX rfl dX7_bestMarch_118 ?_
      refine w_iconst (-1) 120 hX ic_m1 dX7_bestMarch_120 ?_
      refine w_icmp_ne (tgt := 129) 121 hX dX7_bestMarch_121 (by decide) (fun c3 => ?_) (fun c3 => ?_)
      · have h := ie h c3
        refine w_iload 7 129 hX rfl dX7_bestMarch_129 ?_
        refine w_iload_n 3 131 hX rfl rfl dX7_bestMarch_131 ?_
        obtain ⟨x4, gx4, h⟩ := o_bind h
        refine w_invSi (av := [.int l7, .int l3]) (st := []) 132 hX ms_yX7_turned mi_yX7_turned ml_X7_93 (CX7_turned l7 l3 u gx4) rfl (by decide) (Nat.le_of_ble_eq_true rfl) (Nat.le_refl _) (Nat.le_refl _) dX7_bestMarch_132 ?_
        exact w_iret 135 hX hR dX7_bestMarch_135 (by cases h; rfl)
      · have h := it h c3
        exact w_sub [6] rfl (bX7_bestMarch_106_124 hX hR l6 h)
  · have h := ie h c1
    refine w_iload 8 67 hX rfl dX7_bestMarch_67 ?_
    obtain ⟨x5, gx5, h⟩ := o_bind h
    refine w_invSi (av := [.int l8]) (st := []) 69 hX ms_yJ6_bitCount_0f7a4 mi_yJ6_bitCount_0f7a4 ml_X7_84 (CJ6_bitCount_0f7a4 l8 u gx5) rfl (by decide) (Nat.le_of_ble_eq_true rfl) (Nat.le_refl _) (Nat.le_refl _) dX7_bestMarch_69 ?_
    refine w_iload 5 72 hX rfl dX7_bestMarch_72 ?_
    refine w_icmp_ne (tgt := 89) 74 hX dX7_bestMarch_74 (by decide) (fun c6 => ?_) (fun c6 => ?_)
    · have h := ie h c6
      refine w_iconst (-1) 89 hX ic_m1 dX7_bestMarch_89 ?_
      exact bX7_bestMarch_106_90 hX hR hk59 l1 l2 l3 l4 l5 l6 l7 l8 (-1) h
    · have h := it h c6
      refine w_aload_n 0 77 hX rfl rfl dX7_bestMarch_77 ?_
      refine w_iload_n 1 78 hX rfl rfl dX7_bestMarch_78 ?_
      refine w_iload_n 2 79 hX rfl rfl dX7_bestMarch_79 ?_
      refine w_iload_n 3 80 hX rfl rfl dX7_bestMarch_80 ?_
      refine w_iload 8 81 hX rfl dX7_bestMarch_81 ?_
      obtain ⟨x7, gx7, h⟩ := o_bind h
      refine w_invVi (av := [.int l1, .int l2, .int l3, .int l8]) (st := []) 83 hX CI_7 s_106 rfl mv_yX7_breathBehind mi_yX7_breathBehind ml_X7_89 (CX7_breathBehind_106 l1 l2 l3 l8 u gx7) rfl (by decide) (Nat.le_of_ble_eq_true rfl) (Nat.le_refl _) (Nat.le_refl _) dX7_bestMarch_83 ?_
      refine w_goto (tgt := 90) 86 hX (by decide) dX7_bestMarch_86 ?_
      exact bX7_bestMarch_106_90 hX hR hk59 l1 l2 l3 l4 l5 l6 l7 l8 x7 h
def FX7_bestMarch_106_L59 : Nat → Int32 → Int32 → Int32 → Int32 → Int32 → Int32 → Int32 → Int32 → Mem → Option Int32
  | 0, _, _, _, _, _, _, _, _, _ => none
  | n + 1, l1, l2, l3, l4, l5, l6, l7, l8, u => FX7_bestMarch_106_b59 (FX7_bestMarch_106_L59 n) l1 l2 l3 l4 l5 l6 l7 l8 u
theorem lX7_bestMarch_106_59 {G : Gt} {X : Xt} {v : Int32} {u : Mem} (hX : CxOk G X cX7_bestMarch 10 RX7 (some (.int v), SH, RHO, u) 3) (hR : CxRet G X (some .int) (some (.int v), SH, RHO, u)) : ∀ (n : Nat) (l1 l2 l3 l4 l5 l6 l7 l8 : Int32), FX7_bestMarch_106_L59 n l1 l2 l3 l4 l5 l6 l7 l8 u = some v → WM G X 59 [(0, .ref 106), (1, .int l1), (2, .int l2), (3, .int l3), (4, .int l4), (5, .int l5), (6, .int l6), (7, .int l7), (8, .int l8)] [] SH RHO u := by
  intro n
  induction n with
  | zero =>
    intro l1 l2 l3 l4 l5 l6 l7 l8 h
    exact nn_ h
  | succ n ih =>
    intro l1 l2 l3 l4 l5 l6 l7 l8 h
    exact bX7_bestMarch_106_59 hX hR ih l1 l2 l3 l4 l5 l6 l7 l8 h
def FX7_bestMarch_106 (p1 p2 p3 p4 : Int32) (u : Mem) : Option Int32 :=
  (FX9_hasMan_1 p1 u).bind fun x1 => (if x1 = 0 then (some (-1)) else ((rdA u 4 12 p1).bind fun x3 => (if 0 < x3 then ((rdA u 4 12 p1).bind fun x5 => (rdA u 4 12 p1).bind fun x6 => (dvI ((p2 + x5) - 1) x6).bind fun x7 => FX7_bestMarch_106_L59 FU p1 p2 p3 p4 x7 (-1) (-1) 0 u) else (some (-1)))))
theorem CX7_bestMarch_106 {G : Gt} (p1 p2 p3 p4 : Int32) (u : Mem) {v : Int32} (h : FX7_bestMarch_106 p1 p2 p3 p4 u = some v) : CT G yX7_bestMarch cX7_bestMarch 10 (some .int) 3 [.ref 106, .int p1, .int p2, .int p3, .int p4] SH RHO u (some (.int v), SH, RHO, u) :=
  ct_of (by decide) rfl (Nat.le_of_ble_eq_true rfl) (Nat.le_refl _) (Nat.le_refl _) (fun X hX hR => by
  unfold FX7_bestMarch_106 at h
  refine w_aload_n 0 0 hX rfl rfl dX7_bestMarch_0 ?_
  refine w_getR 1 hX CI_7 s_106 rfl r_106_0 fl_X7_36 rfl dX7_bestMarch_1 ?_
  refine w_iload_n 1 4 hX rfl rfl dX7_bestMarch_4 ?_
  obtain ⟨x1, gx1, h⟩ := o_bind h
  refine w_invVi (av := [.int p1]) (st := []) 5 hX CI_9 s_1 rfl mv_yX9_hasMan mi_yX9_hasMan ml_X7_77 (CX9_hasMan_1 p1 u gx1) rfl (by decide) (Nat.le_of_ble_eq_true rfl) (Nat.le_refl _) (Nat.le_refl _) dX7_bestMarch_5 ?_
  refine w_if_eq (tgt := 23) 8 hX dX7_bestMarch_8 (by decide) (fun c2 => ?_) (fun c2 => ?_)
  · have h := it h c2
    refine w_iconst (-1) 23 hX ic_m1 dX7_bestMarch_23 ?_
    exact w_iret 24 hX hR dX7_bestMarch_24 (by cases h; rfl)
  · have h := ie h c2
    refine w_aload_n 0 11 hX rfl rfl dX7_bestMarch_11 ?_
    refine w_getR 12 hX CI_7 s_106 rfl r_106_0 fl_X7_36 rfl dX7_bestMarch_12 ?_
    refine w_getR 15 hX CI_9 s_1 rfl r_1_3 fl_X7_81 rfl dX7_bestMarch_15 ?_
    refine w_iload_n 1 18 hX rfl rfl dX7_bestMarch_18 ?_
    obtain ⟨x3, gx3, h⟩ := o_bind h
    refine w_iald 19 hX s_4 gx3 dX7_bestMarch_19 ?_
    refine w_if_gt (tgt := 25) 20 hX dX7_bestMarch_20 (by decide) (fun c4 => ?_) (fun c4 => ?_)
    · have h := it h c4
      refine w_iload_n 2 25 hX rfl rfl dX7_bestMarch_25 ?_
      refine w_aload_n 0 26 hX rfl rfl dX7_bestMarch_26 ?_
      refine w_getR 27 hX CI_7 s_106 rfl r_106_0 fl_X7_36 rfl dX7_bestMarch_27 ?_
      refine w_getR 30 hX CI_9 s_1 rfl r_1_3 fl_X7_81 rfl dX7_bestMarch_30 ?_
      refine w_iload_n 1 33 hX rfl rfl dX7_bestMarch_33 ?_
      obtain ⟨x5, gx5, h⟩ := o_bind h
      refine w_iald 34 hX s_4 gx5 dX7_bestMarch_34 ?_
      refine w_iadd 35 hX dX7_bestMarch_35 ?_
      refine w_iconst 1 36 hX ic_1 dX7_bestMarch_36 ?_
      refine w_isub 37 hX dX7_bestMarch_37 ?_
      refine w_aload_n 0 38 hX rfl rfl dX7_bestMarch_38 ?_
      refine w_getR 39 hX CI_7 s_106 rfl r_106_0 fl_X7_36 rfl dX7_bestMarch_39 ?_
      refine w_getR 42 hX CI_9 s_1 rfl r_1_3 fl_X7_81 rfl dX7_bestMarch_42 ?_
      refine w_iload_n 1 45 hX rfl rfl dX7_bestMarch_45 ?_
      obtain ⟨x6, gx6, h⟩ := o_bind h
      refine w_iald 46 hX s_4 gx6 dX7_bestMarch_46 ?_
      obtain ⟨x7, gx7, h⟩ := o_bind h
      obtain ⟨qx7, jx7⟩ := dvI_ok gx7
      refine w_idiv 47 hX qx7 dX7_bestMarch_47 ?_
      rw [jx7]
      refine w_istore (lv' := [(5, .int x7), (0, .ref 106), (1, .int p1), (2, .int p2), (3, .int p3), (4, .int p4)]) 48 hX dX7_bestMarch_48 (by decide) rfl ?_
      refine w_iconst (-1) 50 hX ic_m1 dX7_bestMarch_50 ?_
      refine w_istore (lv' := [(6, .int (-1)), (5, .int x7), (0, .ref 106), (1, .int p1), (2, .int p2), (3, .int p3), (4, .int p4)]) 51 hX dX7_bestMarch_51 (by decide) rfl ?_
      refine w_iconst (-1) 53 hX ic_m1 dX7_bestMarch_53 ?_
      refine w_istore (lv' := [(7, .int (-1)), (6, .int (-1)), (5, .int x7), (0, .ref 106), (1, .int p1), (2, .int p2), (3, .int p3), (4, .int p4)]) 54 hX dX7_bestMarch_54 (by decide) rfl ?_
      refine w_iconst 0 56 hX ic_0 dX7_bestMarch_56 ?_
      refine w_istore (lv' := [(8, .int 0), (7, .int (-1)), (6, .int (-1)), (5, .int x7), (0, .ref 106), (1, .int p1), (2, .int p2), (3, .int p3), (4, .int p4)]) 57 hX dX7_bestMarch_57 (by decide) rfl ?_
      exact w_sub [4, 5, 6, 7, 8, 3, 2, 1, 0] rfl (lX7_bestMarch_106_59 hX hR FU p1 p2 p3 p4 x7 (-1) (-1) 0 h)
    · have h := ie h c4
      refine w_iconst (-1) 23 hX ic_m1 dX7_bestMarch_23 ?_
      exact w_iret 24 hX hR dX7_bestMarch_24 (by cases h; rfl))
def FX11_march_0_b37 (l1 l2 l3 l4 t0 : Int32) (u : Mem) : Option Int32 :=
  (if t0 = 0 then (some (-1)) else ((if l4 < 0 then (some (-1)) else ((if l4 ≤ 1 then ((FX7_bestMarch_106 l1 l2 l3 l4 u).bind fun x4 => some x4) else (some (-1)))))))
theorem bX11_march_0_37 {G : Gt} {X : Xt} {v : Int32} {u : Mem} (hX : CxOk G X cX11_march 6 RX11 (some (.int v), SH, RHO, u) 4) (hR : CxRet G X (some .int) (some (.int v), SH, RHO, u)) (l1 l2 l3 l4 t0 : Int32) (h : FX11_march_0_b37 l1 l2 l3 l4 t0 u = some v) : WM G X 37 [(0, .ref 0), (1, .int l1), (2, .int l2), (3, .int l3), (4, .int l4)] [.int t0] SH RHO u := by
  unfold FX11_march_0_b37 at h
  refine w_istore (lv' := [(5, .int t0), (0, .ref 0), (1, .int l1), (2, .int l2), (3, .int l3), (4, .int l4)]) 37 hX dX11_march_37 (by decide) rfl ?_
  refine w_iload 0 39 hX rfl dX11_march_39 ?_
  refine w_if_eq (tgt := 55) 41 hX dX11_march_41 (by decide) (fun c1 => ?_) (fun c1 => ?_)
  · have h := it h c1
    refine w_iconst (-1) 55 hX ic_m1 dX11_march_55 ?_
    exact w_iret 56 hX hR dX11_march_56 (by cases h; rfl)
  · have h := ie h c1
    refine w_iload 5 44 hX rfl dX11_march_44 ?_
    refine w_if_lt (tgt := 55) 46 hX dX11_march_46 (by decide) (fun c2 => ?_) (fun c2 => ?_)
    · have h := it h c2
      refine w_iconst (-1) 55 hX ic_m1 dX11_march_55 ?_
      exact w_iret 56 hX hR dX11_march_56 (by cases h; rfl)
    · have h := ie h c2
      refine w_iload 5 49 hX rfl dX11_march_49 ?_
      refine w_iconst 1 51 hX ic_1 dX11_march_51 ?_
      refine w_icmp_le (tgt := 57) 52 hX dX11_march_52 (by decide) (fun c3 => ?_) (fun c3 => ?_)
      · have h := it h c3
        refine w_aload_n 1 57 hX rfl rfl dX11_march_57 ?_
        refine w_getR 58 hX CI_11 s_0 rfl r_0_7 fl_X11_67 rfl dX11_march_58 ?_
        refine w_iload_n 2 61 hX rfl rfl dX11_march_61 ?_
        refine w_iload_n 3 62 hX rfl rfl dX11_march_62 ?_
        refine w_iload_n 4 63 hX rfl rfl dX11_march_63 ?_
        refine w_iload 5 64 hX rfl dX11_march_64 ?_
        obtain ⟨x4, gx4, h⟩ := o_bind h
        refine w_invVi (av := [.int l1, .int l2, .int l3, .int l4]) (st := []) 66 hX CI_7 s_106 rfl mv_yX7_bestMarch mi_yX7_bestMarch ml_X11_234 (CX7_bestMarch_106 l1 l2 l3 l4 u gx4) rfl (by decide) (Nat.le_of_ble_eq_true rfl) (Nat.le_refl _) (Nat.le_refl _) dX11_march_66 ?_
        exact w_iret 69 hX hR dX11_march_69 (by cases h; rfl)
      · have h := ie h c3
        refine w_iconst (-1) 55 hX ic_m1 dX11_march_55 ?_
        exact w_iret 56 hX hR dX11_march_56 (by cases h; rfl)
def FX11_march_0 (p1 p2 p3 p4 : Int32) (u : Mem) : Option Int32 :=
  (FX9_hasMan_1 p1 u).bind fun x1 => (if x1 = 0 then (FX11_march_0_b37 p1 p2 p3 p4 0 u) else ((if p2 < 0 then (FX11_march_0_b37 p1 p2 p3 p4 0 u) else ((if 16 ≤ p2 then (FX11_march_0_b37 p1 p2 p3 p4 0 u) else ((if p3 < 1 then (FX11_march_0_b37 p1 p2 p3 p4 0 u) else ((if 12 < p3 then (FX11_march_0_b37 p1 p2 p3 p4 0 u) else (FX11_march_0_b37 p1 p2 p3 p4 1 u))))))))))
theorem CX11_march_0 {G : Gt} (p1 p2 p3 p4 : Int32) (u : Mem) {v : Int32} (h : FX11_march_0 p1 p2 p3 p4 u = some v) : CT G yX11_march cX11_march 6 (some .int) 4 [.ref 0, .int p1, .int p2, .int p3, .int p4] SH RHO u (some (.int v), SH, RHO, u) :=
  ct_of (by decide) rfl (Nat.le_of_ble_eq_true rfl) (Nat.le_refl _) (Nat.le_refl _) (fun X hX hR => by
  unfold FX11_march_0 at h
  refine w_aload_n 0 0 hX rfl rfl dX11_march_0 ?_
  refine w_getR 1 hX CI_11 s_0 rfl r_0_0 fl_X11_10 rfl dX11_march_1 ?_
  refine w_iload_n 1 4 hX rfl rfl dX11_march_4 ?_
  obtain ⟨x1, gx1, h⟩ := o_bind h
  refine w_invVi (av := [.int p1]) (st := []) 5 hX CI_9 s_1 rfl mv_yX9_hasMan mi_yX9_hasMan ml_X11_119 (CX9_hasMan_1 p1 u gx1) rfl (by decide) (Nat.le_of_ble_eq_true rfl) (Nat.le_refl _) (Nat.le_refl _) dX11_march_5 ?_
  refine w_if_eq (tgt := 36) 8 hX dX11_march_8 (by decide) (fun c2 => ?_) (fun c2 => ?_)
  · have h := it h c2
    refine w_iconst 0 36 hX ic_0 dX11_march_36 ?_
    exact bX11_march_0_37 hX hR p1 p2 p3 p4 0 h
  · have h := ie h c2
    refine w_iload_n 2 11 hX rfl rfl dX11_march_11 ?_
    refine w_if_lt (tgt := 36) 12 hX dX11_march_12 (by decide) (fun c3 => ?_) (fun c3 => ?_)
    · have h := it h c3
      refine w_iconst 0 36 hX ic_0 dX11_march_36 ?_
      exact bX11_march_0_37 hX hR p1 p2 p3 p4 0 h
    · have h := ie h c3
      refine w_iload_n 2 15 hX rfl rfl dX11_march_15 ?_
      refine w_bipush 16 16 hX ib_16 dX11_march_16 ?_
      refine w_icmp_ge (tgt := 36) 18 hX dX11_march_18 (by decide) (fun c4 => ?_) (fun c4 => ?_)
      · have h := it h c4
        refine w_iconst 0 36 hX ic_0 dX11_march_36 ?_
        exact bX11_march_0_37 hX hR p1 p2 p3 p4 0 h
      · have h := ie h c4
        refine w_iload_n 3 21 hX rfl rfl dX11_march_21 ?_
        refine w_iconst 1 22 hX ic_1 dX11_march_22 ?_
        refine w_icmp_lt (tgt := 36) 23 hX dX11_march_23 (by decide) (fun c5 => ?_) (fun c5 => ?_)
        · have h := it h c5
          refine w_iconst 0 36 hX ic_0 dX11_march_36 ?_
          exact bX11_march_0_37 hX hR p1 p2 p3 p4 0 h
        · have h := ie h c5
          refine w_iload_n 3 26 hX rfl rfl dX11_march_26 ?_
          refine w_bipush 12 27 hX ib_12 dX11_march_27 ?_
          refine w_icmp_gt (tgt := 36) 29 hX dX11_march_29 (by decide) (fun c6 => ?_) (fun c6 => ?_)
          · have h := it h c6
            refine w_iconst 0 36 hX ic_0 dX11_march_36 ?_
            exact bX11_march_0_37 hX hR p1 p2 p3 p4 0 h
          · have h := ie h c6
            refine w_iconst 1 32 hX ic_1 dX11_march_32 ?_
            refine w_goto (tgt := 37) 33 hX (by decide) dX11_march_33 ?_
            exact bX11_march_0_37 hX hR p1 p2 p3 p4 1 h)
def FX12_turned_b4 (k4 : Int32 → Int32 → Int32 → Int32 → Option Int32) (l0 l1 l2 l3 : Int32) : Option Int32 :=
  (if l1 ≤ l3 then (some l2) else (k4 l0 l1 (l2 ||| (((l0 >>> (((l1 - 1) - l3) &&& 31)) &&& 1) <<< (l3 &&& 31))) (l3 + 1)))
theorem bX12_turned_4 {G : Gt} {X : Xt} {v : Int32} {u : Mem} (hX : CxOk G X cX12_turned 4 RX12 (some (.int v), SH, RHO, u) 1) (hR : CxRet G X (some .int) (some (.int v), SH, RHO, u)) {k4 : Int32 → Int32 → Int32 → Int32 → Option Int32} (hk4 : ∀ (l0 l1 l2 l3 : Int32), k4 l0 l1 l2 l3 = some v → WM G X 4 [(0, .int l0), (1, .int l1), (2, .int l2), (3, .int l3)] [] SH RHO u) (l0 l1 l2 l3 : Int32) (h : FX12_turned_b4 k4 l0 l1 l2 l3 = some v) : WM G X 4 [(0, .int l0), (1, .int l1), (2, .int l2), (3, .int l3)] [] SH RHO u := by
  unfold FX12_turned_b4 at h
  refine w_iload_n 3 4 hX rfl rfl dX12_turned_4 ?_
  refine w_iload_n 1 5 hX rfl rfl dX12_turned_5 ?_
  refine w_icmp_ge (tgt := 29) 6 hX dX12_turned_6 (by decide) (fun c1 => ?_) (fun c1 => ?_)
  · have h := it h c1
    refine w_iload_n 2 29 hX rfl rfl dX12_turned_29 ?_
    exact w_iret 30 hX hR dX12_turned_30 (by cases h; rfl)
  · have h := ie h c1
    refine w_iload_n 2 9 hX rfl rfl dX12_turned_9 ?_
    refine w_iload_n 0 10 hX rfl rfl dX12_turned_10 ?_
    refine w_iload_n 1 11 hX rfl rfl dX12_turned_11 ?_
    refine w_iconst 1 12 hX ic_1 dX12_turned_12 ?_
    refine w_isub 13 hX dX12_turned_13 ?_
    refine w_iload_n 3 14 hX rfl rfl dX12_turned_14 ?_
    refine w_isub 15 hX dX12_turned_15 ?_
    refine w_ishr 16 hX dX12_turned_16 ?_
    refine w_iconst 1 17 hX ic_1 dX12_turned_17 ?_
    refine w_iand 18 hX dX12_turned_18 ?_
    refine w_iload_n 3 19 hX rfl rfl dX12_turned_19 ?_
    refine w_ishl 20 hX dX12_turned_20 ?_
    refine w_ior 21 hX dX12_turned_21 ?_
    refine w_istore_n (lv' := [(2, .int (l2 ||| (((l0 >>> (((l1 - 1) - l3) &&& 31)) &&& 1) <<< (l3 &&& 31)))), (0, .int l0), (1, .int l1), (3, .int l3)]) 22 hX rfl dX12_turned_22 (by decide) rfl ?_
    refine w_iinc (lv' := [(3, .int (l3 + 1)), (2, .int (l2 ||| (((l0 >>> (((l1 - 1) - l3) &&& 31)) &&& 1) <<< (l3 &&& 31)))), (0, .int l0), (1, .int l1)]) 23 3 hX dX12_turned_23 rfl (inc_1 _) (by decide) rfl ?_
    refine w_goto (tgt := 4) 26 hX (by decide) dX12_turned_26 ?_
    exact w_sub [2, 3, 1, 0] rfl (hk4 l0 l1 (l2 ||| (((l0 >>> (((l1 - 1) - l3) &&& 31)) &&& 1) <<< (l3 &&& 31))) (l3 + 1) h)
def FX12_turned_L4 : Nat → Int32 → Int32 → Int32 → Int32 → Option Int32
  | 0, _, _, _, _ => none
  | n + 1, l0, l1, l2, l3 => FX12_turned_b4 (FX12_turned_L4 n) l0 l1 l2 l3
theorem lX12_turned_4 {G : Gt} {X : Xt} {v : Int32} {u : Mem} (hX : CxOk G X cX12_turned 4 RX12 (some (.int v), SH, RHO, u) 1) (hR : CxRet G X (some .int) (some (.int v), SH, RHO, u)) : ∀ (n : Nat) (l0 l1 l2 l3 : Int32), FX12_turned_L4 n l0 l1 l2 l3 = some v → WM G X 4 [(0, .int l0), (1, .int l1), (2, .int l2), (3, .int l3)] [] SH RHO u := by
  intro n
  induction n with
  | zero =>
    intro l0 l1 l2 l3 h
    exact nn_ h
  | succ n ih =>
    intro l0 l1 l2 l3 h
    exact bX12_turned_4 hX hR ih l0 l1 l2 l3 h
def FX12_turned (p0 p1 : Int32) : Option Int32 :=
  FX12_turned_L4 FU p0 p1 0 0
theorem CX12_turned {G : Gt} (p0 p1 : Int32) (u : Mem) {v : Int32} (h : FX12_turned p0 p1 = some v) : CT G yX12_turned cX12_turned 4 (some .int) 1 [.int p0, .int p1] SH RHO u (some (.int v), SH, RHO, u) :=
  ct_of (by decide) rfl (Nat.le_of_ble_eq_true rfl) (Nat.le_refl _) (Nat.le_refl _) (fun X hX hR => by
  unfold FX12_turned at h
  refine w_iconst 0 0 hX ic_0 dX12_turned_0 ?_
  refine w_istore_n (lv' := [(2, .int 0), (0, .int p0), (1, .int p1)]) 1 hX rfl dX12_turned_1 (by decide) rfl ?_
  refine w_iconst 0 2 hX ic_0 dX12_turned_2 ?_
  refine w_istore_n (lv' := [(3, .int 0), (2, .int 0), (0, .int p0), (1, .int p1)]) 3 hX rfl dX12_turned_3 (by decide) rfl ?_
  exact w_sub [2, 3, 1, 0] rfl (lX12_turned_4 hX hR FU p0 p1 0 0 h))
def FX12_marched_146_b95 (k16 : Int32 → Int32 → Int32 → Int32 → Int32 → Int32 → Mem → Option Int32) (l1 l3 l4 l5 l6 l7 : Int32) (u : Mem) : Option Int32 :=
  k16 l1 l3 l4 l5 l6 (l7 + 1) u
theorem bX12_marched_146_95 {G : Gt} {X : Xt} {v : Int32} {u : Mem} (hX : CxOk G X cX12_marched 9 RX12 (some (.int v), SH, RHO, u) 2) (hR : CxRet G X (some .int) (some (.int v), SH, RHO, u)) {k16 : Int32 → Int32 → Int32 → Int32 → Int32 → Int32 → Mem → Option Int32} (hk16 : ∀ (l1 l3 l4 l5 l6 l7 : Int32), k16 l1 l3 l4 l5 l6 l7 u = some v → WM G X 16 [(0, .ref 146), (1, .int l1), (3, .int l3), (4, .int l4), (5, .int l5), (6, .int l6), (7, .int l7)] [] SH RHO u) (l1 l3 l4 l5 l6 l7 : Int32) (h : FX12_marched_146_b95 k16 l1 l3 l4 l5 l6 l7 u = some v) : WM G X 95 [(0, .ref 146), (1, .int l1), (3, .int l3), (4, .int l4), (5, .int l5), (6, .int l6), (7, .int l7)] [] SH RHO u := by
  unfold FX12_marched_146_b95 at h
  refine w_iinc (lv' := [(7, .int (l7 + 1)), (0, .ref 146), (1, .int l1), (3, .int l3), (4, .int l4), (5, .int l5), (6, .int l6)]) 95 6 hX dX12_marched_95 rfl (inc_1 _) (by decide) rfl ?_
  refine w_goto (tgt := 16) 98 hX (by decide) dX12_marched_98 ?_
  exact w_sub [1, 2, 3, 4, 5, 6, 0] rfl (hk16 l1 l3 l4 l5 l6 (l7 + 1) h)
def FX12_marched_146_b16 (k16 : Int32 → Int32 → Int32 → Int32 → Int32 → Int32 → Mem → Option Int32) (l1 l3 l4 l5 l6 l7 : Int32) (u : Mem) : Option Int32 :=
  (if l3 ≤ l7 then ((if l6 = 0 then (some l5) else (some (-1)))) else ((if ((l4 >>> (((l3 - 1) - l7) &&& 31)) &&& 1) = 0 then ((FX12_lesser 99 (l5 + 10)).bind fun x8 => FX12_marched_146_b95 k16 l1 l3 l4 x8 l6 l7 u) else ((rdA u 147 1786 (114 + l1)).bind fun x4 => (FX12_lesser l6 x4).bind fun x5 => (if x5 = 0 then (some (-1)) else ((if 0 ≤ (l5 - (5 * x5)) then (FX12_marched_146_b95 k16 l1 l3 l4 (l5 - (5 * x5)) (l6 - x5) l7 u) else (some (-1)))))))))
theorem bX12_marched_146_16 {G : Gt} {X : Xt} {v : Int32} {u : Mem} (hX : CxOk G X cX12_marched 9 RX12 (some (.int v), SH, RHO, u) 2) (hR : CxRet G X (some .int) (some (.int v), SH, RHO, u)) {k16 : Int32 → Int32 → Int32 → Int32 → Int32 → Int32 → Mem → Option Int32} (hk16 : ∀ (l1 l3 l4 l5 l6 l7 : Int32), k16 l1 l3 l4 l5 l6 l7 u = some v → WM G X 16 [(0, .ref 146), (1, .int l1), (3, .int l3), (4, .int l4), (5, .int l5), (6, .int l6), (7, .int l7)] [] SH RHO u) (l1 l3 l4 l5 l6 l7 : Int32) (h : FX12_marched_146_b16 k16 l1 l3 l4 l5 l6 l7 u = some v) : WM G X 16 [(0, .ref 146), (1, .int l1), (3, .int l3), (4, .int l4), (5, .int l5), (6, .int l6), (7, .int l7)] [] SH RHO u := by
  unfold FX12_marched_146_b16 at h
  refine w_iload 6 16 hX rfl dX12_marched_16 ?_
  refine w_iload_n 2 18 hX rfl rfl dX12_marched_18 ?_
  refine w_icmp_ge (tgt := 101) 19 hX dX12_marched_19 (by decide) (fun c1 => ?_) (fun c1 => ?_)
  · have h := it h c1
    refine w_iload 5 101 hX rfl dX12_marched_101 ?_
    refine w_if_ne (tgt := 111) 103 hX dX12_marched_103 (by decide) (fun c2 => ?_) (fun c2 => ?_)
    · have h := ie h c2
      refine w_iconst (-1) 111 hX ic_m1 dX12_marched_111 ?_
      exact w_iret 112 hX hR dX12_marched_112 (by cases h; rfl)
    · have h := it h c2
      refine w_iload 4 106 hX rfl dX12_marched_106 ?_
      refine w_goto (tgt := 112) 108 hX (by decide) dX12_marched_108 ?_
      exact w_iret 112 hX hR dX12_marched_112 (by cases h; rfl)
  · have h := ie h c1
    refine w_iload 3 22 hX rfl dX12_marched_22 ?_
    refine w_iload_n 2 24 hX rfl rfl dX12_marched_24 ?_
    refine w_iconst 1 25 hX ic_1 dX12_marched_25 ?_
    refine w_isub 26 hX dX12_marched_26 ?_
    refine w_iload 6 27 hX rfl dX12_marched_27 ?_
    refine w_isub 29 hX dX12_marched_29 ?_
    refine w_ishr 30 hX dX12_marched_30 ?_
    refine w_iconst 1 31 hX ic_1 dX12_marched_31 ?_
    refine w_iand 32 hX dX12_marched_32 ?_
    refine w_if_ne (tgt := 51) 33 hX dX12_marched_33 (by decide) (fun c3 => ?_) (fun c3 => ?_)
    · have h := ie h c3
      refine w_iload 5 51 hX rfl dX12_marched_51 ?_
      refine w_aload_n 0 53 hX rfl rfl dX12_marched_53 ?_
      refine w_getR 54 hX CI_12 s_146 rfl r_146_0 fl_X12_7 rfl dX12_marched_54 ?_
      refine w_bipush 114 57 hX ib_114 dX12_marched_57 ?_
      refine w_iload_n 1 59 hX rfl rfl dX12_marched_59 ?_
      refine w_iadd 60 hX dX12_marched_60 ?_
      obtain ⟨x4, gx4, h⟩ := o_bind h
      refine w_iald 61 hX s_147 gx4 dX12_marched_61 ?_
      obtain ⟨x5, gx5, h⟩ := o_bind h
      refine w_invSi (av := [.int l6, .int x4]) (st := []) 62 hX ms_yX12_lesser mi_yX12_lesser ml_X12_297 (CX12_lesser l6 x4 u gx5) rfl (by decide) (Nat.le_of_ble_eq_true rfl) (Nat.le_refl _) (Nat.le_refl _) dX12_marched_62 ?_
      refine w_istore (lv' := [(8, .int x5), (0, .ref 146), (1, .int l1), (3, .int l3), (4, .int l4), (5, .int l5), (6, .int l6), (7, .int l7)]) 65 hX dX12_marched_65 (by decide) rfl ?_
      refine w_iload 5 67 hX rfl dX12_marched_67 ?_
      refine w_iconst 5 69 hX ic_5 dX12_marched_69 ?_
      refine w_iload 0 70 hX rfl dX12_marched_70 ?_
      refine w_imul 72 hX dX12_marched_72 ?_
      refine w_isub 73 hX dX12_marched_73 ?_
      refine w_istore (lv' := [(5, .int (l5 - (5 * x5))), (8, .int x5), (0, .ref 146), (1, .int l1), (3, .int l3), (4, .int l4), (6, .int l6), (7, .int l7)]) 74 hX dX12_marched_74 (by decide) rfl ?_
      refine w_iload 6 76 hX rfl dX12_marched_76 ?_
      refine w_iload 1 78 hX rfl dX12_marched_78 ?_
      refine w_isub 80 hX dX12_marched_80 ?_
      refine w_istore (lv' := [(6, .int (l6 - x5)), (5, .int (l5 - (5 * x5))), (8, .int x5), (0, .ref 146), (1, .int l1), (3, .int l3), (4, .int l4), (7, .int l7)]) 81 hX dX12_marched_81 (by decide) rfl ?_
      refine w_iload 2 83 hX rfl dX12_marched_83 ?_
      refine w_if_eq (tgt := 93) 85 hX dX12_marched_85 (by decide) (fun c6 => ?_) (fun c6 => ?_)
      · have h := it h c6
        refine w_iconst (-1) 93 hX ic_m1 dX12_marched_93 ?_
        exact w_iret 94 hX hR dX12_marched_94 (by cases h; rfl)
      · have h := ie h c6
        refine w_iload 1 88 hX rfl dX12_marched_88 ?_
        refine w_if_ge (tgt := 95) 90 hX dX12_marched_90 (by decide) (fun c7 => ?_) (fun c7 => ?_)
        · have h := it h c7
          exact w_sub [3, 4, 5, 6, 1, 0, 7] rfl (bX12_marched_146_95 hX hR hk16 l1 l3 l4 (l5 - (5 * x5)) (l6 - x5) l7 h)
        · have h := ie h c7
          refine w_iconst (-1) 93 hX ic_m1 dX12_marched_93 ?_
          exact w_iret 94 hX hR dX12_marched_94 (by cases h; rfl)
    · have h := it h c3
      refine w_bipush 99 36 hX ib_99 dX12_marched_36 ?_
      refine w_iload 4 38 hX rfl dX12_marched_38 ?_
      refine w_bipush 10 40 hX ib_10 dX12_marched_40 ?_
      refine w_iadd 42 hX dX12_marched_42 ?_
      obtain ⟨x8, gx8, h⟩ := o_bind h
      refine w_invSi (av := [.int 99, .int (l5 + 10)]) (st := []) 43 hX ms_yX12_lesser mi_yX12_lesser ml_X12_297 (CX12_lesser 99 (l5 + 10) u gx8) rfl (by decide) (Nat.le_of_ble_eq_true rfl) (Nat.le_refl _) (Nat.le_refl _) dX12_marched_43 ?_
      refine w_istore (lv' := [(5, .int x8), (0, .ref 146), (1, .int l1), (3, .int l3), (4, .int l4), (6, .int l6), (7, .int l7)]) 46 hX dX12_marched_46 (by decide) rfl ?_
      refine w_goto (tgt := 95) 48 hX (by decide) dX12_marched_48 ?_
      exact w_sub [1, 2, 3, 4, 0, 5, 6] rfl (bX12_marched_146_95 hX hR hk16 l1 l3 l4 x8 l6 l7 h)
def FX12_marched_146_L16 : Nat → Int32 → Int32 → Int32 → Int32 → Int32 → Int32 → Mem → Option Int32
  | 0, _, _, _, _, _, _, _ => none
  | n + 1, l1, l3, l4, l5, l6, l7, u => FX12_marched_146_b16 (FX12_marched_146_L16 n) l1 l3 l4 l5 l6 l7 u
theorem lX12_marched_146_16 {G : Gt} {X : Xt} {v : Int32} {u : Mem} (hX : CxOk G X cX12_marched 9 RX12 (some (.int v), SH, RHO, u) 2) (hR : CxRet G X (some .int) (some (.int v), SH, RHO, u)) : ∀ (n : Nat) (l1 l3 l4 l5 l6 l7 : Int32), FX12_marched_146_L16 n l1 l3 l4 l5 l6 l7 u = some v → WM G X 16 [(0, .ref 146), (1, .int l1), (3, .int l3), (4, .int l4), (5, .int l5), (6, .int l6), (7, .int l7)] [] SH RHO u := by
  intro n
  induction n with
  | zero =>
    intro l1 l3 l4 l5 l6 l7 h
    exact nn_ h
  | succ n ih =>
    intro l1 l3 l4 l5 l6 l7 h
    exact bX12_marched_146_16 hX hR ih l1 l3 l4 l5 l6 l7 h
def FX12_marched_146 (p1 p2 p3 p4 : Int32) (u : Mem) : Option Int32 :=
  (rdA u 147 1786 (4 + p1)).bind fun x1 => FX12_marched_146_L16 FU p1 p3 p4 x1 p2 0 u
theorem CX12_marched_146 {G : Gt} (p1 p2 p3 p4 : Int32) (u : Mem) {v : Int32} (h : FX12_marched_146 p1 p2 p3 p4 u = some v) : CT G yX12_marched cX12_marched 9 (some .int) 2 [.ref 146, .int p1, .int p2, .int p3, .int p4] SH RHO u (some (.int v), SH, RHO, u) :=
  ct_of (by decide) rfl (Nat.le_of_ble_eq_true rfl) (Nat.le_refl _) (Nat.le_refl _) (fun X hX hR => by
  unfold FX12_marched_146 at h
  refine w_aload_n 0 0 hX rfl rfl dX12_marched_0 ?_
  refine w_getR 1 hX CI_12 s_146 rfl r_146_0 fl_X12_7 rfl dX12_marched_1 ?_
  refine w_iconst 4 4 hX ic_4 dX12_marched_4 ?_
  refine w_iload_n 1 5 hX rfl rfl dX12_marched_5 ?_
  refine w_iadd 6 hX dX12_marched_6 ?_
  obtain ⟨x1, gx1, h⟩ := o_bind h
  refine w_iald 7 hX s_147 gx1 dX12_marched_7 ?_
  refine w_istore (lv' := [(5, .int x1), (0, .ref 146), (1, .int p1), (2, .int p2), (3, .int p3), (4, .int p4)]) 8 hX dX12_marched_8 (by decide) rfl ?_
  refine w_iload_n 3 10 hX rfl rfl dX12_marched_10 ?_
  refine w_istore (lv' := [(6, .int p2), (5, .int x1), (0, .ref 146), (1, .int p1), (2, .int p2), (3, .int p3), (4, .int p4)]) 11 hX dX12_marched_11 (by decide) rfl ?_
  refine w_iconst 0 13 hX ic_0 dX12_marched_13 ?_
  refine w_istore (lv' := [(7, .int 0), (6, .int p2), (5, .int x1), (0, .ref 146), (1, .int p1), (2, .int p2), (3, .int p3), (4, .int p4)]) 14 hX dX12_marched_14 (by decide) rfl ?_
  exact w_sub [3, 4, 6, 7, 2, 1, 0] rfl (lX12_marched_146_16 hX hR FU p1 p3 p4 x1 p2 0 h))
