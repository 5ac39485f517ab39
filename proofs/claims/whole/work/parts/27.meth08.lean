def FX12_is_146_5018_b67 (l2 : Int32) (u : Mem) : Option Int32 :=
  (bchk l2).bind fun x1 => some x1
theorem bX12_is_146_5018_67 {G : Gt} {X : Xt} {v : Int32} {u : Mem} (hX : CxOk G X cX12_is 4 RX12 (some (.int v), SH, RHO, u) 7) (hR : CxRet G X (some .boolean) (some (.int v), SH, RHO, u)) (l2 : Int32) (h : FX12_is_146_5018_b67 l2 u = some v) : WM G X 67 [(2, .int l2)] [] SH RHO u := by
  unfold FX12_is_146_5018_b67 at h
  refine w_iload_n 0 67 hX rfl rfl dX12_is_67 ?_
  obtain ⟨x1, gx1, h⟩ := o_bind h
  obtain ⟨jx1, nx1, mx1⟩ := bchk_ok gx1
  rw [jx1]
  exact w_zret 68 hX hR nx1 dX12_is_68 (by cases h; rfl)
def FX12_is_146_5018_b60 (k24 : Int32 → Int32 → Mem → Option Int32) (l3 t0 : Int32) (u : Mem) : Option Int32 :=
  k24 t0 (l3 + 1) u
theorem bX12_is_146_5018_60 {G : Gt} {X : Xt} {v : Int32} {u : Mem} (hX : CxOk G X cX12_is 4 RX12 (some (.int v), SH, RHO, u) 7) (hR : CxRet G X (some .boolean) (some (.int v), SH, RHO, u)) {k24 : Int32 → Int32 → Mem → Option Int32} (hk24 : ∀ (l2 l3 : Int32), k24 l2 l3 u = some v → WM G X 24 [(0, .ref 146), (1, .ref 5018), (2, .int l2), (3, .int l3)] [] SH RHO u) (l3 t0 : Int32) (h : FX12_is_146_5018_b60 k24 l3 t0 u = some v) : WM G X 60 [(0, .ref 146), (1, .ref 5018), (3, .int l3)] [.int t0] SH RHO u := by
  unfold FX12_is_146_5018_b60 at h
  refine w_istore_n (lv' := [(2, .int t0), (0, .ref 146), (1, .ref 5018), (3, .int l3)]) 60 hX rfl dX12_is_60 (by decide) rfl ?_
  refine w_iinc (lv' := [(3, .int (l3 + 1)), (2, .int t0), (0, .ref 146), (1, .ref 5018)]) 61 3 hX dX12_is_61 rfl (inc_1 _) (by decide) rfl ?_
  refine w_goto (tgt := 24) 64 hX (by decide) dX12_is_64 ?_
  exact w_sub [2, 3, 1, 0] rfl (hk24 t0 (l3 + 1) h)
def FX12_is_146_5018_b24 (k24 : Int32 → Int32 → Mem → Option Int32) (l2 l3 : Int32) (u : Mem) : Option Int32 :=
  (S_len 18).bind fun x1 => (if x1 ≤ l3 then (FX12_is_146_5018_b67 l2 u) else ((if l2 = 0 then (FX12_is_146_5018_b67 l2 u) else ((rdA u 154 400 ((u 146 19) + l3)).bind fun x4 => (S_chr 18 l3).bind fun x5 => (if x4 = x5 then (FX12_is_146_5018_b60 k24 l3 1 u) else (FX12_is_146_5018_b60 k24 l3 0 u))))))
theorem bX12_is_146_5018_24 {G : Gt} {X : Xt} {v : Int32} {u : Mem} (hX : CxOk G X cX12_is 4 RX12 (some (.int v), SH, RHO, u) 7) (hR : CxRet G X (some .boolean) (some (.int v), SH, RHO, u)) {k24 : Int32 → Int32 → Mem → Option Int32} (hk24 : ∀ (l2 l3 : Int32), k24 l2 l3 u = some v → WM G X 24 [(0, .ref 146), (1, .ref 5018), (2, .int l2), (3, .int l3)] [] SH RHO u) (l2 l3 : Int32) (h : FX12_is_146_5018_b24 k24 l2 l3 u = some v) : WM G X 24 [(0, .ref 146), (1, .ref 5018), (2, .int l2), (3, .int l3)] [] SH RHO u := by
  unfold FX12_is_146_5018_b24 at h
  refine w_iload_n 3 24 hX rfl rfl dX12_is_24 ?_
  refine w_aload_n 1 25 hX rfl rfl dX12_is_25 ?_
  obtain ⟨x1, gx1, h⟩ := o_bind h
  refine w_S_len (i := 18) (st := [.int l3]) 26 hX ml_X12_89 gx1 (by decide) (by decide) (Nat.le_of_ble_eq_true rfl) dX12_is_26 ?_
  refine w_icmp_ge (tgt := 67) 29 hX dX12_is_29 (by decide) (fun c2 => ?_) (fun c2 => ?_)
  · have h := it h c2
    exact w_sub [2] rfl (bX12_is_146_5018_67 hX hR l2 h)
  · have h := ie h c2
    refine w_iload_n 2 32 hX rfl rfl dX12_is_32 ?_
    refine w_if_eq (tgt := 67) 33 hX dX12_is_33 (by decide) (fun c3 => ?_) (fun c3 => ?_)
    · have h := it h c3
      exact w_sub [2] rfl (bX12_is_146_5018_67 hX hR l2 h)
    · have h := ie h c3
      refine w_aload_n 0 36 hX rfl rfl dX12_is_36 ?_
      refine w_getR 37 hX CI_12 s_146 rfl r_146_9 fl_X12_31 rfl dX12_is_37 ?_
      refine w_aload_n 0 40 hX rfl rfl dX12_is_40 ?_
      refine w_getI (j := 19) 41 hX CI_12 s_146 rfl fl_X12_86 rfl dX12_is_41 ?_
      refine w_iload_n 3 44 hX rfl rfl dX12_is_44 ?_
      refine w_iadd 45 hX dX12_is_45 ?_
      obtain ⟨x4, gx4, h⟩ := o_bind h
      refine w_iald 46 hX s_154 gx4 dX12_is_46 ?_
      refine w_aload_n 1 47 hX rfl rfl dX12_is_47 ?_
      refine w_iload_n 3 48 hX rfl rfl dX12_is_48 ?_
      obtain ⟨x5, gx5, h⟩ := o_bind h
      refine w_S_chr (i := 18) (st := [.int x4]) 49 hX ml_X12_95 gx5 (by decide) (by decide) (Nat.le_of_ble_eq_true rfl) dX12_is_49 ?_
      refine w_icmp_ne (tgt := 59) 52 hX dX12_is_52 (by decide) (fun c6 => ?_) (fun c6 => ?_)
      · have h := ie h c6
        refine w_iconst 0 59 hX ic_0 dX12_is_59 ?_
        exact w_sub [0, 1, 3] rfl (bX12_is_146_5018_60 hX hR hk24 l3 0 h)
      · have h := it h c6
        refine w_iconst 1 55 hX ic_1 dX12_is_55 ?_
        refine w_goto (tgt := 60) 56 hX (by decide) dX12_is_56 ?_
        exact w_sub [0, 1, 3] rfl (bX12_is_146_5018_60 hX hR hk24 l3 1 h)
def FX12_is_146_5018_L24 : Nat → Int32 → Int32 → Mem → Option Int32
  | 0, _, _, _ => none
  | n + 1, l2, l3, u => FX12_is_146_5018_b24 (FX12_is_146_5018_L24 n) l2 l3 u
theorem lX12_is_146_5018_24 {G : Gt} {X : Xt} {v : Int32} {u : Mem} (hX : CxOk G X cX12_is 4 RX12 (some (.int v), SH, RHO, u) 7) (hR : CxRet G X (some .boolean) (some (.int v), SH, RHO, u)) : ∀ (n : Nat) (l2 l3 : Int32), FX12_is_146_5018_L24 n l2 l3 u = some v → WM G X 24 [(0, .ref 146), (1, .ref 5018), (2, .int l2), (3, .int l3)] [] SH RHO u := by
  intro n
  induction n with
  | zero =>
    intro l2 l3 h
    exact nn_ h
  | succ n ih =>
    intro l2 l3 h
    exact bX12_is_146_5018_24 hX hR ih l2 l3 h
def FX12_is_146_5018_b21 (t0 : Int32) (u : Mem) : Option Int32 :=
  FX12_is_146_5018_L24 FU t0 0 u
theorem bX12_is_146_5018_21 {G : Gt} {X : Xt} {v : Int32} {u : Mem} (hX : CxOk G X cX12_is 4 RX12 (some (.int v), SH, RHO, u) 7) (hR : CxRet G X (some .boolean) (some (.int v), SH, RHO, u)) (t0 : Int32) (h : FX12_is_146_5018_b21 t0 u = some v) : WM G X 21 [(0, .ref 146), (1, .ref 5018)] [.int t0] SH RHO u := by
  unfold FX12_is_146_5018_b21 at h
  refine w_istore_n (lv' := [(2, .int t0), (0, .ref 146), (1, .ref 5018)]) 21 hX rfl dX12_is_21 (by decide) rfl ?_
  refine w_iconst 0 22 hX ic_0 dX12_is_22 ?_
  refine w_istore_n (lv' := [(3, .int 0), (2, .int t0), (0, .ref 146), (1, .ref 5018)]) 23 hX rfl dX12_is_23 (by decide) rfl ?_
  exact w_sub [2, 3, 1, 0] rfl (lX12_is_146_5018_24 hX hR FU t0 0 h)
def FX12_is_146_5018 (u : Mem) : Option Int32 :=
  (S_len 18).bind fun x1 => (if ((u 146 17) - (u 146 19)) = x1 then (FX12_is_146_5018_b21 1 u) else (FX12_is_146_5018_b21 0 u))
theorem CX12_is_146_5018 {G : Gt} (u : Mem) {v : Int32} (h : FX12_is_146_5018 u = some v) : CT G yX12_is cX12_is 4 (some .boolean) 7 [.ref 146, .ref 5018] SH RHO u (some (.int v), SH, RHO, u) :=
  ct_of (by decide) rfl (Nat.le_of_ble_eq_true rfl) (Nat.le_refl _) (Nat.le_refl _) (fun X hX hR => by
  unfold FX12_is_146_5018 at h
  refine w_aload_n 0 0 hX rfl rfl dX12_is_0 ?_
  refine w_getI (j := 17) 1 hX CI_12 s_146 rfl fl_X12_83 rfl dX12_is_1 ?_
  refine w_aload_n 0 4 hX rfl rfl dX12_is_4 ?_
  refine w_getI (j := 19) 5 hX CI_12 s_146 rfl fl_X12_86 rfl dX12_is_5 ?_
  refine w_isub 8 hX dX12_is_8 ?_
  refine w_aload_n 1 9 hX rfl rfl dX12_is_9 ?_
  obtain ⟨x1, gx1, h⟩ := o_bind h
  refine w_S_len (i := 18) (st := [.int ((u 146 17) - (u 146 19))]) 10 hX ml_X12_89 gx1 (by decide) (by decide) (Nat.le_of_ble_eq_true rfl) dX12_is_10 ?_
  refine w_icmp_ne (tgt := 20) 13 hX dX12_is_13 (by decide) (fun c2 => ?_) (fun c2 => ?_)
  · have h := ie h c2
    refine w_iconst 0 20 hX ic_0 dX12_is_20 ?_
    exact bX12_is_146_5018_21 hX hR 0 h
  · have h := it h c2
    refine w_iconst 1 16 hX ic_1 dX12_is_16 ?_
    refine w_goto (tgt := 21) 17 hX (by decide) dX12_is_17 ?_
    exact bX12_is_146_5018_21 hX hR 1 h)
def FX12_is_146_5019_b67 (l2 : Int32) (u : Mem) : Option Int32 :=
  (bchk l2).bind fun x1 => some x1
theorem bX12_is_146_5019_67 {G : Gt} {X : Xt} {v : Int32} {u : Mem} (hX : CxOk G X cX12_is 4 RX12 (some (.int v), SH, RHO, u) 7) (hR : CxRet G X (some .boolean) (some (.int v), SH, RHO, u)) (l2 : Int32) (h : FX12_is_146_5019_b67 l2 u = some v) : WM G X 67 [(2, .int l2)] [] SH RHO u := by
  unfold FX12_is_146_5019_b67 at h
  refine w_iload_n 0 67 hX rfl rfl dX12_is_67 ?_
  obtain ⟨x1, gx1, h⟩ := o_bind h
  obtain ⟨jx1, nx1, mx1⟩ := bchk_ok gx1
  rw [jx1]
  exact w_zret 68 hX hR nx1 dX12_is_68 (by cases h; rfl)
def FX12_is_146_5019_b60 (k24 : Int32 → Int32 → Mem → Option Int32) (l3 t0 : Int32) (u : Mem) : Option Int32 :=
  k24 t0 (l3 + 1) u
theorem bX12_is_146_5019_60 {G : Gt} {X : Xt} {v : Int32} {u : Mem} (hX : CxOk G X cX12_is 4 RX12 (some (.int v), SH, RHO, u) 7) (hR : CxRet G X (some .boolean) (some (.int v), SH, RHO, u)) {k24 : Int32 → Int32 → Mem → Option Int32} (hk24 : ∀ (l2 l3 : Int32), k24 l2 l3 u = some v → WM G X 24 [(0, .ref 146), (1, .ref 5019), (2, .int l2), (3, .int l3)] [] SH RHO u) (l3 t0 : Int32) (h : FX12_is_146_5019_b60 k24 l3 t0 u = some v) : WM G X 60 [(0, .ref 146), (1, .ref 5019), (3, .int l3)] [.int t0] SH RHO u := by
  unfold FX12_is_146_5019_b60 at h
  refine w_istore_n (lv' := [(2, .int t0), (0, .ref 146), (1, .ref 5019), (3, .int l3)]) 60 hX rfl dX12_is_60 (by decide) rfl ?_
  refine w_iinc (lv' := [(3, .int (l3 + 1)), (2, .int t0), (0, .ref 146), (1, .ref 5019)]) 61 3 hX dX12_is_61 rfl (inc_1 _) (by decide) rfl ?_
  refine w_goto (tgt := 24) 64 hX (by decide) dX12_is_64 ?_
  exact w_sub [2, 3, 1, 0] rfl (hk24 t0 (l3 + 1) h)
def FX12_is_146_5019_b24 (k24 : Int32 → Int32 → Mem → Option Int32) (l2 l3 : Int32) (u : Mem) : Option Int32 :=
  (S_len 19).bind fun x1 => (if x1 ≤ l3 then (FX12_is_146_5019_b67 l2 u) else ((if l2 = 0 then (FX12_is_146_5019_b67 l2 u) else ((rdA u 154 400 ((u 146 19) + l3)).bind fun x4 => (S_chr 19 l3).bind fun x5 => (if x4 = x5 then (FX12_is_146_5019_b60 k24 l3 1 u) else (FX12_is_146_5019_b60 k24 l3 0 u))))))
theorem bX12_is_146_5019_24 {G : Gt} {X : Xt} {v : Int32} {u : Mem} (hX : CxOk G X cX12_is 4 RX12 (some (.int v), SH, RHO, u) 7) (hR : CxRet G X (some .boolean) (some (.int v), SH, RHO, u)) {k24 : Int32 → Int32 → Mem → Option Int32} (hk24 : ∀ (l2 l3 : Int32), k24 l2 l3 u = some v → WM G X 24 [(0, .ref 146), (1, .ref 5019), (2, .int l2), (3, .int l3)] [] SH RHO u) (l2 l3 : Int32) (h : FX12_is_146_5019_b24 k24 l2 l3 u = some v) : WM G X 24 [(0, .ref 146), (1, .ref 5019), (2, .int l2), (3, .int l3)] [] SH RHO u := by
  unfold FX12_is_146_5019_b24 at h
  refine w_iload_n 3 24 hX rfl rfl dX12_is_24 ?_
  refine w_aload_n 1 25 hX rfl rfl dX12_is_25 ?_
  obtain ⟨x1, gx1, h⟩ := o_bind h
  refine w_S_len (i := 19) (st := [.int l3]) 26 hX ml_X12_89 gx1 (by decide) (by decide) (Nat.le_of_ble_eq_true rfl) dX12_is_26 ?_
  refine w_icmp_ge (tgt := 67) 29 hX dX12_is_29 (by decide) (fun c2 => ?_) (fun c2 => ?_)
  · have h := it h c2
    exact w_sub [2] rfl (bX12_is_146_5019_67 hX hR l2 h)
  · have h := ie h c2
    refine w_iload_n 2 32 hX rfl rfl dX12_is_32 ?_
    refine w_if_eq (tgt := 67) 33 hX dX12_is_33 (by decide) (fun c3 => ?_) (fun c3 => ?_)
    · have h := it h c3
      exact w_sub [2] rfl (bX12_is_146_5019_67 hX hR l2 h)
    · have h := ie h c3
      refine w_aload_n 0 36 hX rfl rfl dX12_is_36 ?_
      refine w_getR 37 hX CI_12 s_146 rfl r_146_9 fl_X12_31 rfl dX12_is_37 ?_
      refine w_aload_n 0 40 hX rfl rfl dX12_is_40 ?_
      refine w_getI (j := 19) 41 hX CI_12 s_146 rfl fl_X12_86 rfl dX12_is_41 ?_
      refine w_iload_n 3 44 hX rfl rfl dX12_is_44 ?_
      refine w_iadd 45 hX dX12_is_45 ?_
      obtain ⟨x4, gx4, h⟩ := o_bind h
      refine w_iald 46 hX s_154 gx4 dX12_is_46 ?_
      refine w_aload_n 1 47 hX rfl rfl dX12_is_47 ?_
      refine w_iload_n 3 48 hX rfl rfl dX12_is_48 ?_
      obtain ⟨x5, gx5, h⟩ := o_bind h
      refine w_S_chr (i := 19) (st := [.int x4]) 49 hX ml_X12_95 gx5 (by decide) (by decide) (Nat.le_of_ble_eq_true rfl) dX12_is_49 ?_
      refine w_icmp_ne (tgt := 59) 52 hX dX12_is_52 (by decide) (fun c6 => ?_) (fun c6 => ?_)
      · have h := ie h c6
        refine w_iconst 0 59 hX ic_0 dX12_is_59 ?_
        exact w_sub [0, 1, 3] rfl (bX12_is_146_5019_60 hX hR hk24 l3 0 h)
      · have h := it h c6
        refine w_iconst 1 55 hX ic_1 dX12_is_55 ?_
        refine w_goto (tgt := 60) 56 hX (by decide) dX12_is_56 ?_
        exact w_sub [0, 1, 3] rfl (bX12_is_146_5019_60 hX hR hk24 l3 1 h)
def FX12_is_146_5019_L24 : Nat → Int32 → Int32 → Mem → Option Int32
  | 0, _, _, _ => none
  | n + 1, l2, l3, u => FX12_is_146_5019_b24 (FX12_is_146_5019_L24 n) l2 l3 u
theorem lX12_is_146_5019_24 {G : Gt} {X : Xt} {v : Int32} {u : Mem} (hX : CxOk G X cX12_is 4 RX12 (some (.int v), SH, RHO, u) 7) (hR : CxRet G X (some .boolean) (some (.int v), SH, RHO, u)) : ∀ (n : Nat) (l2 l3 : Int32), FX12_is_146_5019_L24 n l2 l3 u = some v → WM G X 24 [(0, .ref 146), (1, .ref 5019), (2, .int l2), (3, .int l3)] [] SH RHO u := by
  intro n
  induction n with
  | zero =>
    intro l2 l3 h
    exact nn_ h
  | succ n ih =>
    intro l2 l3 h
    exact bX12_is_146_5019_24 hX hR ih l2 l3 h
def FX12_is_146_5019_b21 (t0 : Int32) (u : Mem) : Option Int32 :=
  FX12_is_146_5019_L24 FU t0 0 u
theorem bX12_is_146_5019_21 {G : Gt} {X : Xt} {v : Int32} {u : Mem} (hX : CxOk G X cX12_is 4 RX12 (some (.int v), SH, RHO, u) 7) (hR : CxRet G X (some .boolean) (some (.int v), SH, RHO, u)) (t0 : Int32) (h : FX12_is_146_5019_b21 t0 u = some v) : WM G X 21 [(0, .ref 146), (1, .ref 5019)] [.int t0] SH RHO u := by
  unfold FX12_is_146_5019_b21 at h
  refine w_istore_n (lv' := [(2, .int t0), (0, .ref 146), (1, .ref 5019)]) 21 hX rfl dX12_is_21 (by decide) rfl ?_
  refine w_iconst 0 22 hX ic_0 dX12_is_22 ?_
  refine w_istore_n (lv' := [(3, .int 0), (2, .int t0), (0, .ref 146), (1, .ref 5019)]) 23 hX rfl dX12_is_23 (by decide) rfl ?_
  exact w_sub [2, 3, 1, 0] rfl (lX12_is_146_5019_24 hX hR FU t0 0 h)
def FX12_is_146_5019 (u : Mem) : Option Int32 :=
  (S_len 19).bind fun x1 => (if ((u 146 17) - (u 146 19)) = x1 then (FX12_is_146_5019_b21 1 u) else (FX12_is_146_5019_b21 0 u))
theorem CX12_is_146_5019 {G : Gt} (u : Mem) {v : Int32} (h : FX12_is_146_5019 u = some v) : CT G yX12_is cX12_is 4 (some .boolean) 7 [.ref 146, .ref 5019] SH RHO u (some (.int v), SH, RHO, u) :=
  ct_of (by decide) rfl (Nat.le_of_ble_eq_true rfl) (Nat.le_refl _) (Nat.le_refl _) (fun X hX hR => by
  unfold FX12_is_146_5019 at h
  refine w_aload_n 0 0 hX rfl rfl dX12_is_0 ?_
  refine w_getI (j := 17) 1 hX CI_12 s_146 rfl fl_X12_83 rfl dX12_is_1 ?_
  refine w_aload_n 0 4 hX rfl rfl dX12_is_4 ?_
  refine w_getI (j := 19) 5 hX CI_12 s_146 rfl fl_X12_86 rfl dX12_is_5 ?_
  refine w_isub 8 hX dX12_is_8 ?_
  refine w_aload_n 1 9 hX rfl rfl dX12_is_9 ?_
  obtain ⟨x1, gx1, h⟩ := o_bind h
  refine w_S_len (i := 19) (st := [.int ((u 146 17) - (u 146 19))]) 10 hX ml_X12_89 gx1 (by decide) (by decide) (Nat.le_of_ble_eq_true rfl) dX12_is_10 ?_
  refine w_icmp_ne (tgt := 20) 13 hX dX12_is_13 (by decide) (fun c2 => ?_) (fun c2 => ?_)
  · have h := ie h c2
    refine w_iconst 0 20 hX ic_0 dX12_is_20 ?_
    exact bX12_is_146_5019_21 hX hR 0 h
  · have h := it h c2
    refine w_iconst 1 16 hX ic_1 dX12_is_16 ?_
    refine w_goto (tgt := 21) 17 hX (by decide) dX12_is_17 ?_
    exact bX12_is_146_5019_21 hX hR 1 h)
def FX12_is_146_5020_b67 (l2 : Int32) (u : Mem) : Option Int32 :=
  (bchk l2).bind fun x1 => some x1
theorem bX12_is_146_5020_67 {G : Gt} {X : Xt} {v : Int32} {u : Mem} (hX : CxOk G X cX12_is 4 RX12 (some (.int v), SH, RHO, u) 7) (hR : CxRet G X (some .boolean) (some (.int v), SH, RHO, u)) (l2 : Int32) (h : FX12_is_146_5020_b67 l2 u = some v) : WM G X 67 [(2, .int l2)] [] SH RHO u := by
  unfold FX12_is_146_5020_b67 at h
  refine w_iload_n 0 67 hX rfl rfl dX12_is_67 ?_
  obtain ⟨x1, gx1, h⟩ := o_bind h
  obtain ⟨jx1, nx1, mx1⟩ := bchk_ok gx1
  rw [jx1]
  exact w_zret 68 hX hR nx1 dX12_is_68 (by cases h; rfl)
def FX12_is_146_5020_b60 (k24 : Int32 → Int32 → Mem → Option Int32) (l3 t0 : Int32) (u : Mem) : Option Int32 :=
  k24 t0 (l3 + 1) u
theorem bX12_is_146_5020_60 {G : Gt} {X : Xt} {v : Int32} {u : Mem} (hX : CxOk G X cX12_is 4 RX12 (some (.int v), SH, RHO, u) 7) (hR : CxRet G X (some .boolean) (some (.int v), SH, RHO, u)) {k24 : Int32 → Int32 → Mem → Option Int32} (hk24 : ∀ (l2 l3 : Int32), k24 l2 l3 u = some v → WM G X 24 [(0, .ref 146), (1, .ref 5020), (2, .int l2), (3, .int l3)] [] SH RHO u) (l3 t0 : Int32) (h : FX12_is_146_5020_b60 k24 l3 t0 u = some v) : WM G X 60 [(0, .ref 146), (1, .ref 5020), (3, .int l3)] [.int t0] SH RHO u := by
  unfold FX12_is_146_5020_b60 at h
  refine w_istore_n (lv' := [(2, .int t0), (0, .ref 146), (1, .ref 5020), (3, .int l3)]) 60 hX rfl dX12_is_60 (by decide) rfl ?_
  refine w_iinc (lv' := [(3, .int (l3 + 1)), (2, .int t0), (0, .ref 146), (1, .ref 5020)]) 61 3 hX dX12_is_61 rfl (inc_1 _) (by decide) rfl ?_
  refine w_goto (tgt := 24) 64 hX (by decide) dX12_is_64 ?_
  exact w_sub [2, 3, 1, 0] rfl (hk24 t0 (l3 + 1) h)
def FX12_is_146_5020_b24 (k24 : Int32 → Int32 → Mem → Option Int32) (l2 l3 : Int32) (u : Mem) : Option Int32 :=
  (S_len 20).bind fun x1 => (if x1 ≤ l3 then (FX12_is_146_5020_b67 l2 u) else ((if l2 = 0 then (FX12_is_146_5020_b67 l2 u) else ((rdA u 154 400 ((u 146 19) + l3)).bind fun x4 => (S_chr 20 l3).bind fun x5 => (if x4 = x5 then (FX12_is_146_5020_b60 k24 l3 1 u) else (FX12_is_146_5020_b60 k24 l3 0 u))))))
theorem bX12_is_146_5020_24 {G : Gt} {X : Xt} {v : Int32} {u : Mem} (hX : CxOk G X cX12_is 4 RX12 (some (.int v), SH, RHO, u) 7) (hR : CxRet G X (some .boolean) (some (.int v), SH, RHO, u)) {k24 : Int32 → Int32 → Mem → Option Int32} (hk24 : ∀ (l2 l3 : Int32), k24 l2 l3 u = some v → WM G X 24 [(0, .ref 146), (1, .ref 5020), (2, .int l2), (3, .int l3)] [] SH RHO u) (l2 l3 : Int32) (h : FX12_is_146_5020_b24 k24 l2 l3 u = some v) : WM G X 24 [(0, .ref 146), (1, .ref 5020), (2, .int l2), (3, .int l3)] [] SH RHO u := by
  unfold FX12_is_146_5020_b24 at h
  refine w_iload_n 3 24 hX rfl rfl dX12_is_24 ?_
  refine w_aload_n 1 25 hX rfl rfl dX12_is_25 ?_
  obtain ⟨x1, gx1, h⟩ := o_bind h
  refine w_S_len (i := 20) (st := [.int l3]) 26 hX ml_X12_89 gx1 (by decide) (by decide) (Nat.le_of_ble_eq_true rfl) dX12_is_26 ?_
  refine w_icmp_ge (tgt := 67) 29 hX dX12_is_29 (by decide) (fun c2 => ?_) (fun c2 => ?_)
  · have h := it h c2
    exact w_sub [2] rfl (bX12_is_146_5020_67 hX hR l2 h)
  · have h := ie h c2
    refine w_iload_n 2 32 hX rfl rfl dX12_is_32 ?_
    refine w_if_eq (tgt := 67) 33 hX dX12_is_33 (by decide) (fun c3 => ?_) (fun c3 => ?_)
    · have h := it h c3
      exact w_sub [2] rfl (bX12_is_146_5020_67 hX hR l2 h)
    · have h := ie h c3
      refine w_aload_n 0 36 hX rfl rfl dX12_is_36 ?_
      refine w_getR 37 hX CI_12 s_146 rfl r_146_9 fl_X12_31 rfl dX12_is_37 ?_
      refine w_aload_n 0 40 hX rfl rfl dX12_is_40 ?_
      refine w_getI (j := 19) 41 hX CI_12 s_146 rfl fl_X12_86 rfl dX12_is_41 ?_
      refine w_iload_n 3 44 hX rfl rfl dX12_is_44 ?_
      refine w_iadd 45 hX dX12_is_45 ?_
      obtain ⟨x4, gx4, h⟩ := o_bind h
      refine w_iald 46 hX s_154 gx4 dX12_is_46 ?_
      refine w_aload_n 1 47 hX rfl rfl dX12_is_47 ?_
      refine w_iload_n 3 48 hX rfl rfl dX12_is_48 ?_
      obtain ⟨x5, gx5, h⟩ := o_bind h
      refine w_S_chr (i := 20) (st := [.int x4]) 49 hX ml_X12_95 gx5 (by decide) (by decide) (Nat.le_of_ble_eq_true rfl) dX12_is_49 ?_
      refine w_icmp_ne (tgt := 59) 52 hX dX12_is_52 (by decide) (fun c6 => ?_) (fun c6 => ?_)
      · have h := ie h c6
        refine w_iconst 0 59 hX ic_0 dX12_is_59 ?_
        exact w_sub [0, 1, 3] rfl (bX12_is_146_5020_60 hX hR hk24 l3 0 h)
      · have h := it h c6
        refine w_iconst 1 55 hX ic_1 dX12_is_55 ?_
        refine w_goto (tgt := 60) 56 hX (by decide) dX12_is_56 ?_
        exact w_sub [0, 1, 3] rfl (bX12_is_146_5020_60 hX hR hk24 l3 1 h)
def FX12_is_146_5020_L24 : Nat → Int32 → Int32 → Mem → Option Int32
  | 0, _, _, _ => none
  | n + 1, l2, l3, u => FX12_is_146_5020_b24 (FX12_is_146_5020_L24 n) l2 l3 u
theorem lX12_is_146_5020_24 {G : Gt} {X : Xt} {v : Int32} {u : Mem} (hX : CxOk G X cX12_is 4 RX12 (some (.int v), SH, RHO, u) 7) (hR : CxRet G X (some .boolean) (some (.int v), SH, RHO, u)) : ∀ (n : Nat) (l2 l3 : Int32), FX12_is_146_5020_L24 n l2 l3 u = some v → WM G X 24 [(0, .ref 146), (1, .ref 5020), (2, .int l2), (3, .int l3)] [] SH RHO u := by
  intro n
  induction n with
  | zero =>
    intro l2 l3 h
    exact nn_ h
  | succ n ih =>
    intro l2 l3 h
    exact bX12_is_146_5020_24 hX hR ih l2 l3 h
def FX12_is_146_5020_b21 (t0 : Int32) (u : Mem) : Option Int32 :=
  FX12_is_146_5020_L24 FU t0 0 u
theorem bX12_is_146_5020_21 {G : Gt} {X : Xt} {v : Int32} {u : Mem} (hX : CxOk G X cX12_is 4 RX12 (some (.int v), SH, RHO, u) 7) (hR : CxRet G X (some .boolean) (some (.int v), SH, RHO, u)) (t0 : Int32) (h : FX12_is_146_5020_b21 t0 u = some v) : WM G X 21 [(0, .ref 146), (1, .ref 5020)] [.int t0] SH RHO u := by
  unfold FX12_is_146_5020_b21 at h
  refine w_istore_n (lv' := [(2, .int t0), (0, .ref 146), (1, .ref 5020)]) 21 hX rfl dX12_is_21 (by decide) rfl ?_
  refine w_iconst 0 22 hX ic_0 dX12_is_22 ?_
  refine w_istore_n (lv' := [(3, .int 0), (2, .int t0), (0, .ref 146), (1, .ref 5020)]) 23 hX rfl dX12_is_23 (by decide) rfl ?_
  exact w_sub [2, 3, 1, 0] rfl (lX12_is_146_5020_24 hX hR FU t0 0 h)
def FX12_is_146_5020 (u : Mem) : Option Int32 :=
  (S_len 20).bind fun x1 => (if ((u 146 17) - (u 146 19)) = x1 then (FX12_is_146_5020_b21 1 u) else (FX12_is_146_5020_b21 0 u))
theorem CX12_is_146_5020 {G : Gt} (u : Mem) {v : Int32} (h : FX12_is_146_5020 u = some v) : CT G yX12_is cX12_is 4 (some .boolean) 7 [.ref 146, .ref 5020] SH RHO u (some (.int v), SH, RHO, u) :=
  ct_of (by decide) rfl (Nat.le_of_ble_eq_true rfl) (Nat.le_refl _) (Nat.le_refl _) (fun X hX hR => by
  unfold FX12_is_146_5020 at h
  refine w_aload_n 0 0 hX rfl rfl dX12_is_0 ?_
  refine w_getI (j := 17) 1 hX CI_12 s_146 rfl fl_X12_83 rfl dX12_is_1 ?_
  refine w_aload_n 0 4 hX rfl rfl dX12_is_4 ?_
  refine w_getI (j := 19) 5 hX CI_12 s_146 rfl fl_X12_86 rfl dX12_is_5 ?_
  refine w_isub 8 hX dX12_is_8 ?_
  refine w_aload_n 1 9 hX rfl rfl dX12_is_9 ?_
  obtain ⟨x1, gx1, h⟩ := o_bind h
  refine w_S_len (i := 20) (st := [.int ((u 146 17) - (u 146 19))]) 10 hX ml_X12_89 gx1 (by decide) (by decide) (Nat.le_of_ble_eq_true rfl) dX12_is_10 ?_
  refine w_icmp_ne (tgt := 20) 13 hX dX12_is_13 (by decide) (fun c2 => ?_) (fun c2 => ?_)
  · have h := ie h c2
    refine w_iconst 0 20 hX ic_0 dX12_is_20 ?_
    exact bX12_is_146_5020_21 hX hR 0 h
  · have h := it h c2
    refine w_iconst 1 16 hX ic_1 dX12_is_16 ?_
    refine w_goto (tgt := 21) 17 hX (by decide) dX12_is_17 ?_
    exact bX12_is_146_5020_21 hX hR 1 h)
def FX12_is_146_5021_b67 (l2 : Int32) (u : Mem) : Option Int32 :=
  (bchk l2).bind fun x1 => some x1
theorem bX12_is_146_5021_67 {G : Gt} {X : Xt} {v : Int32} {u : Mem} (hX : CxOk G X cX12_is 4 RX12 (some (.int v), SH, RHO, u) 7) (hR : CxRet G X (some .boolean) (some (.int v), SH, RHO, u)) (l2 : Int32) (h : FX12_is_146_5021_b67 l2 u = some v) : WM G X 67 [(2, .int l2)] [] SH RHO u := by
  unfold FX12_is_146_5021_b67 at h
  refine w_iload_n 0 67 hX rfl rfl dX12_is_67 ?_
  obtain ⟨x1, gx1, h⟩ := o_bind h
  obtain ⟨jx1, nx1, mx1⟩ := bchk_ok gx1
  rw [jx1]
  exact w_zret 68 hX hR nx1 dX12_is_68 (by cases h; rfl)
def FX12_is_146_5021_b60 (k24 : Int32 → Int32 → Mem → Option Int32) (l3 t0 : Int32) (u : Mem) : Option Int32 :=
  k24 t0 (l3 + 1) u
theorem bX12_is_146_5021_60 {G : Gt} {X : Xt} {v : Int32} {u : Mem} (hX : CxOk G X cX12_is 4 RX12 (some (.int v), SH, RHO, u) 7) (hR : CxRet G X (some .boolean) (some (.int v), SH, RHO, u)) {k24 : Int32 → Int32 → Mem → Option Int32} (hk24 : ∀ (l2 l3 : Int32), k24 l2 l3 u = some v → WM G X 24 [(0, .ref 146), (1, .ref 5021), (2, .int l2), (3, .int l3)] [] SH RHO u) (l3 t0 : Int32) (h : FX12_is_146_5021_b60 k24 l3 t0 u = some v) : WM G X 60 [(0, .ref 146), (1, .ref 5021), (3, .int l3)] [.int t0] SH RHO u := by
  unfold FX12_is_146_5021_b60 at h
  refine w_istore_n (lv' := [(2, .int t0), (0, .ref 146), (1, .ref 5021), (3, .int l3)]) 60 hX rfl dX12_is_60 (by decide) rfl ?_
  refine w_iinc (lv' := [(3, .int (l3 + 1)), (2, .int t0), (0, .ref 146), (1, .ref 5021)]) 61 3 hX dX12_is_61 rfl (inc_1 _) (by decide) rfl ?_
  refine w_goto (tgt := 24) 64 hX (by decide) dX12_is_64 ?_
  exact w_sub [2, 3, 1, 0] rfl (hk24 t0 (l3 + 1) h)
def FX12_is_146_5021_b24 (k24 : Int32 → Int32 → Mem → Option Int32) (l2 l3 : Int32) (u : Mem) : Option Int32 :=
  (S_len 21).bind fun x1 => (if x1 ≤ l3 then (FX12_is_146_5021_b67 l2 u) else ((if l2 = 0 then (FX12_is_146_5021_b67 l2 u) else ((rdA u 154 400 ((u 146 19) + l3)).bind fun x4 => (S_chr 21 l3).bind fun x5 => (if x4 = x5 then (FX12_is_146_5021_b60 k24 l3 1 u) else (FX12_is_146_5021_b60 k24 l3 0 u))))))
theorem bX12_is_146_5021_24 {G : Gt} {X : Xt} {v : Int32} {u : Mem} (hX : CxOk G X cX12_is 4 RX12 (some (.int v), SH, RHO, u) 7) (hR : CxRet G X (some .boolean) (some (.int v), SH, RHO, u)) {k24 : Int32 → Int32 → Mem → Option Int32} (hk24 : ∀ (l2 l3 : Int32), k24 l2 l3 u = some v → WM G X 24 [(0, .ref 146), (1, .ref 5021), (2, .int l2), (3, .int l3)] [] SH RHO u) (l2 l3 : Int32) (h : FX12_is_146_5021_b24 k24 l2 l3 u = some v) : WM G X 24 [(0, .ref 146), (1, .ref 5021), (2, .int l2), (3, .int l3)] [] SH RHO u := by
  unfold FX12_is_146_5021_b24 at h
  refine w_iload_n 3 24 hX rfl rfl dX12_is_24 ?_
  refine w_aload_n 1 25 hX rfl rfl dX12_is_25 ?_
  obtain ⟨x1, gx1, h⟩ := o_bind h
  refine w_S_len (i := 21) (st := [.int l3]) 26 hX ml_X12_89 gx1 (by decide) (by decide) (Nat.le_of_ble_eq_true rfl) dX12_is_26 ?_
  refine w_icmp_ge (tgt := 67) 29 hX dX12_is_29 (by decide) (fun c2 => ?_) (fun c2 => ?_)
  · have h := it h c2
    exact w_sub [2] rfl (bX12_is_146_5021_67 hX hR l2 h)
  · have h := ie h c2
    refine w_iload_n 2 32 hX rfl rfl dX12_is_32 ?_
    refine w_if_eq (tgt := 67) 33 hX dX12_is_33 (by decide) (fun c3 => ?_) (fun c3 => ?_)
    · have h := it h c3
      exact w_sub [2] rfl (bX12_is_146_5021_67 hX hR l2 h)
    · have h := ie h c3
      refine w_aload_n 0 36 hX rfl rfl dX12_is_36 ?_
      refine w_getR 37 hX CI_12 s_146 rfl r_146_9 fl_X12_31 rfl dX12_is_37 ?_
      refine w_aload_n 0 40 hX rfl rfl dX12_is_40 ?_
      refine w_getI (j := 19) 41 hX CI_12 s_146 rfl fl_X12_86 rfl dX12_is_41 ?_
      refine w_iload_n 3 44 hX rfl rfl dX12_is_44 ?_
      refine w_iadd 45 hX dX12_is_45 ?_
      obtain ⟨x4, gx4, h⟩ := o_bind h
      refine w_iald 46 hX s_154 gx4 dX12_is_46 ?_
      refine w_aload_n 1 47 hX rfl rfl dX12_is_47 ?_
      refine w_iload_n 3 48 hX rfl rfl dX12_is_48 ?_
      obtain ⟨x5, gx5, h⟩ := o_bind h
      refine w_S_chr (i := 21) (st := [.int x4]) 49 hX ml_X12_95 gx5 (by decide) (by decide) (Nat.le_of_ble_eq_true rfl) dX12_is_49 ?_
      refine w_icmp_ne (tgt := 59) 52 hX dX12_is_52 (by decide) (fun c6 => ?_) (fun c6 => ?_)
      · have h := ie h c6
        refine w_iconst 0 59 hX ic_0 dX12_is_59 ?_
        exact w_sub [0, 1, 3] rfl (bX12_is_146_5021_60 hX hR hk24 l3 0 h)
      · have h := it h c6
        refine w_iconst 1 55 hX ic_1 dX12_is_55 ?_
        refine w_goto (tgt := 60) 56 hX (by decide) dX12_is_56 ?_
        exact w_sub [0, 1, 3] rfl (bX12_is_146_5021_60 hX hR hk24 l3 1 h)
def FX12_is_146_5021_L24 : Nat → Int32 → Int32 → Mem → Option Int32
  | 0, _, _, _ => none
  | n + 1, l2, l3, u => FX12_is_146_5021_b24 (FX12_is_146_5021_L24 n) l2 l3 u
theorem lX12_is_146_5021_24 {G : Gt} {X : Xt} {v : Int32} {u : Mem} (hX : CxOk G X cX12_is 4 RX12 (some (.int v), SH, RHO, u) 7) (hR : CxRet G X (some .boolean) (some (.int v), SH, RHO, u)) : ∀ (n : Nat) (l2 l3 : Int32), FX12_is_146_5021_L24 n l2 l3 u = some v → WM G X 24 [(0, .ref 146), (1, .ref 5021), (2, .int l2), (3, .int l3)] [] SH RHO u := by
  intro n
  induction n with
  | zero =>
    intro l2 l3 h
    exact nn_ h
  | succ n ih =>
    intro l2 l3 h
    exact bX12_is_146_5021_24 hX hR ih l2 l3 h
def FX12_is_146_5021_b21 (t0 : Int32) (u : Mem) : Option Int32 :=
  FX12_is_146_5021_L24 FU t0 0 u
theorem bX12_is_146_5021_21 {G : Gt} {X : Xt} {v : Int32} {u : Mem} (hX : CxOk G X cX12_is 4 RX12 (some (.int v), SH, RHO, u) 7) (hR : CxRet G X (some .boolean) (some (.int v), SH, RHO, u)) (t0 : Int32) (h : FX12_is_146_5021_b21 t0 u = some v) : WM G X 21 [(0, .ref 146), (1, .ref 5021)] [.int t0] SH RHO u := by
  unfold FX12_is_146_5021_b21 at h
  refine w_istore_n (lv' := [(2, .int t0), (0, .ref 146), (1, .ref 5021)]) 21 hX rfl dX12_is_21 (by decide) rfl ?_
  refine w_iconst 0 22 hX ic_0 dX12_is_22 ?_
  refine w_istore_n (lv' := [(3, .int 0), (2, .int t0), (0, .ref 146), (1, .ref 5021)]) 23 hX rfl dX12_is_23 (by decide) rfl ?_
  exact w_sub [2, 3, 1, 0] rfl (lX12_is_146_5021_24 hX hR FU t0 0 h)
def FX12_is_146_5021 (u : Mem) : Option Int32 :=
  (S_len 21).bind fun x1 => (if ((u 146 17) - (u 146 19)) = x1 then (FX12_is_146_5021_b21 1 u) else (FX12_is_146_5021_b21 0 u))
theorem CX12_is_146_5021 {G : Gt} (u : Mem) {v : Int32} (h : FX12_is_146_5021 u = some v) : CT G yX12_is cX12_is 4 (some .boolean) 7 [.ref 146, .ref 5021] SH RHO u (some (.int v), SH, RHO, u) :=
  ct_of (by decide) rfl (Nat.le_of_ble_eq_true rfl) (Nat.le_refl _) (Nat.le_refl _) (fun X hX hR => by
  unfold FX12_is_146_5021 at h
  refine w_aload_n 0 0 hX rfl rfl dX12_is_0 ?_
  refine w_getI (j := 17) 1 hX CI_12 s_146 rfl fl_X12_83 rfl dX12_is_1 ?_
  refine w_aload_n 0 4 hX rfl rfl dX12_is_4 ?_
  refine w_getI (j := 19) 5 hX CI_12 s_146 rfl fl_X12_86 rfl dX12_is_5 ?_
  refine w_isub 8 hX dX12_is_8 ?_
  refine w_aload_n 1 9 hX rfl rfl dX12_is_9 ?_
  obtain ⟨x1, gx1, h⟩ := o_bind h
  refine w_S_len (i := 21) (st := [.int ((u 146 17) - (u 146 19))]) 10 hX ml_X12_89 gx1 (by decide) (by decide) (Nat.le_of_ble_eq_true rfl) dX12_is_10 ?_
  refine w_icmp_ne (tgt := 20) 13 hX dX12_is_13 (by decide) (fun c2 => ?_) (fun c2 => ?_)
  · have h := ie h c2
    refine w_iconst 0 20 hX ic_0 dX12_is_20 ?_
    exact bX12_is_146_5021_21 hX hR 0 h
  · have h := it h c2
    refine w_iconst 1 16 hX ic_1 dX12_is_16 ?_
    refine w_goto (tgt := 21) 17 hX (by decide) dX12_is_17 ?_
    exact bX12_is_146_5021_21 hX hR 1 h)
def FX12_asked_146 (u : Mem) : Option Int32 :=
  (FX12_is_146_5013 u).bind fun x1 => (if x1 = 0 then ((FX12_is_146_5014 u).bind fun x3 => (if x3 = 0 then ((FX12_is_146_5015 u).bind fun x5 => (if x5 = 0 then ((FX12_is_146_5016 u).bind fun x7 => (if x7 = 0 then ((FX12_is_146_5017 u).bind fun x9 => (if x9 = 0 then ((FX12_is_146_5018 u).bind fun x11 => (if x11 = 0 then ((FX12_is_146_5019 u).bind fun x13 => (if x13 = 0 then ((FX12_is_146_5020 u).bind fun x15 => (if x15 = 0 then ((FX12_is_146_5021 u).bind fun x17 => (if x17 = 0 then (some 1) else (some 49))) else (some 48))) else (some 47))) else (some 46))) else (some 45))) else (some 44))) else (some 43))) else (some 42))) else (some 41))
theorem CX12_asked_146 {G : Gt} (u : Mem) {v : Int32} (h : FX12_asked_146 u = some v) : CT G yX12_asked cX12_asked 1 (some .int) 8 [.ref 146] SH RHO u (some (.int v), SH, RHO, u) :=
  ct_of (by decide) rfl (Nat.le_of_ble_eq_true rfl) (Nat.le_refl _) (Nat.le_refl _) (fun X hX hR => by
  unfold FX12_asked_146 at h
  refine w_aload_n 0 0 hX rfl rfl dX12_asked_0 ?_
  refine w_ldcs 13 1 hX (by decide) rfl rfl dX12_asked_1 ?_
  obtain ⟨x1, gx1, h⟩ := o_bind h
  refine w_invVi (av := [.ref 5013]) (st := []) 3 hX CI_12 s_146 rfl mv_yX12_is mi_yX12_is ml_X12_101 (CX12_is_146_5013 u gx1) rfl (by decide) (Nat.le_of_ble_eq_true rfl) (Nat.le_refl _) (Nat.le_refl _) dX12_asked_3 ?_
  refine w_if_eq (tgt := 12) 6 hX dX12_asked_6 (by decide) (fun c2 => ?_) (fun c2 => ?_)
  · have h := it h c2
    refine w_aload_n 0 12 hX rfl rfl dX12_asked_12 ?_
    refine w_ldcs 14 13 hX (by decide) rfl rfl dX12_asked_13 ?_
    obtain ⟨x3, gx3, h⟩ := o_bind h
    refine w_invVi (av := [.ref 5014]) (st := []) 15 hX CI_12 s_146 rfl mv_yX12_is mi_yX12_is ml_X12_101 (CX12_is_146_5014 u gx3) rfl (by decide) (Nat.le_of_ble_eq_true rfl) (Nat.le_refl _) (Nat.le_refl _) dX12_asked_15 ?_
    refine w_if_eq (tgt := 24) 18 hX dX12_asked_18 (by decide) (fun c4 => ?_) (fun c4 => ?_)
    · have h := it h c4
      refine w_aload_n 0 24 hX rfl rfl dX12_asked_24 ?_
      refine w_ldcs 15 25 hX (by decide) rfl rfl dX12_asked_25 ?_
      obtain ⟨x5, gx5, h⟩ := o_bind h
      refine w_invVi (av := [.ref 5015]) (st := []) 27 hX CI_12 s_146 rfl mv_yX12_is mi_yX12_is ml_X12_101 (CX12_is_146_5015 u gx5) rfl (by decide) (Nat.le_of_ble_eq_true rfl) (Nat.le_refl _) (Nat.le_refl _) dX12_asked_27 ?_
      refine w_if_eq (tgt := 36) 30 hX dX12_asked_30 (by decide) (fun c6 => ?_) (fun c6 => ?_)
      · have h := it h c6
        refine w_aload_n 0 36 hX rfl rfl dX12_asked_36 ?_
        refine w_ldcs 16 37 hX (by decide) rfl rfl dX12_asked_37 ?_
        obtain ⟨x7, gx7, h⟩ := o_bind h
        refine w_invVi (av := [.ref 5016]) (st := []) 39 hX CI_12 s_146 rfl mv_yX12_is mi_yX12_is ml_X12_101 (CX12_is_146_5016 u gx7) rfl (by decide) (Nat.le_of_ble_eq_true rfl) (Nat.le_refl _) (Nat.le_refl _) dX12_asked_39 ?_
        refine w_if_eq (tgt := 48) 42 hX dX12_asked_42 (by decide) (fun c8 => ?_) (fun c8 => ?_)
        · have h := it h c8
          refine w_aload_n 0 48 hX rfl rfl dX12_asked_48 ?_
          refine w_ldcs 17 49 hX (by decide) rfl rfl dX12_asked_49 ?_
          obtain ⟨x9, gx9, h⟩ := o_bind h
          refine w_invVi (av := [.ref 5017]) (st := []) 51 hX CI_12 s_146 rfl mv_yX12_is mi_yX12_is ml_X12_101 (CX12_is_146_5017 u gx9) rfl (by decide) (Nat.le_of_ble_eq_true rfl) (Nat.le_refl _) (Nat.le_refl _) dX12_asked_51 ?_
          refine w_if_eq (tgt := 60) 54 hX dX12_asked_54 (by decide) (fun c10 => ?_) (fun c10 => ?_)
          · have h := it h c10
            refine w_aload_n 0 60 hX rfl rfl dX12_asked_60 ?_
            refine w_ldcs 18 61 hX (by decide) rfl rfl dX12_asked_61 ?_
            obtain ⟨x11, gx11, h⟩ := o_bind h
            refine w_invVi (av := [.ref 5018]) (st := []) 63 hX CI_12 s_146 rfl mv_yX12_is mi_yX12_is ml_X12_101 (CX12_is_146_5018 u gx11) rfl (by decide) (Nat.le_of_ble_eq_true rfl) (Nat.le_refl _) (Nat.le_refl _) dX12_asked_63 ?_
            refine w_if_eq (tgt := 72) 66 hX dX12_asked_66 (by decide) (fun c12 => ?_) (fun c12 => ?_)
            · have h := it h c12
              refine w_aload_n 0 72 hX rfl rfl dX12_asked_72 ?_
              refine w_ldcs 19 73 hX (by decide) rfl rfl dX12_asked_73 ?_
              obtain ⟨x13, gx13, h⟩ := o_bind h
              refine w_invVi (av := [.ref 5019]) (st := []) 75 hX CI_12 s_146 rfl mv_yX12_is mi_yX12_is ml_X12_101 (CX12_is_146_5019 u gx13) rfl (by decide) (Nat.le_of_ble_eq_true rfl) (Nat.le_refl _) (Nat.le_refl _) dX12_asked_75 ?_
              refine w_if_eq (tgt := 84) 78 hX dX12_asked_78 (by decide) (fun c14 => ?_) (fun c14 => ?_)
              · have h := it h c14
                refine w_aload_n 0 84 hX rfl rfl dX12_asked_84 ?_
                refine w_ldcs 20 85 hX (by decide) rfl rfl dX12_asked_85 ?_
                obtain ⟨x15, gx15, h⟩ := o_bind h
                refine w_invVi (av := [.ref 5020]) (st := []) 87 hX CI_12 s_146 rfl mv_yX12_is mi_yX12_is ml_X12_101 (CX12_is_146_5020 u gx15) rfl (by decide) (Nat.le_of_ble_eq_true rfl) (Nat.le_refl _) (Nat.le_refl _) dX12_asked_87 ?_
                refine w_if_eq (tgt := 96) 90 hX dX12_asked_90 (by decide) (fun c16 => ?_) (fun c16 => ?_)
                · have h := it h c16
                  refine w_aload_n 0 96 hX rfl rfl dX12_asked_96 ?_
                  refine w_ldcs 21 97 hX (by decide) rfl rfl dX12_asked_97 ?_
                  obtain ⟨x17, gx17, h⟩ := o_bind h
                  refine w_invVi (av := [.ref 5021]) (st := []) 99 hX CI_12 s_146 rfl mv_yX12_is mi_yX12_is ml_X12_101 (CX12_is_146_5021 u gx17) rfl (by decide) (Nat.le_of_ble_eq_true rfl) (Nat.le_refl _) (Nat.le_refl _) dX12_asked_99 ?_
                  refine w_if_eq (tgt := 110) 102 hX dX12_asked_102 (by decide) (fun c18 => ?_) (fun c18 => ?_)
                  · have h := it h c18
                    refine w_iconst 1 110 hX ic_1 dX12_asked_110 ?_
                    exact w_iret 111 hX hR dX12_asked_111 (by cases h; rfl)
                  · have h := ie h c18
                    refine w_bipush 49 105 hX ib_49 dX12_asked_105 ?_
                    refine w_goto (tgt := 111) 107 hX (by decide) dX12_asked_107 ?_
                    exact w_iret 111 hX hR dX12_asked_111 (by cases h; rfl)
                · have h := ie h c16
                  refine w_bipush 48 93 hX ib_48 dX12_asked_93 ?_
                  exact w_iret 95 hX hR dX12_asked_95 (by cases h; rfl)
              · have h := ie h c14
                refine w_bipush 47 81 hX ib_47 dX12_asked_81 ?_
                exact w_iret 83 hX hR dX12_asked_83 (by cases h; rfl)
            · have h := ie h c12
              refine w_bipush 46 69 hX ib_46 dX12_asked_69 ?_
              exact w_iret 71 hX hR dX12_asked_71 (by cases h; rfl)
          · have h := ie h c10
            refine w_bipush 45 57 hX ib_45 dX12_asked_57 ?_
            exact w_iret 59 hX hR dX12_asked_59 (by cases h; rfl)
        · have h := ie h c8
          refine w_bipush 44 45 hX ib_44 dX12_asked_45 ?_
          exact w_iret 47 hX hR dX12_asked_47 (by cases h; rfl)
      · have h := ie h c6
        refine w_bipush 43 33 hX ib_43 dX12_asked_33 ?_
        exact w_iret 35 hX hR dX12_asked_35 (by cases h; rfl)
    · have h := ie h c4
      refine w_bipush 42 21 hX ib_42 dX12_asked_21 ?_
      exact w_iret 23 hX hR dX12_asked_23 (by cases h; rfl)
  · have h := ie h c2
    refine w_bipush 41 9 hX ib_41 dX12_asked_9 ?_
    exact w_iret 11 hX hR dX12_asked_11 (by cases h; rfl))
def FX12_lawWord_146 (u : Mem) : Option Int32 :=
  (FX12_is_146_5005 u).bind fun x1 => (if x1 = 0 then ((FX12_is_146_5006 u).bind fun x3 => (if x3 = 0 then ((FX12_is_146_5007 u).bind fun x5 => (if x5 = 0 then ((FX12_is_146_5008 u).bind fun x7 => (if x7 = 0 then ((FX12_is_146_5009 u).bind fun x9 => (if x9 = 0 then ((FX12_is_146_5010 u).bind fun x11 => (if x11 = 0 then ((FX12_is_146_5011 u).bind fun x13 => (if x13 = 0 then ((FX12_is_146_5012 u).bind fun x15 => (if x15 = 0 then ((FX12_asked_146 u).bind fun x17 => some x17) else (some 23))) else (some 22))) else (some 21))) else (some 20))) else (some 6))) else (some 5))) else (some 4))) else (some 3))
theorem CX12_lawWord_146 {G : Gt} (u : Mem) {v : Int32} (h : FX12_lawWord_146 u = some v) : CT G yX12_lawWord cX12_lawWord 1 (some .int) 9 [.ref 146] SH RHO u (some (.int v), SH, RHO, u) :=
  ct_of (by decide) rfl (Nat.le_of_ble_eq_true rfl) (Nat.le_refl _) (Nat.le_refl _) (fun X hX hR => by
  unfold FX12_lawWord_146 at h
  refine w_aload_n 0 0 hX rfl rfl dX12_lawWord_0 ?_
  refine w_ldcs 5 1 hX (by decide) rfl rfl dX12_lawWord_1 ?_
  obtain ⟨x1, gx1, h⟩ := o_bind h
  refine w_invVi (av := [.ref 5005]) (st := []) 3 hX CI_12 s_146 rfl mv_yX12_is mi_yX12_is ml_X12_101 (CX12_is_146_5005 u gx1) rfl (by decide) (Nat.le_of_ble_eq_true rfl) (Nat.le_refl _) (Nat.le_refl _) dX12_lawWord_3 ?_
  refine w_if_eq (tgt := 11) 6 hX dX12_lawWord_6 (by decide) (fun c2 => ?_) (fun c2 => ?_)
  · have h := it h c2
    refine w_aload_n 0 11 hX rfl rfl dX12_lawWord_11 ?_
    refine w_ldcs 6 12 hX (by decide) rfl rfl dX12_lawWord_12 ?_
    obtain ⟨x3, gx3, h⟩ := o_bind h
    refine w_invVi (av := [.ref 5006]) (st := []) 14 hX CI_12 s_146 rfl mv_yX12_is mi_yX12_is ml_X12_101 (CX12_is_146_5006 u gx3) rfl (by decide) (Nat.le_of_ble_eq_true rfl) (Nat.le_refl _) (Nat.le_refl _) dX12_lawWord_14 ?_
    refine w_if_eq (tgt := 22) 17 hX dX12_lawWord_17 (by decide) (fun c4 => ?_) (fun c4 => ?_)
    · have h := it h c4
      refine w_aload_n 0 22 hX rfl rfl dX12_lawWord_22 ?_
      refine w_ldcs 7 23 hX (by decide) rfl rfl dX12_lawWord_23 ?_
      obtain ⟨x5, gx5, h⟩ := o_bind h
      refine w_invVi (av := [.ref 5007]) (st := []) 25 hX CI_12 s_146 rfl mv_yX12_is mi_yX12_is ml_X12_101 (CX12_is_146_5007 u gx5) rfl (by decide) (Nat.le_of_ble_eq_true rfl) (Nat.le_refl _) (Nat.le_refl _) dX12_lawWord_25 ?_
      refine w_if_eq (tgt := 33) 28 hX dX12_lawWord_28 (by decide) (fun c6 => ?_) (fun c6 => ?_)
      · have h := it h c6
        refine w_aload_n 0 33 hX rfl rfl dX12_lawWord_33 ?_
        refine w_ldcs 8 34 hX (by decide) rfl rfl dX12_lawWord_34 ?_
        obtain ⟨x7, gx7, h⟩ := o_bind h
        refine w_invVi (av := [.ref 5008]) (st := []) 36 hX CI_12 s_146 rfl mv_yX12_is mi_yX12_is ml_X12_101 (CX12_is_146_5008 u gx7) rfl (by decide) (Nat.le_of_ble_eq_true rfl) (Nat.le_refl _) (Nat.le_refl _) dX12_lawWord_36 ?_
        refine w_if_eq (tgt := 45) 39 hX dX12_lawWord_39 (by decide) (fun c8 => ?_) (fun c8 => ?_)
        · have h := it h c8
          refine w_aload_n 0 45 hX rfl rfl dX12_lawWord_45 ?_
          refine w_ldcs 9 46 hX (by decide) rfl rfl dX12_lawWord_46 ?_
          obtain ⟨x9, gx9, h⟩ := o_bind h
          refine w_invVi (av := [.ref 5009]) (st := []) 48 hX CI_12 s_146 rfl mv_yX12_is mi_yX12_is ml_X12_101 (CX12_is_146_5009 u gx9) rfl (by decide) (Nat.le_of_ble_eq_true rfl) (Nat.le_refl _) (Nat.le_refl _) dX12_lawWord_48 ?_
          refine w_if_eq (tgt := 57) 51 hX dX12_lawWord_51 (by decide) (fun c10 => ?_) (fun c10 => ?_)
          · have h := it h c10
            refine w_aload_n 0 57 hX rfl rfl dX12_lawWord_57 ?_
            refine w_ldcs 10 58 hX (by decide) rfl rfl dX12_lawWord_58 ?_
            obtain ⟨x11, gx11, h⟩ := o_bind h
            refine w_invVi (av := [.ref 5010]) (st := []) 60 hX CI_12 s_146 rfl mv_yX12_is mi_yX12_is ml_X12_101 (CX12_is_146_5010 u gx11) rfl (by decide) (Nat.le_of_ble_eq_true rfl) (Nat.le_refl _) (Nat.le_refl _) dX12_lawWord_60 ?_
            refine w_if_eq (tgt := 69) 63 hX dX12_lawWord_63 (by decide) (fun c12 => ?_) (fun c12 => ?_)
            · have h := it h c12
              refine w_aload_n 0 69 hX rfl rfl dX12_lawWord_69 ?_
              refine w_ldcs 11 70 hX (by decide) rfl rfl dX12_lawWord_70 ?_
              obtain ⟨x13, gx13, h⟩ := o_bind h
              refine w_invVi (av := [.ref 5011]) (st := []) 72 hX CI_12 s_146 rfl mv_yX12_is mi_yX12_is ml_X12_101 (CX12_is_146_5011 u gx13) rfl (by decide) (Nat.le_of_ble_eq_true rfl) (Nat.le_refl _) (Nat.le_refl _) dX12_lawWord_72 ?_
              refine w_if_eq (tgt := 81) 75 hX dX12_lawWord_75 (by decide) (fun c14 => ?_) (fun c14 => ?_)
              · have h := it h c14
                refine w_aload_n 0 81 hX rfl rfl dX12_lawWord_81 ?_
                refine w_ldcs 12 82 hX (by decide) rfl rfl dX12_lawWord_82 ?_
                obtain ⟨x15, gx15, h⟩ := o_bind h
                refine w_invVi (av := [.ref 5012]) (st := []) 84 hX CI_12 s_146 rfl mv_yX12_is mi_yX12_is ml_X12_101 (CX12_is_146_5012 u gx15) rfl (by decide) (Nat.le_of_ble_eq_true rfl) (Nat.le_refl _) (Nat.le_refl _) dX12_lawWord_84 ?_
                refine w_if_eq (tgt := 95) 87 hX dX12_lawWord_87 (by decide) (fun c16 => ?_) (fun c16 => ?_)
                · have h := it h c16
                  refine w_aload_n 0 95 hX rfl rfl dX12_lawWord_95 ?_
                  obtain ⟨x17, gx17, h⟩ := o_bind h
                  refine w_invVi (av := []) (st := []) 96 hX CI_12 s_146 rfl mv_yX12_asked mi_yX12_asked ml_X12_136 (CX12_asked_146 u gx17) rfl (by decide) (Nat.le_of_ble_eq_true rfl) (Nat.le_refl _) (Nat.le_refl _) dX12_lawWord_96 ?_
                  exact w_iret 99 hX hR dX12_lawWord_99 (by cases h; rfl)
                · have h := ie h c16
                  refine w_bipush 23 90 hX ib_23 dX12_lawWord_90 ?_
                  refine w_goto (tgt := 99) 92 hX (by decide) dX12_lawWord_92 ?_
                  exact w_iret 99 hX hR dX12_lawWord_99 (by cases h; rfl)
              · have h := ie h c14
                refine w_bipush 22 78 hX ib_22 dX12_lawWord_78 ?_
                exact w_iret 80 hX hR dX12_lawWord_80 (by cases h; rfl)
            · have h := ie h c12
              refine w_bipush 21 66 hX ib_21 dX12_lawWord_66 ?_
              exact w_iret 68 hX hR dX12_lawWord_68 (by cases h; rfl)
          · have h := ie h c10
            refine w_bipush 20 54 hX ib_20 dX12_lawWord_54 ?_
            exact w_iret 56 hX hR dX12_lawWord_56 (by cases h; rfl)
        · have h := ie h c8
          refine w_bipush 6 42 hX ib_6 dX12_lawWord_42 ?_
          exact w_iret 44 hX hR dX12_lawWord_44 (by cases h; rfl)
      · have h := ie h c6
        refine w_iconst 5 31 hX ic_5 dX12_lawWord_31 ?_
        exact w_iret 32 hX hR dX12_lawWord_32 (by cases h; rfl)
    · have h := ie h c4
      refine w_iconst 4 20 hX ic_4 dX12_lawWord_20 ?_
      exact w_iret 21 hX hR dX12_lawWord_21 (by cases h; rfl)
  · have h := ie h c2
    refine w_iconst 3 9 hX ic_3 dX12_lawWord_9 ?_
    exact w_iret 10 hX hR dX12_lawWord_10 (by cases h; rfl))
def FX12_is_146_5022_b67 (l2 : Int32) (u : Mem) : Option Int32 :=
  (bchk l2).bind fun x1 => some x1
theorem bX12_is_146_5022_67 {G : Gt} {X : Xt} {v : Int32} {u : Mem} (hX : CxOk G X cX12_is 4 RX12 (some (.int v), SH, RHO, u) 7) (hR : CxRet G X (some .boolean) (some (.int v), SH, RHO, u)) (l2 : Int32) (h : FX12_is_146_5022_b67 l2 u = some v) : WM G X 67 [(2, .int l2)] [] SH RHO u := by
  unfold FX12_is_146_5022_b67 at h
  refine w_iload_n 0 67 hX rfl rfl dX12_is_67 ?_
  obtain ⟨x1, gx1, h⟩ := o_bind h
  obtain ⟨jx1, nx1, mx1⟩ := bchk_ok gx1
  rw [jx1]
  exact w_zret 68 hX hR nx1 dX12_is_68 (by cases h; rfl)
def FX12_is_146_5022_b60 (k24 : Int32 → Int32 → Mem → Option Int32) (l3 t0 : Int32) (u : Mem) : Option Int32 :=
  k24 t0 (l3 + 1) u
theorem bX12_is_146_5022_60 {G : Gt} {X : Xt} {v : Int32} {u : Mem} (hX : CxOk G X cX12_is 4 RX12 (some (.int v), SH, RHO, u) 7) (hR : CxRet G X (some .boolean) (some (.int v), SH, RHO, u)) {k24 : Int32 → Int32 → Mem → Option Int32} (hk24 : ∀ (l2 l3 : Int32), k24 l2 l3 u = some v → WM G X 24 [(0, .ref 146), (1, .ref 5022), (2, .int l2), (3, .int l3)] [] SH RHO u) (l3 t0 : Int32) (h : FX12_is_146_5022_b60 k24 l3 t0 u = some v) : WM G X 60 [(0, .ref 146), (1, .ref 5022), (3, .int l3)] [.int t0] SH RHO u := by
  unfold FX12_is_146_5022_b60 at h
  refine w_istore_n (lv' := [(2, .int t0), (0, .ref 146), (1, .ref 5022), (3, .int l3)]) 60 hX rfl dX12_is_60 (by decide) rfl ?_
  refine w_iinc (lv' := [(3, .int (l3 + 1)), (2, .int t0), (0, .ref 146), (1, .ref 5022)]) 61 3 hX dX12_is_61 rfl (inc_1 _) (by decide) rfl ?_
  refine w_goto (tgt := 24) 64 hX (by decide) dX12_is_64 ?_
  exact w_sub [2, 3, 1, 0] rfl (hk24 t0 (l3 + 1) h)
def FX12_is_146_5022_b24 (k24 : Int32 → Int32 → Mem → Option Int32) (l2 l3 : Int32) (u : Mem) : Option Int32 :=
  (S_len 22).bind fun x1 => (if x1 ≤ l3 then (FX12_is_146_5022_b67 l2 u) else ((if l2 = 0 then (FX12_is_146_5022_b67 l2 u) else ((rdA u 154 400 ((u 146 19) + l3)).bind fun x4 => (S_chr 22 l3).bind fun x5 => (if x4 = x5 then (FX12_is_146_5022_b60 k24 l3 1 u) else (FX12_is_146_5022_b60 k24 l3 0 u))))))
theorem bX12_is_146_5022_24 {G : Gt} {X : Xt} {v : Int32} {u : Mem} (hX : CxOk G X cX12_is 4 RX12 (some (.int v), SH, RHO, u) 7) (hR : CxRet G X (some .boolean) (some (.int v), SH, RHO, u)) {k24 : Int32 → Int32 → Mem → Option Int32} (hk24 : ∀ (l2 l3 : Int32), k24 l2 l3 u = some v → WM G X 24 [(0, .ref 146), (1, .ref 5022), (2, .int l2), (3, .int l3)] [] SH RHO u) (l2 l3 : Int32) (h : FX12_is_146_5022_b24 k24 l2 l3 u = some v) : WM G X 24 [(0, .ref 146), (1, .ref 5022), (2, .int l2), (3, .int l3)] [] SH RHO u := by
  unfold FX12_is_146_5022_b24 at h
  refine w_iload_n 3 24 hX rfl rfl dX12_is_24 ?_
  refine w_aload_n 1 25 hX rfl rfl dX12_is_25 ?_
  obtain ⟨x1, gx1, h⟩ := o_bind h
  refine w_S_len (i := 22) (st := [.int l3]) 26 hX ml_X12_89 gx1 (by decide) (by decide) (Nat.le_of_ble_eq_true rfl) dX12_is_26 ?_
  refine w_icmp_ge (tgt := 67) 29 hX dX12_is_29 (by decide) (fun c2 => ?_) (fun c2 => ?_)
  · have h := it h c2
    exact w_sub [2] rfl (bX12_is_146_5022_67 hX hR l2 h)
  · have h := ie h c2
    refine w_iload_n 2 32 hX rfl rfl dX12_is_32 ?_
    refine w_if_eq (tgt := 67) 33 hX dX12_is_33 (by decide) (fun c3 => ?_) (fun c3 => ?_)
    · have h := it h c3
      exact w_sub [2] rfl (bX12_is_146_5022_67 hX hR l2 h)
    · have h := ie h c3
      refine w_aload_n 0 36 hX rfl rfl dX12_is_36 ?_
      refine w_getR 37 hX CI_12 s_146 rfl r_146_9 fl_X12_31 rfl dX12_is_37 ?_
      refine w_aload_n 0 40 hX rfl rfl dX12_is_40 ?_
      refine w_getI (j := 19) 41 hX CI_12 s_146 rfl fl_X12_86 rfl dX12_is_41 ?_
      refine w_iload_n 3 44 hX rfl rfl dX12_is_44 ?_
      refine w_iadd 45 hX dX12_is_45 ?_
      obtain ⟨x4, gx4, h⟩ := o_bind h
      refine w_iald 46 hX s_154 gx4 dX12_is_46 ?_
      refine w_aload_n 1 47 hX rfl rfl dX12_is_47 ?_
      refine w_iload_n 3 48 hX rfl rfl dX12_is_48 ?_
      obtain ⟨x5, gx5, h⟩ := o_bind h
      refine w_S_chr (i := 22) (st := [.int x4]) 49 hX ml_X12_95 gx5 (by decide) (by decide) (Nat.le_of_ble_eq_true rfl) dX12_is_49 ?_
      refine w_icmp_ne (tgt := 59) 52 hX dX12_is_52 (by decide) (fun c6 => ?_) (fun c6 => ?_)
      · have h := ie h c6
        refine w_iconst 0 59 hX ic_0 dX12_is_59 ?_
        exact w_sub [0, 1, 3] rfl (bX12_is_146_5022_60 hX hR hk24 l3 0 h)
      · have h := it h c6
        refine w_iconst 1 55 hX ic_1 dX12_is_55 ?_
        refine w_goto (tgt := 60) 56 hX (by decide) dX12_is_56 ?_
        exact w_sub [0, 1, 3] rfl (bX12_is_146_5022_60 hX hR hk24 l3 1 h)
def FX12_is_146_5022_L24 : Nat → Int32 → Int32 → Mem → Option Int32
  | 0, _, _, _ => none
  | n + 1, l2, l3, u => FX12_is_146_5022_b24 (FX12_is_146_5022_L24 n) l2 l3 u
theorem lX12_is_146_5022_24 {G : Gt} {X : Xt} {v : Int32} {u : Mem} (hX : CxOk G X cX12_is 4 RX12 (some (.int v), SH, RHO, u) 7) (hR : CxRet G X (some .boolean) (some (.int v), SH, RHO, u)) : ∀ (n : Nat) (l2 l3 : Int32), FX12_is_146_5022_L24 n l2 l3 u = some v → WM G X 24 [(0, .ref 146), (1, .ref 5022), (2, .int l2), (3, .int l3)] [] SH RHO u := by
  intro n
  induction n with
  | zero =>
    intro l2 l3 h
    exact nn_ h
  | succ n ih =>
    intro l2 l3 h
    exact bX12_is_146_5022_24 hX hR ih l2 l3 h
def FX12_is_146_5022_b21 (t0 : Int32) (u : Mem) : Option Int32 :=
  FX12_is_146_5022_L24 FU t0 0 u
theorem bX12_is_146_5022_21 {G : Gt} {X : Xt} {v : Int32} {u : Mem} (hX : CxOk G X cX12_is 4 RX12 (some (.int v), SH, RHO, u) 7) (hR : CxRet G X (some .boolean) (some (.int v), SH, RHO, u)) (t0 : Int32) (h : FX12_is_146_5022_b21 t0 u = some v) : WM G X 21 [(0, .ref 146), (1, .ref 5022)] [.int t0] SH RHO u := by
  unfold FX12_is_146_5022_b21 at h
  refine w_istore_n (lv' := [(2, .int t0), (0, .ref 146), (1, .ref 5022)]) 21 hX rfl dX12_is_21 (by decide) rfl ?_
  refine w_iconst 0 22 hX ic_0 dX12_is_22 ?_
  refine w_istore_n (lv' := [(3, .int 0), (2, .int t0), (0, .ref 146), (1, .ref 5022)]) 23 hX rfl dX12_is_23 (by decide) rfl ?_
  exact w_sub [2, 3, 1, 0] rfl (lX12_is_146_5022_24 hX hR FU t0 0 h)
def FX12_is_146_5022 (u : Mem) : Option Int32 :=
  (S_len 22).bind fun x1 => (if ((u 146 17) - (u 146 19)) = x1 then (FX12_is_146_5022_b21 1 u) else (FX12_is_146_5022_b21 0 u))
theorem CX12_is_146_5022 {G : Gt} (u : Mem) {v : Int32} (h : FX12_is_146_5022 u = some v) : CT G yX12_is cX12_is 4 (some .boolean) 7 [.ref 146, .ref 5022] SH RHO u (some (.int v), SH, RHO, u) :=
  ct_of (by decide) rfl (Nat.le_of_ble_eq_true rfl) (Nat.le_refl _) (Nat.le_refl _) (fun X hX hR => by
  unfold FX12_is_146_5022 at h
  refine w_aload_n 0 0 hX rfl rfl dX12_is_0 ?_
  refine w_getI (j := 17) 1 hX CI_12 s_146 rfl fl_X12_83 rfl dX12_is_1 ?_
  refine w_aload_n 0 4 hX rfl rfl dX12_is_4 ?_
  refine w_getI (j := 19) 5 hX CI_12 s_146 rfl fl_X12_86 rfl dX12_is_5 ?_
  refine w_isub 8 hX dX12_is_8 ?_
  refine w_aload_n 1 9 hX rfl rfl dX12_is_9 ?_
  obtain ⟨x1, gx1, h⟩ := o_bind h
  refine w_S_len (i := 22) (st := [.int ((u 146 17) - (u 146 19))]) 10 hX ml_X12_89 gx1 (by decide) (by decide) (Nat.le_of_ble_eq_true rfl) dX12_is_10 ?_
  refine w_icmp_ne (tgt := 20) 13 hX dX12_is_13 (by decide) (fun c2 => ?_) (fun c2 => ?_)
  · have h := ie h c2
    refine w_iconst 0 20 hX ic_0 dX12_is_20 ?_
    exact bX12_is_146_5022_21 hX hR 0 h
  · have h := it h c2
    refine w_iconst 1 16 hX ic_1 dX12_is_16 ?_
    refine w_goto (tgt := 21) 17 hX (by decide) dX12_is_17 ?_
    exact bX12_is_146_5022_21 hX hR 1 h)
def FX12_tellWord_146 (u : Mem) : Option Int32 :=
  (FX12_is_146_5022 u).bind fun x1 => (if x1 = 0 then ((FX12_is_146_5007 u).bind fun x3 => (if x3 = 0 then (some 1) else (some 5))) else (some 7))
theorem CX12_tellWord_146 {G : Gt} (u : Mem) {v : Int32} (h : FX12_tellWord_146 u = some v) : CT G yX12_tellWord cX12_tellWord 1 (some .int) 8 [.ref 146] SH RHO u (some (.int v), SH, RHO, u) :=
  ct_of (by decide) rfl (Nat.le_of_ble_eq_true rfl) (Nat.le_refl _) (Nat.le_refl _) (fun X hX hR => by
  unfold FX12_tellWord_146 at h
  refine w_aload_n 0 0 hX rfl rfl dX12_tellWord_0 ?_
  refine w_ldcs 22 1 hX (by decide) rfl rfl dX12_tellWord_1 ?_
  obtain ⟨x1, gx1, h⟩ := o_bind h
  refine w_invVi (av := [.ref 5022]) (st := []) 3 hX CI_12 s_146 rfl mv_yX12_is mi_yX12_is ml_X12_101 (CX12_is_146_5022 u gx1) rfl (by decide) (Nat.le_of_ble_eq_true rfl) (Nat.le_refl _) (Nat.le_refl _) dX12_tellWord_3 ?_
  refine w_if_eq (tgt := 12) 6 hX dX12_tellWord_6 (by decide) (fun c2 => ?_) (fun c2 => ?_)
  · have h := it h c2
    refine w_aload_n 0 12 hX rfl rfl dX12_tellWord_12 ?_
    refine w_ldcs 7 13 hX (by decide) rfl rfl dX12_tellWord_13 ?_
    obtain ⟨x3, gx3, h⟩ := o_bind h
    refine w_invVi (av := [.ref 5007]) (st := []) 15 hX CI_12 s_146 rfl mv_yX12_is mi_yX12_is ml_X12_101 (CX12_is_146_5007 u gx3) rfl (by decide) (Nat.le_of_ble_eq_true rfl) (Nat.le_refl _) (Nat.le_refl _) dX12_tellWord_15 ?_
    refine w_if_eq (tgt := 25) 18 hX dX12_tellWord_18 (by decide) (fun c4 => ?_) (fun c4 => ?_)
    · have h := it h c4
      refine w_iconst 1 25 hX ic_1 dX12_tellWord_25 ?_
      exact w_iret 26 hX hR dX12_tellWord_26 (by cases h; rfl)
    · have h := ie h c4
      refine w_iconst 5 21 hX ic_5 dX12_tellWord_21 ?_
      refine w_goto (tgt := 26) 22 hX (by decide) dX12_tellWord_22 ?_
      exact w_iret 26 hX hR dX12_tellWord_26 (by cases h; rfl)
  · have h := ie h c2
    refine w_bipush 7 9 hX ib_7 dX12_tellWord_9 ?_
    exact w_iret 11 hX hR dX12_tellWord_11 (by cases h; rfl))
def FX12_is_146_5023_b67 (l2 : Int32) (u : Mem) : Option Int32 :=
  (bchk l2).bind fun x1 => some x1
theorem bX12_is_146_5023_67 {G : Gt} {X : Xt} {v : Int32} {u : Mem} (hX : CxOk G X cX12_is 4 RX12 (some (.int v), SH, RHO, u) 7) (hR : CxRet G X (some .boolean) (some (.int v), SH, RHO, u)) (l2 : Int32) (h : FX12_is_146_5023_b67 l2 u = some v) : WM G X 67 [(2, .int l2)] [] SH RHO u := by
  unfold FX12_is_146_5023_b67 at h
  refine w_iload_n 0 67 hX rfl rfl dX12_is_67 ?_
  obtain ⟨x1, gx1, h⟩ := o_bind h
  obtain ⟨jx1, nx1, mx1⟩ := bchk_ok gx1
  rw [jx1]
  exact w_zret 68 hX hR nx1 dX12_is_68 (by cases h; rfl)
def FX12_is_146_5023_b60 (k24 : Int32 → Int32 → Mem → Option Int32) (l3 t0 : Int32) (u : Mem) : Option Int32 :=
  k24 t0 (l3 + 1) u
theorem bX12_is_146_5023_60 {G : Gt} {X : Xt} {v : Int32} {u : Mem} (hX : CxOk G X cX12_is 4 RX12 (some (.int v), SH, RHO, u) 7) (hR : CxRet G X (some .boolean) (some (.int v), SH, RHO, u)) {k24 : Int32 → Int32 → Mem → Option Int32} (hk24 : ∀ (l2 l3 : Int32), k24 l2 l3 u = some v → WM G X 24 [(0, .ref 146), (1, .ref 5023), (2, .int l2), (3, .int l3)] [] SH RHO u) (l3 t0 : Int32) (h : FX12_is_146_5023_b60 k24 l3 t0 u = some v) : WM G X 60 [(0, .ref 146), (1, .ref 5023), (3, .int l3)] [.int t0] SH RHO u := by
  unfold FX12_is_146_5023_b60 at h
  refine w_istore_n (lv' := [(2, .int t0), (0, .ref 146), (1, .ref 5023), (3, .int l3)]) 60 hX rfl dX12_is_60 (by decide) rfl ?_
  refine w_iinc (lv' := [(3, .int (l3 + 1)), (2, .int t0), (0, .ref 146), (1, .ref 5023)]) 61 3 hX dX12_is_61 rfl (inc_1 _) (by decide) rfl ?_
  refine w_goto (tgt := 24) 64 hX (by decide) dX12_is_64 ?_
  exact w_sub [2, 3, 1, 0] rfl (hk24 t0 (l3 + 1) h)
def FX12_is_146_5023_b24 (k24 : Int32 → Int32 → Mem → Option Int32) (l2 l3 : Int32) (u : Mem) : Option Int32 :=
  (S_len 23).bind fun x1 => (if x1 ≤ l3 then (FX12_is_146_5023_b67 l2 u) else ((if l2 = 0 then (FX12_is_146_5023_b67 l2 u) else ((rdA u 154 400 ((u 146 19) + l3)).bind fun x4 => (S_chr 23 l3).bind fun x5 => (if x4 = x5 then (FX12_is_146_5023_b60 k24 l3 1 u) else (FX12_is_146_5023_b60 k24 l3 0 u))))))
theorem bX12_is_146_5023_24 {G : Gt} {X : Xt} {v : Int32} {u : Mem} (hX : CxOk G X cX12_is 4 RX12 (some (.int v), SH, RHO, u) 7) (hR : CxRet G X (some .boolean) (some (.int v), SH, RHO, u)) {k24 : Int32 → Int32 → Mem → Option Int32} (hk24 : ∀ (l2 l3 : Int32), k24 l2 l3 u = some v → WM G X 24 [(0, .ref 146), (1, .ref 5023), (2, .int l2), (3, .int l3)] [] SH RHO u) (l2 l3 : Int32) (h : FX12_is_146_5023_b24 k24 l2 l3 u = some v) : WM G X 24 [(0, .ref 146), (1, .ref 5023), (2, .int l2), (3, .int l3)] [] SH RHO u := by
  unfold FX12_is_146_5023_b24 at h
  refine w_iload_n 3 24 hX rfl rfl dX12_is_24 ?_
  refine w_aload_n 1 25 hX rfl rfl dX12_is_25 ?_
  obtain ⟨x1, gx1, h⟩ := o_bind h
  refine w_S_len (i := 23) (st := [.int l3]) 26 hX ml_X12_89 gx1 (by decide) (by decide) (Nat.le_of_ble_eq_true rfl) dX12_is_26 ?_
  refine w_icmp_ge (tgt := 67) 29 hX dX12_is_29 (by decide) (fun c2 => ?_) (fun c2 => ?_)
  · have h := it h c2
    exact w_sub [2] rfl (bX12_is_146_5023_67 hX hR l2 h)
  · have h := ie h c2
    refine w_iload_n 2 32 hX rfl rfl dX12_is_32 ?_
    refine w_if_eq (tgt := 67) 33 hX dX12_is_33 (by decide) (fun c3 => ?_) (fun c3 => ?_)
    · have h := it h c3
      exact w_sub [2] rfl (bX12_is_146_5023_67 hX hR l2 h)
    · have h := ie h c3
      refine w_aload_n 0 36 hX rfl rfl dX12_is_36 ?_
      refine w_getR 37 hX CI_12 s_146 rfl r_146_9 fl_X12_31 rfl dX12_is_37 ?_
      refine w_aload_n 0 40 hX rfl rfl dX12_is_40 ?_
      refine w_getI (j := 19) 41 hX CI_12 s_146 rfl fl_X12_86 rfl dX12_is_41 ?_
      refine w_iload_n 3 44 hX rfl rfl dX12_is_44 ?_
      refine w_iadd 45 hX dX12_is_45 ?_
      obtain ⟨x4, gx4, h⟩ := o_bind h
      refine w_iald 46 hX s_154 gx4 dX12_is_46 ?_
      refine w_aload_n 1 47 hX rfl rfl dX12_is_47 ?_
      refine w_iload_n 3 48 hX rfl rfl dX12_is_48 ?_
      obtain ⟨x5, gx5, h⟩ := o_bind h
      refine w_S_chr (i := 23) (st := [.int x4]) 49 hX ml_X12_95 gx5 (by decide) (by decide) (Nat.le_of_ble_eq_true rfl) dX12_is_49 ?_
      refine w_icmp_ne (tgt := 59) 52 hX dX12_is_52 (by decide) (fun c6 => ?_) (fun c6 => ?_)
      · have h := ie h c6
        refine w_iconst 0 59 hX ic_0 dX12_is_59 ?_
        exact w_sub [0, 1, 3] rfl (bX12_is_146_5023_60 hX hR hk24 l3 0 h)
      · have h := it h c6
        refine w_iconst 1 55 hX ic_1 dX12_is_55 ?_
        refine w_goto (tgt := 60) 56 hX (by decide) dX12_is_56 ?_
        exact w_sub [0, 1, 3] rfl (bX12_is_146_5023_60 hX hR hk24 l3 1 h)
def FX12_is_146_5023_L24 : Nat → Int32 → Int32 → Mem → Option Int32
  | 0, _, _, _ => none
  | n + 1, l2, l3, u => FX12_is_146_5023_b24 (FX12_is_146_5023_L24 n) l2 l3 u
theorem lX12_is_146_5023_24 {G : Gt} {X : Xt} {v : Int32} {u : Mem} (hX : CxOk G X cX12_is 4 RX12 (some (.int v), SH, RHO, u) 7) (hR : CxRet G X (some .boolean) (some (.int v), SH, RHO, u)) : ∀ (n : Nat) (l2 l3 : Int32), FX12_is_146_5023_L24 n l2 l3 u = some v → WM G X 24 [(0, .ref 146), (1, .ref 5023), (2, .int l2), (3, .int l3)] [] SH RHO u := by
  intro n
  induction n with
  | zero =>
    intro l2 l3 h
    exact nn_ h
  | succ n ih =>
    intro l2 l3 h
    exact bX12_is_146_5023_24 hX hR ih l2 l3 h
def FX12_is_146_5023_b21 (t0 : Int32) (u : Mem) : Option Int32 :=
  FX12_is_146_5023_L24 FU t0 0 u
theorem bX12_is_146_5023_21 {G : Gt} {X : Xt} {v : Int32} {u : Mem} (hX : CxOk G X cX12_is 4 RX12 (some (.int v), SH, RHO, u) 7) (hR : CxRet G X (some .boolean) (some (.int v), SH, RHO, u)) (t0 : Int32) (h : FX12_is_146_5023_b21 t0 u = some v) : WM G X 21 [(0, .ref 146), (1, .ref 5023)] [.int t0] SH RHO u := by
  unfold FX12_is_146_5023_b21 at h
  refine w_istore_n (lv' := [(2, .int t0), (0, .ref 146), (1, .ref 5023)]) 21 hX rfl dX12_is_21 (by decide) rfl ?_
  refine w_iconst 0 22 hX ic_0 dX12_is_22 ?_
  refine w_istore_n (lv' := [(3, .int 0), (2, .int t0), (0, .ref 146), (1, .ref 5023)]) 23 hX rfl dX12_is_23 (by decide) rfl ?_
  exact w_sub [2, 3, 1, 0] rfl (lX12_is_146_5023_24 hX hR FU t0 0 h)
def FX12_is_146_5023 (u : Mem) : Option Int32 :=
  (S_len 23).bind fun x1 => (if ((u 146 17) - (u 146 19)) = x1 then (FX12_is_146_5023_b21 1 u) else (FX12_is_146_5023_b21 0 u))
theorem CX12_is_146_5023 {G : Gt} (u : Mem) {v : Int32} (h : FX12_is_146_5023 u = some v) : CT G yX12_is cX12_is 4 (some .boolean) 7 [.ref 146, .ref 5023] SH RHO u (some (.int v), SH, RHO, u) :=
  ct_of (by decide) rfl (Nat.le_of_ble_eq_true rfl) (Nat.le_refl _) (Nat.le_refl _) (fun X hX hR => by
  unfold FX12_is_146_5023 at h
  refine w_aload_n 0 0 hX rfl rfl dX12_is_0 ?_
  refine w_getI (j := 17) 1 hX CI_12 s_146 rfl fl_X12_83 rfl dX12_is_1 ?_
  refine w_aload_n 0 4 hX rfl rfl dX12_is_4 ?_
  refine w_getI (j := 19) 5 hX CI_12 s_146 rfl fl_X12_86 rfl dX12_is_5 ?_
  refine w_isub 8 hX dX12_is_8 ?_
  refine w_aload_n 1 9 hX rfl rfl dX12_is_9 ?_
  obtain ⟨x1, gx1, h⟩ := o_bind h
  refine w_S_len (i := 23) (st := [.int ((u 146 17) - (u 146 19))]) 10 hX ml_X12_89 gx1 (by decide) (by decide) (Nat.le_of_ble_eq_true rfl) dX12_is_10 ?_
  refine w_icmp_ne (tgt := 20) 13 hX dX12_is_13 (by decide) (fun c2 => ?_) (fun c2 => ?_)
  · have h := ie h c2
    refine w_iconst 0 20 hX ic_0 dX12_is_20 ?_
    exact bX12_is_146_5023_21 hX hR 0 h
  · have h := it h c2
    refine w_iconst 1 16 hX ic_1 dX12_is_16 ?_
    refine w_goto (tgt := 21) 17 hX (by decide) dX12_is_17 ?_
    exact bX12_is_146_5023_21 hX hR 1 h)
def FX12_is_146_5024_b67 (l2 : Int32) (u : Mem) : Option Int32 :=
  (bchk l2).bind fun x1 => some x1
theorem bX12_is_146_5024_67 {G : Gt} {X : Xt} {v : Int32} {u : Mem} (hX : CxOk G X cX12_is 4 RX12 (some (.int v), SH, RHO, u) 7) (hR : CxRet G X (some .boolean) (some (.int v), SH, RHO, u)) (l2 : Int32) (h : FX12_is_146_5024_b67 l2 u = some v) : WM G X 67 [(2, .int l2)] [] SH RHO u := by
  unfold FX12_is_146_5024_b67 at h
  refine w_iload_n 0 67 hX rfl rfl dX12_is_67 ?_
  obtain ⟨x1, gx1, h⟩ := o_bind h
  obtain ⟨jx1, nx1, mx1⟩ := bchk_ok gx1
  rw [jx1]
  exact w_zret 68 hX hR nx1 dX12_is_68 (by cases h; rfl)
def FX12_is_146_5024_b60 (k24 : Int32 → Int32 → Mem → Option Int32) (l3 t0 : Int32) (u : Mem) : Option Int32 :=
  k24 t0 (l3 + 1) u
theorem bX12_is_146_5024_60 {G : Gt} {X : Xt} {v : Int32} {u : Mem} (hX : CxOk G X cX12_is 4 RX12 (some (.int v), SH, RHO, u) 7) (hR : CxRet G X (some .boolean) (some (.int v), SH, RHO, u)) {k24 : Int32 → Int32 → Mem → Option Int32} (hk24 : ∀ (l2 l3 : Int32), k24 l2 l3 u = some v → WM G X 24 [(0, .ref 146), (1, .ref 5024), (2, .int l2), (3, .int l3)] [] SH RHO u) (l3 t0 : Int32) (h : FX12_is_146_5024_b60 k24 l3 t0 u = some v) : WM G X 60 [(0, .ref 146), (1, .ref 5024), (3, .int l3)] [.int t0] SH RHO u := by
  unfold FX12_is_146_5024_b60 at h
  refine w_istore_n (lv' := [(2, .int t0), (0, .ref 146), (1, .ref 5024), (3, .int l3)]) 60 hX rfl dX12_is_60 (by decide) rfl ?_
  refine w_iinc (lv' := [(3, .int (l3 + 1)), (2, .int t0), (0, .ref 146), (1, .ref 5024)]) 61 3 hX dX12_is_61 rfl (inc_1 _) (by decide) rfl ?_
  refine w_goto (tgt := 24) 64 hX (by decide) dX12_is_64 ?_
  exact w_sub [2, 3, 1, 0] rfl (hk24 t0 (l3 + 1) h)
def FX12_is_146_5024_b24 (k24 : Int32 → Int32 → Mem → Option Int32) (l2 l3 : Int32) (u : Mem) : Option Int32 :=
  (S_len 24).bind fun x1 => (if x1 ≤ l3 then (FX12_is_146_5024_b67 l2 u) else ((if l2 = 0 then (FX12_is_146_5024_b67 l2 u) else ((rdA u 154 400 ((u 146 19) + l3)).bind fun x4 => (S_chr 24 l3).bind fun x5 => (if x4 = x5 then (FX12_is_146_5024_b60 k24 l3 1 u) else (FX12_is_146_5024_b60 k24 l3 0 u))))))
theorem bX12_is_146_5024_24 {G : Gt} {X : Xt} {v : Int32} {u : Mem} (hX : CxOk G X cX12_is 4 RX12 (some (.int v), SH, RHO, u) 7) (hR : CxRet G X (some .boolean) (some (.int v), SH, RHO, u)) {k24 : Int32 → Int32 → Mem → Option Int32} (hk24 : ∀ (l2 l3 : Int32), k24 l2 l3 u = some v → WM G X 24 [(0, .ref 146), (1, .ref 5024), (2, .int l2), (3, .int l3)] [] SH RHO u) (l2 l3 : Int32) (h : FX12_is_146_5024_b24 k24 l2 l3 u = some v) : WM G X 24 [(0, .ref 146), (1, .ref 5024), (2, .int l2), (3, .int l3)] [] SH RHO u := by
  unfold FX12_is_146_5024_b24 at h
  refine w_iload_n 3 24 hX rfl rfl dX12_is_24 ?_
  refine w_aload_n 1 25 hX rfl rfl dX12_is_25 ?_
  obtain ⟨x1, gx1, h⟩ := o_bind h
  refine w_S_len (i := 24) (st := [.int l3]) 26 hX ml_X12_89 gx1 (by decide) (by decide) (Nat.le_of_ble_eq_true rfl) dX12_is_26 ?_
  refine w_icmp_ge (tgt := 67) 29 hX dX12_is_29 (by decide) (fun c2 => ?_) (fun c2 => ?_)
  · have h := it h c2
    exact w_sub [2] rfl (bX12_is_146_5024_67 hX hR l2 h)
  · have h := ie h c2
    refine w_iload_n 2 32 hX rfl rfl dX12_is_32 ?_
    refine w_if_eq (tgt := 67) 33 hX dX12_is_33 (by decide) (fun c3 => ?_) (fun c3 => ?_)
    · have h := it h c3
      exact w_sub [2] rfl (bX12_is_146_5024_67 hX hR l2 h)
    · have h := ie h c3
      refine w_aload_n 0 36 hX rfl rfl dX12_is_36 ?_
      refine w_getR 37 hX CI_12 s_146 rfl r_146_9 fl_X12_31 rfl dX12_is_37 ?_
      refine w_aload_n 0 40 hX rfl rfl dX12_is_40 ?_
      refine w_getI (j := 19) 41 hX CI_12 s_146 rfl fl_X12_86 rfl dX12_is_41 ?_
      refine w_iload_n 3 44 hX rfl rfl dX12_is_44 ?_
      refine w_iadd 45 hX dX12_is_45 ?_
      obtain ⟨x4, gx4, h⟩ := o_bind h
      refine w_iald 46 hX s_154 gx4 dX12_is_46 ?_
      refine w_aload_n 1 47 hX rfl rfl dX12_is_47 ?_
      refine w_iload_n 3 48 hX rfl rfl dX12_is_48 ?_
      obtain ⟨x5, gx5, h⟩ := o_bind h
      refine w_S_chr (i := 24) (st := [.int x4]) 49 hX ml_X12_95 gx5 (by decide) (by decide) (Nat.le_of_ble_eq_true rfl) dX12_is_49 ?_
      refine w_icmp_ne (tgt := 59) 52 hX dX12_is_52 (by decide) (fun c6 => ?_) (fun c6 => ?_)
      · have h := ie h c6
        refine w_iconst 0 59 hX ic_0 dX12_is_59 ?_
        exact w_sub [0, 1, 3] rfl (bX12_is_146_5024_60 hX hR hk24 l3 0 h)
      · have h := it h c6
        refine w_iconst 1 55 hX ic_1 dX12_is_55 ?_
        refine w_goto (tgt := 60) 56 hX (by decide) dX12_is_56 ?_
        exact w_sub [0, 1, 3] rfl (bX12_is_146_5024_60 hX hR hk24 l3 1 h)
def FX12_is_146_5024_L24 : Nat → Int32 → Int32 → Mem → Option Int32
  | 0, _, _, _ => none
  | n + 1, l2, l3, u => FX12_is_146_5024_b24 (FX12_is_146_5024_L24 n) l2 l3 u
theorem lX12_is_146_5024_24 {G : Gt} {X : Xt} {v : Int32} {u : Mem} (hX : CxOk G X cX12_is 4 RX12 (some (.int v), SH, RHO, u) 7) (hR : CxRet G X (some .boolean) (some (.int v), SH, RHO, u)) : ∀ (n : Nat) (l2 l3 : Int32), FX12_is_146_5024_L24 n l2 l3 u = some v → WM G X 24 [(0, .ref 146), (1, .ref 5024), (2, .int l2), (3, .int l3)] [] SH RHO u := by
  intro n
  induction n with
  | zero =>
    intro l2 l3 h
    exact nn_ h
  | succ n ih =>
    intro l2 l3 h
    exact bX12_is_146_5024_24 hX hR ih l2 l3 h
def FX12_is_146_5024_b21 (t0 : Int32) (u : Mem) : Option Int32 :=
  FX12_is_146_5024_L24 FU t0 0 u
theorem bX12_is_146_5024_21 {G : Gt} {X : Xt} {v : Int32} {u : Mem} (hX : CxOk G X cX12_is 4 RX12 (some (.int v), SH, RHO, u) 7) (hR : CxRet G X (some .boolean) (some (.int v), SH, RHO, u)) (t0 : Int32) (h : FX12_is_146_5024_b21 t0 u = some v) : WM G X 21 [(0, .ref 146), (1, .ref 5024)] [.int t0] SH RHO u := by
  unfold FX12_is_146_5024_b21 at h
  refine w_istore_n (lv' := [(2, .int t0), (0, .ref 146), (1, .ref 5024)]) 21 hX rfl dX12_is_21 (by decide) rfl ?_
  refine w_iconst 0 22 hX ic_0 dX12_is_22 ?_
  refine w_istore_n (lv' := [(3, .int 0), (2, .int t0), (0, .ref 146), (1, .ref 5024)]) 23 hX rfl dX12_is_23 (by decide) rfl ?_
  exact w_sub [2, 3, 1, 0] rfl (lX12_is_146_5024_24 hX hR FU t0 0 h)
def FX12_is_146_5024 (u : Mem) : Option Int32 :=
  (S_len 24).bind fun x1 => (if ((u 146 17) - (u 146 19)) = x1 then (FX12_is_146_5024_b21 1 u) else (FX12_is_146_5024_b21 0 u))
theorem CX12_is_146_5024 {G : Gt} (u : Mem) {v : Int32} (h : FX12_is_146_5024 u = some v) : CT G yX12_is cX12_is 4 (some .boolean) 7 [.ref 146, .ref 5024] SH RHO u (some (.int v), SH, RHO, u) :=
  ct_of (by decide) rfl (Nat.le_of_ble_eq_true rfl) (Nat.le_refl _) (Nat.le_refl _) (fun X hX hR => by
  unfold FX12_is_146_5024 at h
  refine w_aload_n 0 0 hX rfl rfl dX12_is_0 ?_
  refine w_getI (j := 17) 1 hX CI_12 s_146 rfl fl_X12_83 rfl dX12_is_1 ?_
  refine w_aload_n 0 4 hX rfl rfl dX12_is_4 ?_
  refine w_getI (j := 19) 5 hX CI_12 s_146 rfl fl_X12_86 rfl dX12_is_5 ?_
  refine w_isub 8 hX dX12_is_8 ?_
  refine w_aload_n 1 9 hX rfl rfl dX12_is_9 ?_
  obtain ⟨x1, gx1, h⟩ := o_bind h
  refine w_S_len (i := 24) (st := [.int ((u 146 17) - (u 146 19))]) 10 hX ml_X12_89 gx1 (by decide) (by decide) (Nat.le_of_ble_eq_true rfl) dX12_is_10 ?_
  refine w_icmp_ne (tgt := 20) 13 hX dX12_is_13 (by decide) (fun c2 => ?_) (fun c2 => ?_)
  · have h := ie h c2
    refine w_iconst 0 20 hX ic_0 dX12_is_20 ?_
    exact bX12_is_146_5024_21 hX hR 0 h
  · have h := it h c2
    refine w_iconst 1 16 hX ic_1 dX12_is_16 ?_
    refine w_goto (tgt := 21) 17 hX (by decide) dX12_is_17 ?_
    exact bX12_is_146_5024_21 hX hR 1 h)
def FX12_weighWord_146 (u : Mem) : Option Int32 :=
  (FX12_is_146_5023 u).bind fun x1 => (if x1 = 0 then ((FX12_is_146_5024 u).bind fun x3 => (if x3 = 0 then (some 1) else (some 9))) else (some 8))
theorem CX12_weighWord_146 {G : Gt} (u : Mem) {v : Int32} (h : FX12_weighWord_146 u = some v) : CT G yX12_weighWord cX12_weighWord 1 (some .int) 8 [.ref 146] SH RHO u (some (.int v), SH, RHO, u) :=
  ct_of (by decide) rfl (Nat.le_of_ble_eq_true rfl) (Nat.le_refl _) (Nat.le_refl _) (fun X hX hR => by
  unfold FX12_weighWord_146 at h
  refine w_aload_n 0 0 hX rfl rfl dX12_weighWord_0 ?_
  refine w_ldcs 23 1 hX (by decide) rfl rfl dX12_weighWord_1 ?_
  obtain ⟨x1, gx1, h⟩ := o_bind h
  refine w_invVi (av := [.ref 5023]) (st := []) 3 hX CI_12 s_146 rfl mv_yX12_is mi_yX12_is ml_X12_101 (CX12_is_146_5023 u gx1) rfl (by decide) (Nat.le_of_ble_eq_true rfl) (Nat.le_refl _) (Nat.le_refl _) dX12_weighWord_3 ?_
  refine w_if_eq (tgt := 12) 6 hX dX12_weighWord_6 (by decide) (fun c2 => ?_) (fun c2 => ?_)
  · have h := it h c2
    refine w_aload_n 0 12 hX rfl rfl dX12_weighWord_12 ?_
    refine w_ldcs 24 13 hX (by decide) rfl rfl dX12_weighWord_13 ?_
    obtain ⟨x3, gx3, h⟩ := o_bind h
    refine w_invVi (av := [.ref 5024]) (st := []) 15 hX CI_12 s_146 rfl mv_yX12_is mi_yX12_is ml_X12_101 (CX12_is_146_5024 u gx3) rfl (by decide) (Nat.le_of_ble_eq_true rfl) (Nat.le_refl _) (Nat.le_refl _) dX12_weighWord_15 ?_
    refine w_if_eq (tgt := 26) 18 hX dX12_weighWord_18 (by decide) (fun c4 => ?_) (fun c4 => ?_)
    · have h := it h c4
      refine w_iconst 1 26 hX ic_1 dX12_weighWord_26 ?_
      exact w_iret 27 hX hR dX12_weighWord_27 (by cases h; rfl)
    · have h := ie h c4
      refine w_bipush 9 21 hX ib_9 dX12_weighWord_21 ?_
      refine w_goto (tgt := 27) 23 hX (by decide) dX12_weighWord_23 ?_
      exact w_iret 27 hX hR dX12_weighWord_27 (by cases h; rfl)
  · have h := ie h c2
    refine w_bipush 8 9 hX ib_8 dX12_weighWord_9 ?_
    exact w_iret 11 hX hR dX12_weighWord_11 (by cases h; rfl))
def FX12_is_146_5025_b67 (l2 : Int32) (u : Mem) : Option Int32 :=
  (bchk l2).bind fun x1 => some x1
theorem bX12_is_146_5025_67 {G : Gt} {X : Xt} {v : Int32} {u : Mem} (hX : CxOk G X cX12_is 4 RX12 (some (.int v), SH, RHO, u) 7) (hR : CxRet G X (some .boolean) (some (.int v), SH, RHO, u)) (l2 : Int32) (h : FX12_is_146_5025_b67 l2 u = some v) : WM G X 67 [(2, .int l2)] [] SH RHO u := by
  unfold FX12_is_146_5025_b67 at h
  refine w_iload_n 0 67 hX rfl rfl dX12_is_67 ?_
  obtain ⟨x1, gx1, h⟩ := o_bind h
  obtain ⟨jx1, nx1, mx1⟩ := bchk_ok gx1
  rw [jx1]
  exact w_zret 68 hX hR nx1 dX12_is_68 (by cases h; rfl)
def FX12_is_146_5025_b60 (k24 : Int32 → Int32 → Mem → Option Int32) (l3 t0 : Int32) (u : Mem) : Option Int32 :=
  k24 t0 (l3 + 1) u
theorem bX12_is_146_5025_60 {G : Gt} {X : Xt} {v : Int32} {u : Mem} (hX : CxOk G X cX12_is 4 RX12 (some (.int v), SH, RHO, u) 7) (hR : CxRet G X (some .boolean) (some (.int v), SH, RHO, u)) {k24 : Int32 → Int32 → Mem → Option Int32} (hk24 : ∀ (l2 l3 : Int32), k24 l2 l3 u = some v → WM G X 24 [(0, .ref 146), (1, .ref 5025), (2, .int l2), (3, .int l3)] [] SH RHO u) (l3 t0 : Int32) (h : FX12_is_146_5025_b60 k24 l3 t0 u = some v) : WM G X 60 [(0, .ref 146), (1, .ref 5025), (3, .int l3)] [.int t0] SH RHO u := by
  unfold FX12_is_146_5025_b60 at h
  refine w_istore_n (lv' := [(2, .int t0), (0, .ref 146), (1, .ref 5025), (3, .int l3)]) 60 hX rfl dX12_is_60 (by decide) rfl ?_
  refine w_iinc (lv' := [(3, .int (l3 + 1)), (2, .int t0), (0, .ref 146), (1, .ref 5025)]) 61 3 hX dX12_is_61 rfl (inc_1 _) (by decide) rfl ?_
  refine w_goto (tgt := 24) 64 hX (by decide) dX12_is_64 ?_
  exact w_sub [2, 3, 1, 0] rfl (hk24 t0 (l3 + 1) h)
def FX12_is_146_5025_b24 (k24 : Int32 → Int32 → Mem → Option Int32) (l2 l3 : Int32) (u : Mem) : Option Int32 :=
  (S_len 25).bind fun x1 => (if x1 ≤ l3 then (FX12_is_146_5025_b67 l2 u) else ((if l2 = 0 then (FX12_is_146_5025_b67 l2 u) else ((rdA u 154 400 ((u 146 19) + l3)).bind fun x4 => (S_chr 25 l3).bind fun x5 => (if x4 = x5 then (FX12_is_146_5025_b60 k24 l3 1 u) else (FX12_is_146_5025_b60 k24 l3 0 u))))))
theorem bX12_is_146_5025_24 {G : Gt} {X : Xt} {v : Int32} {u : Mem} (hX : CxOk G X cX12_is 4 RX12 (some (.int v), SH, RHO, u) 7) (hR : CxRet G X (some .boolean) (some (.int v), SH, RHO, u)) {k24 : Int32 → Int32 → Mem → Option Int32} (hk24 : ∀ (l2 l3 : Int32), k24 l2 l3 u = some v → WM G X 24 [(0, .ref 146), (1, .ref 5025), (2, .int l2), (3, .int l3)] [] SH RHO u) (l2 l3 : Int32) (h : FX12_is_146_5025_b24 k24 l2 l3 u = some v) : WM G X 24 [(0, .ref 146), (1, .ref 5025), (2, .int l2), (3, .int l3)] [] SH RHO u := by
  unfold FX12_is_146_5025_b24 at h
  refine w_iload_n 3 24 hX rfl rfl dX12_is_24 ?_
  refine w_aload_n 1 25 hX rfl rfl dX12_is_25 ?_
  obtain ⟨x1, gx1, h⟩ := o_bind h
  refine w_S_len (i := 25) (st := [.int l3]) 26 hX ml_X12_89 gx1 (by decide) (by decide) (Nat.le_of_ble_eq_true rfl) dX12_is_26 ?_
  refine w_icmp_ge (tgt := 67) 29 hX dX12_is_29 (by decide) (fun c2 => ?_) (fun c2 => ?_)
  · have h := it h c2
    exact w_sub [2] rfl (bX12_is_146_5025_67 hX hR l2 h)
  · have h := ie h c2
    refine w_iload_n 2 32 hX rfl rfl dX12_is_32 ?_
    refine w_if_eq (tgt := 67) 33 hX dX12_is_33 (by decide) (fun c3 => ?_) (fun c3 => ?_)
    · have h := it h c3
      exact w_sub [2] rfl (bX12_is_146_5025_67 hX hR l2 h)
    · have h := ie h c3
      refine w_aload_n 0 36 hX rfl rfl dX12_is_36 ?_
      refine w_getR 37 hX CI_12 s_146 rfl r_146_9 fl_X12_31 rfl dX12_is_37 ?_
      refine w_aload_n 0 40 hX rfl rfl dX12_is_40 ?_
      refine w_getI (j := 19) 41 hX CI_12 s_146 rfl fl_X12_86 rfl dX12_is_41 ?_
      refine w_iload_n 3 44 hX rfl rfl dX12_is_44 ?_
      refine w_iadd 45 hX dX12_is_45 ?_
      obtain ⟨x4, gx4, h⟩ := o_bind h
      refine w_iald 46 hX s_154 gx4 dX12_is_46 ?_
      refine w_aload_n 1 47 hX rfl rfl dX12_is_47 ?_
      refine w_iload_n 3 48 hX rfl rfl dX12_is_48 ?_
      obtain ⟨x5, gx5, h⟩ := o_bind h
      refine w_S_chr (i := 25) (st := [.int x4]) 49 hX ml_X12_95 gx5 (by decide) (by decide) (Nat.le_of_ble_eq_true rfl) dX12_is_49 ?_
      refine w_icmp_ne (tgt := 59) 52 hX dX12_is_52 (by decide) (fun c6 => ?_) (fun c6 => ?_)
      · have h := ie h c6
        refine w_iconst 0 59 hX ic_0 dX12_is_59 ?_
        exact w_sub [0, 1, 3] rfl (bX12_is_146_5025_60 hX hR hk24 l3 0 h)
      · have h := it h c6
        refine w_iconst 1 55 hX ic_1 dX12_is_55 ?_
        refine w_goto (tgt := 60) 56 hX (by decide) dX12_is_56 ?_
        exact w_sub [0, 1, 3] rfl (bX12_is_146_5025_60 hX hR hk24 l3 1 h)
def FX12_is_146_5025_L24 : Nat → Int32 → Int32 → Mem → Option Int32
  | 0, _, _, _ => none
  | n + 1, l2, l3, u => FX12_is_146_5025_b24 (FX12_is_146_5025_L24 n) l2 l3 u
theorem lX12_is_146_5025_24 {G : Gt} {X : Xt} {v : Int32} {u : Mem} (hX : CxOk G X cX12_is 4 RX12 (some (.int v), SH, RHO, u) 7) (hR : CxRet G X (some .boolean) (some (.int v), SH, RHO, u)) : ∀ (n : Nat) (l2 l3 : Int32), FX12_is_146_5025_L24 n l2 l3 u = some v → WM G X 24 [(0, .ref 146), (1, .ref 5025), (2, .int l2), (3, .int l3)] [] SH RHO u := by
  intro n
  induction n with
  | zero =>
    intro l2 l3 h
    exact nn_ h
  | succ n ih =>
    intro l2 l3 h
    exact bX12_is_146_5025_24 hX hR ih l2 l3 h
def FX12_is_146_5025_b21 (t0 : Int32) (u : Mem) : Option Int32 :=
  FX12_is_146_5025_L24 FU t0 0 u
theorem bX12_is_146_5025_21 {G : Gt} {X : Xt} {v : Int32} {u : Mem} (hX : CxOk G X cX12_is 4 RX12 (some (.int v), SH, RHO, u) 7) (hR : CxRet G X (some .boolean) (some (.int v), SH, RHO, u)) (t0 : Int32) (h : FX12_is_146_5025_b21 t0 u = some v) : WM G X 21 [(0, .ref 146), (1, .ref 5025)] [.int t0] SH RHO u := by
  unfold FX12_is_146_5025_b21 at h
  refine w_istore_n (lv' := [(2, .int t0), (0, .ref 146), (1, .ref 5025)]) 21 hX rfl dX12_is_21 (by decide) rfl ?_
  refine w_iconst 0 22 hX ic_0 dX12_is_22 ?_
  refine w_istore_n (lv' := [(3, .int 0), (2, .int t0), (0, .ref 146), (1, .ref 5025)]) 23 hX rfl dX12_is_23 (by decide) rfl ?_
  exact w_sub [2, 3, 1, 0] rfl (lX12_is_146_5025_24 hX hR FU t0 0 h)
def FX12_is_146_5025 (u : Mem) : Option Int32 :=
  (S_len 25).bind fun x1 => (if ((u 146 17) - (u 146 19)) = x1 then (FX12_is_146_5025_b21 1 u) else (FX12_is_146_5025_b21 0 u))
theorem CX12_is_146_5025 {G : Gt} (u : Mem) {v : Int32} (h : FX12_is_146_5025 u = some v) : CT G yX12_is cX12_is 4 (some .boolean) 7 [.ref 146, .ref 5025] SH RHO u (some (.int v), SH, RHO, u) :=
  ct_of (by decide) rfl (Nat.le_of_ble_eq_true rfl) (Nat.le_refl _) (Nat.le_refl _) (fun X hX hR => by
  unfold FX12_is_146_5025 at h
  refine w_aload_n 0 0 hX rfl rfl dX12_is_0 ?_
  refine w_getI (j := 17) 1 hX CI_12 s_146 rfl fl_X12_83 rfl dX12_is_1 ?_
  refine w_aload_n 0 4 hX rfl rfl dX12_is_4 ?_
  refine w_getI (j := 19) 5 hX CI_12 s_146 rfl fl_X12_86 rfl dX12_is_5 ?_
  refine w_isub 8 hX dX12_is_8 ?_
  refine w_aload_n 1 9 hX rfl rfl dX12_is_9 ?_
  obtain ⟨x1, gx1, h⟩ := o_bind h
  refine w_S_len (i := 25) (st := [.int ((u 146 17) - (u 146 19))]) 10 hX ml_X12_89 gx1 (by decide) (by decide) (Nat.le_of_ble_eq_true rfl) dX12_is_10 ?_
  refine w_icmp_ne (tgt := 20) 13 hX dX12_is_13 (by decide) (fun c2 => ?_) (fun c2 => ?_)
  · have h := ie h c2
    refine w_iconst 0 20 hX ic_0 dX12_is_20 ?_
    exact bX12_is_146_5025_21 hX hR 0 h
  · have h := it h c2
    refine w_iconst 1 16 hX ic_1 dX12_is_16 ?_
    refine w_goto (tgt := 21) 17 hX (by decide) dX12_is_17 ?_
    exact bX12_is_146_5025_21 hX hR 1 h)
def FX12_is_146_5026_b67 (l2 : Int32) (u : Mem) : Option Int32 :=
  (bchk l2).bind fun x1 => some x1
theorem bX12_is_146_5026_67 {G : Gt} {X : Xt} {v : Int32} {u : Mem} (hX : CxOk G X cX12_is 4 RX12 (some (.int v), SH, RHO, u) 7) (hR : CxRet G X (some .boolean) (some (.int v), SH, RHO, u)) (l2 : Int32) (h : FX12_is_146_5026_b67 l2 u = some v) : WM G X 67 [(2, .int l2)] [] SH RHO u := by
  unfold FX12_is_146_5026_b67 at h
  refine w_iload_n 0 67 hX rfl rfl dX12_is_67 ?_
  obtain ⟨x1, gx1, h⟩ := o_bind h
  obtain ⟨jx1, nx1, mx1⟩ := bchk_ok gx1
  rw [jx1]
  exact w_zret 68 hX hR nx1 dX12_is_68 (by cases h; rfl)
def FX12_is_146_5026_b60 (k24 : Int32 → Int32 → Mem → Option Int32) (l3 t0 : Int32) (u : Mem) : Option Int32 :=
  k24 t0 (l3 + 1) u
theorem bX12_is_146_5026_60 {G : Gt} {X : Xt} {v : Int32} {u : Mem} (hX : CxOk G X cX12_is 4 RX12 (some (.int v), SH, RHO, u) 7) (hR : CxRet G X (some .boolean) (some (.int v), SH, RHO, u)) {k24 : Int32 → Int32 → Mem → Option Int32} (hk24 : ∀ (l2 l3 : Int32), k24 l2 l3 u = some v → WM G X 24 [(0, .ref 146), (1, .ref 5026), (2, .int l2), (3, .int l3)] [] SH RHO u) (l3 t0 : Int32) (h : FX12_is_146_5026_b60 k24 l3 t0 u = some v) : WM G X 60 [(0, .ref 146), (1, .ref 5026), (3, .int l3)] [.int t0] SH RHO u := by
  unfold FX12_is_146_5026_b60 at h
  refine w_istore_n (lv' := [(2, .int t0), (0, .ref 146), (1, .ref 5026), (3, .int l3)]) 60 hX rfl dX12_is_60 (by decide) rfl ?_
  refine w_iinc (lv' := [(3, .int (l3 + 1)), (2, .int t0), (0, .ref 146), (1, .ref 5026)]) 61 3 hX dX12_is_61 rfl (inc_1 _) (by decide) rfl ?_
  refine w_goto (tgt := 24) 64 hX (by decide) dX12_is_64 ?_
  exact w_sub [2, 3, 1, 0] rfl (hk24 t0 (l3 + 1) h)
def FX12_is_146_5026_b24 (k24 : Int32 → Int32 → Mem → Option Int32) (l2 l3 : Int32) (u : Mem) : Option Int32 :=
  (S_len 26).bind fun x1 => (if x1 ≤ l3 then (FX12_is_146_5026_b67 l2 u) else ((if l2 = 0 then (FX12_is_146_5026_b67 l2 u) else ((rdA u 154 400 ((u 146 19) + l3)).bind fun x4 => (S_chr 26 l3).bind fun x5 => (if x4 = x5 then (FX12_is_146_5026_b60 k24 l3 1 u) else (FX12_is_146_5026_b60 k24 l3 0 u))))))
theorem bX12_is_146_5026_24 {G : Gt} {X : Xt} {v : Int32} {u : Mem} (hX : CxOk G X cX12_is 4 RX12 (some (.int v), SH, RHO, u) 7) (hR : CxRet G X (some .boolean) (some (.int v), SH, RHO, u)) {k24 : Int32 → Int32 → Mem → Option Int32} (hk24 : ∀ (l2 l3 : Int32), k24 l2 l3 u = some v → WM G X 24 [(0, .ref 146), (1, .ref 5026), (2, .int l2), (3, .int l3)] [] SH RHO u) (l2 l3 : Int32) (h : FX12_is_146_5026_b24 k24 l2 l3 u = some v) : WM G X 24 [(0, .ref 146), (1, .ref 5026), (2, .int l2), (3, .int l3)] [] SH RHO u := by
  unfold FX12_is_146_5026_b24 at h
  refine w_iload_n 3 24 hX rfl rfl dX12_is_24 ?_
  refine w_aload_n 1 25 hX rfl rfl dX12_is_25 ?_
  obtain ⟨x1, gx1, h⟩ := o_bind h
  refine w_S_len (i := 26) (st := [.int l3]) 26 hX ml_X12_89 gx1 (by decide) (by decide) (Nat.le_of_ble_eq_true rfl) dX12_is_26 ?_
  refine w_icmp_ge (tgt := 67) 29 hX dX12_is_29 (by decide) (fun c2 => ?_) (fun c2 => ?_)
  · have h := it h c2
    exact w_sub [2] rfl (bX12_is_146_5026_67 hX hR l2 h)
  · have h := ie h c2
    refine w_iload_n 2 32 hX rfl rfl dX12_is_32 ?_
    refine w_if_eq (tgt := 67) 33 hX dX12_is_33 (by decide) (fun c3 => ?_) (fun c3 => ?_)
    · have h := it h c3
      exact w_sub [2] rfl (bX12_is_146_5026_67 hX hR l2 h)
    · have h := ie h c3
      refine w_aload_n 0 36 hX rfl rfl dX12_is_36 ?_
      refine w_getR 37 hX CI_12 s_146 rfl r_146_9 fl_X12_31 rfl dX12_is_37 ?_
      refine w_aload_n 0 40 hX rfl rfl dX12_is_40 ?_
      refine w_getI (j := 19) 41 hX CI_12 s_146 rfl fl_X12_86 rfl dX12_is_41 ?_
      refine w_iload_n 3 44 hX rfl rfl dX12_is_44 ?_
      refine w_iadd 45 hX dX12_is_45 ?_
      obtain ⟨x4, gx4, h⟩ := o_bind h
      refine w_iald 46 hX s_154 gx4 dX12_is_46 ?_
      refine w_aload_n 1 47 hX rfl rfl dX12_is_47 ?_
      refine w_iload_n 3 48 hX rfl rfl dX12_is_48 ?_
      obtain ⟨x5, gx5, h⟩ := o_bind h
      refine w_S_chr (i := 26) (st := [.int x4]) 49 hX ml_X12_95 gx5 (by decide) (by decide) (Nat.le_of_ble_eq_true rfl) dX12_is_49 ?_
      refine w_icmp_ne (tgt := 59) 52 hX dX12_is_52 (by decide) (fun c6 => ?_) (fun c6 => ?_)
      · have h := ie h c6
        refine w_iconst 0 59 hX ic_0 dX12_is_59 ?_
        exact w_sub [0, 1, 3] rfl (bX12_is_146_5026_60 hX hR hk24 l3 0 h)
      · have h := it h c6
        refine w_iconst 1 55 hX ic_1 dX12_is_55 ?_
        refine w_goto (tgt := 60) 56 hX (by decide) dX12_is_56 ?_
        exact w_sub [0, 1, 3] rfl (bX12_is_146_5026_60 hX hR hk24 l3 1 h)
def FX12_is_146_5026_L24 : Nat → Int32 → Int32 → Mem → Option Int32
  | 0, _, _, _ => none
  | n + 1, l2, l3, u => FX12_is_146_5026_b24 (FX12_is_146_5026_L24 n) l2 l3 u
theorem lX12_is_146_5026_24 {G : Gt} {X : Xt} {v : Int32} {u : Mem} (hX : CxOk G X cX12_is 4 RX12 (some (.int v), SH, RHO, u) 7) (hR : CxRet G X (some .boolean) (some (.int v), SH, RHO, u)) : ∀ (n : Nat) (l2 l3 : Int32), FX12_is_146_5026_L24 n l2 l3 u = some v → WM G X 24 [(0, .ref 146), (1, .ref 5026), (2, .int l2), (3, .int l3)] [] SH RHO u := by
  intro n
  induction n with
  | zero =>
    intro l2 l3 h
    exact nn_ h
  | succ n ih =>
    intro l2 l3 h
    exact bX12_is_146_5026_24 hX hR ih l2 l3 h
def FX12_is_146_5026_b21 (t0 : Int32) (u : Mem) : Option Int32 :=
  FX12_is_146_5026_L24 FU t0 0 u
theorem bX12_is_146_5026_21 {G : Gt} {X : Xt} {v : Int32} {u : Mem} (hX : CxOk G X cX12_is 4 RX12 (some (.int v), SH, RHO, u) 7) (hR : CxRet G X (some .boolean) (some (.int v), SH, RHO, u)) (t0 : Int32) (h : FX12_is_146_5026_b21 t0 u = some v) : WM G X 21 [(0, .ref 146), (1, .ref 5026)] [.int t0] SH RHO u := by
  unfold FX12_is_146_5026_b21 at h
  refine w_istore_n (lv' := [(2, .int t0), (0, .ref 146), (1, .ref 5026)]) 21 hX rfl dX12_is_21 (by decide) rfl ?_
  refine w_iconst 0 22 hX ic_0 dX12_is_22 ?_
  refine w_istore_n (lv' := [(3, .int 0), (2, .int t0), (0, .ref 146), (1, .ref 5026)]) 23 hX rfl dX12_is_23 (by decide) rfl ?_
  exact w_sub [2, 3, 1, 0] rfl (lX12_is_146_5026_24 hX hR FU t0 0 h)
def FX12_is_146_5026 (u : Mem) : Option Int32 :=
  (S_len 26).bind fun x1 => (if ((u 146 17) - (u 146 19)) = x1 then (FX12_is_146_5026_b21 1 u) else (FX12_is_146_5026_b21 0 u))
theorem CX12_is_146_5026 {G : Gt} (u : Mem) {v : Int32} (h : FX12_is_146_5026 u = some v) : CT G yX12_is cX12_is 4 (some .boolean) 7 [.ref 146, .ref 5026] SH RHO u (some (.int v), SH, RHO, u) :=
  ct_of (by decide) rfl (Nat.le_of_ble_eq_true rfl) (Nat.le_refl _) (Nat.le_refl _) (fun X hX hR => by
  unfold FX12_is_146_5026 at h
  refine w_aload_n 0 0 hX rfl rfl dX12_is_0 ?_
  refine w_getI (j := 17) 1 hX CI_12 s_146 rfl fl_X12_83 rfl dX12_is_1 ?_
  refine w_aload_n 0 4 hX rfl rfl dX12_is_4 ?_
  refine w_getI (j := 19) 5 hX CI_12 s_146 rfl fl_X12_86 rfl dX12_is_5 ?_
  refine w_isub 8 hX dX12_is_8 ?_
  refine w_aload_n 1 9 hX rfl rfl dX12_is_9 ?_
  obtain ⟨x1, gx1, h⟩ := o_bind h
  refine w_S_len (i := 26) (st := [.int ((u 146 17) - (u 146 19))]) 10 hX ml_X12_89 gx1 (by decide) (by decide) (Nat.le_of_ble_eq_true rfl) dX12_is_10 ?_
  refine w_icmp_ne (tgt := 20) 13 hX dX12_is_13 (by decide) (fun c2 => ?_) (fun c2 => ?_)
  · have h := ie h c2
    refine w_iconst 0 20 hX ic_0 dX12_is_20 ?_
    exact bX12_is_146_5026_21 hX hR 0 h
  · have h := it h c2
    refine w_iconst 1 16 hX ic_1 dX12_is_16 ?_
    refine w_goto (tgt := 21) 17 hX (by decide) dX12_is_17 ?_
    exact bX12_is_146_5026_21 hX hR 1 h)
def FX12_is_146_5027_b67 (l2 : Int32) (u : Mem) : Option Int32 :=
  (bchk l2).bind fun x1 => some x1
theorem bX12_is_146_5027_67 {G : Gt} {X : Xt} {v : Int32} {u : Mem} (hX : CxOk G X cX12_is 4 RX12 (some (.int v), SH, RHO, u) 7) (hR : CxRet G X (some .boolean) (some (.int v), SH, RHO, u)) (l2 : Int32) (h : FX12_is_146_5027_b67 l2 u = some v) : WM G X 67 [(2, .int l2)] [] SH RHO u := by
  unfold FX12_is_146_5027_b67 at h
  refine w_iload_n 0 67 hX rfl rfl dX12_is_67 ?_
  obtain ⟨x1, gx1, h⟩ := o_bind h
  obtain ⟨jx1, nx1, mx1⟩ := bchk_ok gx1
  rw [jx1]
  exact w_zret 68 hX hR nx1 dX12_is_68 (by cases h; rfl)
def FX12_is_146_5027_b60 (k24 : Int32 → Int32 → Mem → Option Int32) (l3 t0 : Int32) (u : Mem) : Option Int32 :=
  k24 t0 (l3 + 1) u
theorem bX12_is_146_5027_60 {G : Gt} {X : Xt} {v : Int32} {u : Mem} (hX : CxOk G X cX12_is 4 RX12 (some (.int v), SH, RHO, u) 7) (hR : CxRet G X (some .boolean) (some (.int v), SH, RHO, u)) {k24 : Int32 → Int32 → Mem → Option Int32} (hk24 : ∀ (l2 l3 : Int32), k24 l2 l3 u = some v → WM G X 24 [(0, .ref 146), (1, .ref 5027), (2, .int l2), (3, .int l3)] [] SH RHO u) (l3 t0 : Int32) (h : FX12_is_146_5027_b60 k24 l3 t0 u = some v) : WM G X 60 [(0, .ref 146), (1, .ref 5027), (3, .int l3)] [.int t0] SH RHO u := by
  unfold FX12_is_146_5027_b60 at h
  refine w_istore_n (lv' := [(2, .int t0), (0, .ref 146), (1, .ref 5027), (3, .int l3)]) 60 hX rfl dX12_is_60 (by decide) rfl ?_
  refine w_iinc (lv' := [(3, .int (l3 + 1)), (2, .int t0), (0, .ref 146), (1, .ref 5027)]) 61 3 hX dX12_is_61 rfl (inc_1 _) (by decide) rfl ?_
  refine w_goto (tgt := 24) 64 hX (by decide) dX12_is_64 ?_
  exact w_sub [2, 3, 1, 0] rfl (hk24 t0 (l3 + 1) h)
def FX12_is_146_5027_b24 (k24 : Int32 → Int32 → Mem → Option Int32) (l2 l3 : Int32) (u : Mem) : Option Int32 :=
  (S_len 27).bind fun x1 => (if x1 ≤ l3 then (FX12_is_146_5027_b67 l2 u) else ((if l2 = 0 then (FX12_is_146_5027_b67 l2 u) else ((rdA u 154 400 ((u 146 19) + l3)).bind fun x4 => (S_chr 27 l3).bind fun x5 => (if x4 = x5 then (FX12_is_146_5027_b60 k24 l3 1 u) else (FX12_is_146_5027_b60 k24 l3 0 u))))))
theorem bX12_is_146_5027_24 {G : Gt} {X : Xt} {v : Int32} {u : Mem} (hX : CxOk G X cX12_is 4 RX12 (some (.int v), SH, RHO, u) 7) (hR : CxRet G X (some .boolean) (some (.int v), SH, RHO, u)) {k24 : Int32 → Int32 → Mem → Option Int32} (hk24 : ∀ (l2 l3 : Int32), k24 l2 l3 u = some v → WM G X 24 [(0, .ref 146), (1, .ref 5027), (2, .int l2), (3, .int l3)] [] SH RHO u) (l2 l3 : Int32) (h : FX12_is_146_5027_b24 k24 l2 l3 u = some v) : WM G X 24 [(0, .ref 146), (1, .ref 5027), (2, .int l2), (3, .int l3)] [] SH RHO u := by
  unfold FX12_is_146_5027_b24 at h
  refine w_iload_n 3 24 hX rfl rfl dX12_is_24 ?_
  refine w_aload_n 1 25 hX rfl rfl dX12_is_25 ?_
  obtain ⟨x1, gx1, h⟩ := o_bind h
  refine w_S_len (i := 27) (st := [.int l3]) 26 hX ml_X12_89 gx1 (by decide) (by decide) (Nat.le_of_ble_eq_true rfl) dX12_is_26 ?_
  refine w_icmp_ge (tgt := 67) 29 hX dX12_is_29 (by decide) (fun c2 => ?_) (fun c2 => ?_)
  · have h := it h c2
    exact w_sub [2] rfl (bX12_is_146_5027_67 hX hR l2 h)
  · have h := ie h c2
    refine w_iload_n 2 32 hX rfl rfl dX12_is_32 ?_
    refine w_if_eq (tgt := 67) 33 hX dX12_is_33 (by decide) (fun c3 => ?_) (fun c3 => ?_)
    · have h := it h c3
      exact w_sub [2] rfl (bX12_is_146_5027_67 hX hR l2 h)
    · have h := ie h c3
      refine w_aload_n 0 36 hX rfl rfl dX12_is_36 ?_
      refine w_getR 37 hX CI_12 s_146 rfl r_146_9 fl_X12_31 rfl dX12_is_37 ?_
      refine w_aload_n 0 40 hX rfl rfl dX12_is_40 ?_
      refine w_getI (j := 19) 41 hX CI_12 s_146 rfl fl_X12_86 rfl dX12_is_41 ?_
      refine w_iload_n 3 44 hX rfl rfl dX12_is_44 ?_
      refine w_iadd 45 hX dX12_is_45 ?_
      obtain ⟨x4, gx4, h⟩ := o_bind h
      refine w_iald 46 hX s_154 gx4 dX12_is_46 ?_
      refine w_aload_n 1 47 hX rfl rfl dX12_is_47 ?_
      refine w_iload_n 3 48 hX rfl rfl dX12_is_48 ?_
      obtain ⟨x5, gx5, h⟩ := o_bind h
      refine w_S_chr (i := 27) (st := [.int x4]) 49 hX ml_X12_95 gx5 (by decide) (by decide) (Nat.le_of_ble_eq_true rfl) dX12_is_49 ?_
      refine w_icmp_ne (tgt := 59) 52 hX dX12_is_52 (by decide) (fun c6 => ?_) (fun c6 => ?_)
      · have h := ie h c6
        refine w_iconst 0 59 hX ic_0 dX12_is_59 ?_
        exact w_sub [0, 1, 3] rfl (bX12_is_146_5027_60 hX hR hk24 l3 0 h)
      · have h := it h c6
        refine w_iconst 1 55 hX ic_1 dX12_is_55 ?_
        refine w_goto (tgt := 60) 56 hX (by decide) dX12_is_56 ?_
        exact w_sub [0, 1, 3] rfl (bX12_is_146_5027_60 hX hR hk24 l3 1 h)
def FX12_is_146_5027_L24 : Nat → Int32 → Int32 → Mem → Option Int32
  | 0, _, _, _ => none
  | n + 1, l2, l3, u => FX12_is_146_5027_b24 (FX12_is_146_5027_L24 n) l2 l3 u
theorem lX12_is_146_5027_24 {G : Gt} {X : Xt} {v : Int32} {u : Mem} (hX : CxOk G X cX12_is 4 RX12 (some (.int v), SH, RHO, u) 7) (hR : CxRet G X (some .boolean) (some (.int v), SH, RHO, u)) : ∀ (n : Nat) (l2 l3 : Int32), FX12_is_146_5027_L24 n l2 l3 u = some v → WM G X 24 [(0, .ref 146), (1, .ref 5027), (2, .int l2), (3, .int l3)] [] SH RHO u := by
  intro n
  induction n with
  | zero =>
    intro l2 l3 h
    exact nn_ h
  | succ n ih =>
    intro l2 l3 h
    exact bX12_is_146_5027_24 hX hR ih l2 l3 h
def FX12_is_146_5027_b21 (t0 : Int32) (u : Mem) : Option Int32 :=
  FX12_is_146_5027_L24 FU t0 0 u
theorem bX12_is_146_5027_21 {G : Gt} {X : Xt} {v : Int32} {u : Mem} (hX : CxOk G X cX12_is 4 RX12 (some (.int v), SH, RHO, u) 7) (hR : CxRet G X (some .boolean) (some (.int v), SH, RHO, u)) (t0 : Int32) (h : FX12_is_146_5027_b21 t0 u = some v) : WM G X 21 [(0, .ref 146), (1, .ref 5027)] [.int t0] SH RHO u := by
  unfold FX12_is_146_5027_b21 at h
  refine w_istore_n (lv' := [(2, .int t0), (0, .ref 146), (1, .ref 5027)]) 21 hX rfl dX12_is_21 (by decide) rfl ?_
  refine w_iconst 0 22 hX ic_0 dX12_is_22 ?_
  refine w_istore_n (lv' := [(3, .int 0), (2, .int t0), (0, .ref 146), (1, .ref 5027)]) 23 hX rfl dX12_is_23 (by decide) rfl ?_
  exact w_sub [2, 3, 1, 0] rfl (lX12_is_146_5027_24 hX hR FU t0 0 h)
def FX12_is_146_5027 (u : Mem) : Option Int32 :=
  (S_len 27).bind fun x1 => (if ((u 146 17) - (u 146 19)) = x1 then (FX12_is_146_5027_b21 1 u) else (FX12_is_146_5027_b21 0 u))
theorem CX12_is_146_5027 {G : Gt} (u : Mem) {v : Int32} (h : FX12_is_146_5027 u = some v) : CT G yX12_is cX12_is 4 (some .boolean) 7 [.ref 146, .ref 5027] SH RHO u (some (.int v), SH, RHO, u) :=
  ct_of (by decide) rfl (Nat.le_of_ble_eq_true rfl) (Nat.le_refl _) (Nat.le_refl _) (fun X hX hR => by
  unfold FX12_is_146_5027 at h
  refine w_aload_n 0 0 hX rfl rfl dX12_is_0 ?_
  refine w_getI (j := 17) 1 hX CI_12 s_146 rfl fl_X12_83 rfl dX12_is_1 ?_
  refine w_aload_n 0 4 hX rfl rfl dX12_is_4 ?_
  refine w_getI (j := 19) 5 hX CI_12 s_146 rfl fl_X12_86 rfl dX12_is_5 ?_
  refine w_isub 8 hX dX12_is_8 ?_
  refine w_aload_n 1 9 hX rfl rfl dX12_is_9 ?_
  obtain ⟨x1, gx1, h⟩ := o_bind h
  refine w_S_len (i := 27) (st := [.int ((u 146 17) - (u 146 19))]) 10 hX ml_X12_89 gx1 (by decide) (by decide) (Nat.le_of_ble_eq_true rfl) dX12_is_10 ?_
  refine w_icmp_ne (tgt := 20) 13 hX dX12_is_13 (by decide) (fun c2 => ?_) (fun c2 => ?_)
  · have h := ie h c2
    refine w_iconst 0 20 hX ic_0 dX12_is_20 ?_
    exact bX12_is_146_5027_21 hX hR 0 h
  · have h := it h c2
    refine w_iconst 1 16 hX ic_1 dX12_is_16 ?_
    refine w_goto (tgt := 21) 17 hX (by decide) dX12_is_17 ?_
    exact bX12_is_146_5027_21 hX hR 1 h)
def FX12_orderWord_146 (u : Mem) : Option Int32 :=
  (FX12_is_146_5025 u).bind fun x1 => (if x1 = 0 then ((FX12_is_146_5026 u).bind fun x3 => (if x3 = 0 then ((FX12_is_146_5027 u).bind fun x5 => (if x5 = 0 then (some 1) else (some 12))) else (some 11))) else (some 10))
theorem CX12_orderWord_146 {G : Gt} (u : Mem) {v : Int32} (h : FX12_orderWord_146 u = some v) : CT G yX12_orderWord cX12_orderWord 1 (some .int) 8 [.ref 146] SH RHO u (some (.int v), SH, RHO, u) :=
  ct_of (by decide) rfl (Nat.le_of_ble_eq_true rfl) (Nat.le_refl _) (Nat.le_refl _) (fun X hX hR => by
  unfold FX12_orderWord_146 at h
  refine w_aload_n 0 0 hX rfl rfl dX12_orderWord_0 ?_
  refine w_ldcs 25 1 hX (by decide) rfl rfl dX12_orderWord_1 ?_
  obtain ⟨x1, gx1, h⟩ := o_bind h
  refine w_invVi (av := [.ref 5025]) (st := []) 3 hX CI_12 s_146 rfl mv_yX12_is mi_yX12_is ml_X12_101 (CX12_is_146_5025 u gx1) rfl (by decide) (Nat.le_of_ble_eq_true rfl) (Nat.le_refl _) (Nat.le_refl _) dX12_orderWord_3 ?_
  refine w_if_eq (tgt := 12) 6 hX dX12_orderWord_6 (by decide) (fun c2 => ?_) (fun c2 => ?_)
  · have h := it h c2
    refine w_aload_n 0 12 hX rfl rfl dX12_orderWord_12 ?_
    refine w_ldcs 26 13 hX (by decide) rfl rfl dX12_orderWord_13 ?_
    obtain ⟨x3, gx3, h⟩ := o_bind h
    refine w_invVi (av := [.ref 5026]) (st := []) 15 hX CI_12 s_146 rfl mv_yX12_is mi_yX12_is ml_X12_101 (CX12_is_146_5026 u gx3) rfl (by decide) (Nat.le_of_ble_eq_true rfl) (Nat.le_refl _) (Nat.le_refl _) dX12_orderWord_15 ?_
    refine w_if_eq (tgt := 24) 18 hX dX12_orderWord_18 (by decide) (fun c4 => ?_) (fun c4 => ?_)
    · have h := it h c4
      refine w_aload_n 0 24 hX rfl rfl dX12_orderWord_24 ?_
      refine w_ldcs 27 25 hX (by decide) rfl rfl dX12_orderWord_25 ?_
      obtain ⟨x5, gx5, h⟩ := o_bind h
      refine w_invVi (av := [.ref 5027]) (st := []) 27 hX CI_12 s_146 rfl mv_yX12_is mi_yX12_is ml_X12_101 (CX12_is_146_5027 u gx5) rfl (by decide) (Nat.le_of_ble_eq_true rfl) (Nat.le_refl _) (Nat.le_refl _) dX12_orderWord_27 ?_
      refine w_if_eq (tgt := 38) 30 hX dX12_orderWord_30 (by decide) (fun c6 => ?_) (fun c6 => ?_)
      · have h := it h c6
        refine w_iconst 1 38 hX ic_1 dX12_orderWord_38 ?_
        exact w_iret 39 hX hR dX12_orderWord_39 (by cases h; rfl)
      · have h := ie h c6
        refine w_bipush 12 33 hX ib_12 dX12_orderWord_33 ?_
        refine w_goto (tgt := 39) 35 hX (by decide) dX12_orderWord_35 ?_
        exact w_iret 39 hX hR dX12_orderWord_39 (by cases h; rfl)
    · have h := ie h c4
      refine w_bipush 11 21 hX ib_11 dX12_orderWord_21 ?_
      exact w_iret 23 hX hR dX12_orderWord_23 (by cases h; rfl)
  · have h := ie h c2
    refine w_bipush 10 9 hX ib_10 dX12_orderWord_9 ?_
    exact w_iret 11 hX hR dX12_orderWord_11 (by cases h; rfl))
def FX12_word_146 (u : Mem) : Option Int32 :=
  (if (u 146 12) = 0 then ((FX12_lawWord_146 u).bind fun x2 => some x2) else ((if (u 146 12) = 1 then ((FX12_tellWord_146 u).bind fun x4 => some x4) else ((if (u 146 12) = 2 then ((FX12_weighWord_146 u).bind fun x6 => some x6) else ((FX12_orderWord_146 u).bind fun x7 => some x7))))))
theorem CX12_word_146 {G : Gt} (u : Mem) {v : Int32} (h : FX12_word_146 u = some v) : CT G yX12_word cX12_word 1 (some .int) 10 [.ref 146] SH RHO u (some (.int v), SH, RHO, u) :=
  ct_of (by decide) rfl (Nat.le_of_ble_eq_true rfl) (Nat.le_refl _) (Nat.le_refl _) (fun X hX hR => by
  unfold FX12_word_146 at h
  refine w_aload_n 0 0 hX rfl rfl dX12_word_0 ?_
  refine w_getI (j := 12) 1 hX CI_12 s_146 rfl fl_X12_151 rfl dX12_word_1 ?_
  by_cases c1 : (u 146 12) = 0
  · have h := it h c1
    refine w_tabIn (tgt := 32) (off := 28) 4 hX dX12_word_4 (by rw [c1]; decide) (by rw [c1]; decide) (by rw [c1]; decide) (by decide) ?_
    refine w_aload_n 0 32 hX rfl rfl dX12_word_32 ?_
    obtain ⟨x2, gx2, h⟩ := o_bind h
    refine w_invVi (av := []) (st := []) 33 hX CI_12 s_146 rfl mv_yX12_lawWord mi_yX12_lawWord ml_X12_154 (CX12_lawWord_146 u gx2) rfl (by decide) (Nat.le_of_ble_eq_true rfl) (Nat.le_refl _) (Nat.le_refl _) dX12_word_33 ?_
    exact w_iret 36 hX hR dX12_word_36 (by cases h; rfl)
  · have h := ie h c1
    by_cases c3 : (u 146 12) = 1
    · have h := it h c3
      refine w_tabIn (tgt := 37) (off := 33) 4 hX dX12_word_4 (by rw [c3]; decide) (by rw [c3]; decide) (by rw [c3]; decide) (by decide) ?_
      refine w_aload_n 0 37 hX rfl rfl dX12_word_37 ?_
      obtain ⟨x4, gx4, h⟩ := o_bind h
      refine w_invVi (av := []) (st := []) 38 hX CI_12 s_146 rfl mv_yX12_tellWord mi_yX12_tellWord ml_X12_157 (CX12_tellWord_146 u gx4) rfl (by decide) (Nat.le_of_ble_eq_true rfl) (Nat.le_refl _) (Nat.le_refl _) dX12_word_38 ?_
      exact w_iret 41 hX hR dX12_word_41 (by cases h; rfl)
    · have h := ie h c3
      by_cases c5 : (u 146 12) = 2
      · have h := it h c5
        refine w_tabIn (tgt := 42) (off := 38) 4 hX dX12_word_4 (by rw [c5]; decide) (by rw [c5]; decide) (by rw [c5]; decide) (by decide) ?_
        refine w_aload_n 0 42 hX rfl rfl dX12_word_42 ?_
        obtain ⟨x6, gx6, h⟩ := o_bind h
        refine w_invVi (av := []) (st := []) 43 hX CI_12 s_146 rfl mv_yX12_weighWord mi_yX12_weighWord ml_X12_160 (CX12_weighWord_146 u gx6) rfl (by decide) (Nat.le_of_ble_eq_true rfl) (Nat.le_refl _) (Nat.le_refl _) dX12_word_43 ?_
        exact w_iret 46 hX hR dX12_word_46 (by cases h; rfl)
      · have h := ie h c5
        have zc1 := lv_neT c1 (a := 0) (by decide)
        have zc3 := lv_neT c3 (a := 1) (by decide)
        have zc5 := lv_neT c5 (a := 2) (by decide)
        refine w_tabOut (tgt := 47) 4 hX dX12_word_4 (by omega) (by decide) ?_
        refine w_aload_n 0 47 hX rfl rfl dX12_word_47 ?_
        obtain ⟨x7, gx7, h⟩ := o_bind h
        refine w_invVi (av := []) (st := []) 48 hX CI_12 s_146 rfl mv_yX12_orderWord mi_yX12_orderWord ml_X12_163 (CX12_orderWord_146 u gx7) rfl (by decide) (Nat.le_of_ble_eq_true rfl) (Nat.le_refl _) (Nat.le_refl _) dX12_word_48 ?_
        exact w_iret 51 hX hR dX12_word_51 (by cases h; rfl))
def FX12_next0_146_b303 (t1 : Int32) (u : Mem) : Option Mem :=
  (some (mupd u 146 18 t1)).bind fun u1 => some u1
theorem bX12_next0_146_303 {G : Gt} {X : Xt} {u' : Mem} (hX : CxOk G X cX12_next0 3 RX12 (none, SH, RHO, u') 11) (hR : CxRet G X none (none, SH, RHO, u')) (t1 : Int32) (u : Mem) (h : FX12_next0_146_b303 t1 u = some u') : WM G X 303 [] [.int t1, .ref 146] SH RHO u := by
  unfold FX12_next0_146_b303 at h
  obtain ⟨u1, gu1, h⟩ := o_bind h
  refine w_putI (j := 18) 303 hX CI_12 s_146 rfl fl_X12_170 rfl rfl rfl rfl dX12_next0_303 ?_
  rw [Option.some.inj gu1]
  exact w_vret 306 hX hR dX12_next0_306 (by cases h; rfl)
def FX12_next0_146_b289 (l1 t0 : Int32) (u : Mem) : Option Mem :=
  (if t0 = 0 then (FX12_next0_146_b303 1 u) else (FX12_next0_146_b303 (100 + l1) u))
theorem bX12_next0_146_289 {G : Gt} {X : Xt} {u' : Mem} (hX : CxOk G X cX12_next0 3 RX12 (none, SH, RHO, u') 11) (hR : CxRet G X none (none, SH, RHO, u')) (l1 t0 : Int32) (u : Mem) (h : FX12_next0_146_b289 l1 t0 u = some u') : WM G X 289 [(0, .ref 146), (1, .int l1)] [.int t0] SH RHO u := by
  unfold FX12_next0_146_b289 at h
  refine w_istore_n (lv' := [(2, .int t0), (0, .ref 146), (1, .int l1)]) 289 hX rfl dX12_next0_289 (by decide) rfl ?_
  refine w_aload_n 1 290 hX rfl rfl dX12_next0_290 ?_
  refine w_iload_n 0 291 hX rfl rfl dX12_next0_291 ?_
  refine w_if_eq (tgt := 302) 292 hX dX12_next0_292 (by decide) (fun c1 => ?_) (fun c1 => ?_)
  · have h := it h c1
    refine w_iconst 1 302 hX ic_1 dX12_next0_302 ?_
    exact w_sub [] rfl (bX12_next0_146_303 hX hR 1 u h)
  · have h := ie h c1
    refine w_bipush 100 295 hX ib_100 dX12_next0_295 ?_
    refine w_iload_n 2 297 hX rfl rfl dX12_next0_297 ?_
    refine w_iadd 298 hX dX12_next0_298 ?_
    refine w_goto (tgt := 303) 299 hX (by decide) dX12_next0_299 ?_
    exact w_sub [] rfl (bX12_next0_146_303 hX hR (100 + l1) u h)
def FX12_next0_146_b208 (t1 : Int32) (u : Mem) : Option Mem :=
  (some (mupd u 146 18 t1)).bind fun u1 => some u1
theorem bX12_next0_146_208 {G : Gt} {X : Xt} {u' : Mem} (hX : CxOk G X cX12_next0 3 RX12 (none, SH, RHO, u') 11) (hR : CxRet G X none (none, SH, RHO, u')) (t1 : Int32) (u : Mem) (h : FX12_next0_146_b208 t1 u = some u') : WM G X 208 [] [.int t1, .ref 146] SH RHO u := by
  unfold FX12_next0_146_b208 at h
  obtain ⟨u1, gu1, h⟩ := o_bind h
  refine w_putI (j := 18) 208 hX CI_12 s_146 rfl fl_X12_170 rfl rfl rfl rfl dX12_next0_208 ?_
  rw [Option.some.inj gu1]
  refine w_goto (tgt := 306) 211 hX (by decide) dX12_next0_211 ?_
  exact w_vret 306 hX hR dX12_next0_306 (by cases h; rfl)
def FX12_next0_146_b176 (k126 : Mem → Option Mem) (u : Mem) : Option Mem :=
  (some (mupd u 146 17 ((u 146 17) + 1))).bind fun u1 => k126 u1
theorem bX12_next0_146_176 {G : Gt} {X : Xt} {u' : Mem} (hX : CxOk G X cX12_next0 3 RX12 (none, SH, RHO, u') 11) (hR : CxRet G X none (none, SH, RHO, u')) {k126 : Mem → Option Mem} (hk126 : ∀ (u : Mem), k126 u = some u' → WM G X 126 [(0, .ref 146)] [] SH RHO u) (u : Mem) (h : FX12_next0_146_b176 k126 u = some u') : WM G X 176 [(0, .ref 146)] [] SH RHO u := by
  unfold FX12_next0_146_b176 at h
  refine w_aload_n 0 176 hX rfl rfl dX12_next0_176 ?_
  refine w_dup 177 hX rfl dX12_next0_177 ?_
  refine w_getI (j := 17) 178 hX CI_12 s_146 rfl fl_X12_83 rfl dX12_next0_178 ?_
  refine w_iconst 1 181 hX ic_1 dX12_next0_181 ?_
  refine w_iadd 182 hX dX12_next0_182 ?_
  obtain ⟨u1, gu1, h⟩ := o_bind h
  refine w_putI (j := 17) 183 hX CI_12 s_146 rfl fl_X12_83 rfl rfl rfl rfl dX12_next0_183 ?_
  rw [Option.some.inj gu1]
  refine w_goto (tgt := 126) 186 hX (by decide) dX12_next0_186 ?_
  exact hk126 u1 h
def FX12_next0_146_b126 (k126 : Mem → Option Mem) (u : Mem) : Option Mem :=
  (FX12_see_146 (u 146 17) u).bind fun x1 => (FX12_isDigit x1).bind fun x2 => (if x2 = 0 then ((if 5 ≤ ((u 146 17) - (u 146 19)) then (FX12_next0_146_b208 1 u) else (FX12_next0_146_b208 2 u))) else ((if ((u 146 19) + 4) ≤ (u 146 17) then (FX12_next0_146_b176 k126 u) else ((FX12_see_146 (u 146 17) u).bind fun x6 => (some (mupd u 146 20 (((10 * (u 146 20)) + x6) - 48))).bind fun u7 => FX12_next0_146_b176 k126 u7))))
theorem bX12_next0_146_126 {G : Gt} {X : Xt} {u' : Mem} (hX : CxOk G X cX12_next0 3 RX12 (none, SH, RHO, u') 11) (hR : CxRet G X none (none, SH, RHO, u')) {k126 : Mem → Option Mem} (hk126 : ∀ (u : Mem), k126 u = some u' → WM G X 126 [(0, .ref 146)] [] SH RHO u) (u : Mem) (h : FX12_next0_146_b126 k126 u = some u') : WM G X 126 [(0, .ref 146)] [] SH RHO u := by
  unfold FX12_next0_146_b126 at h
  refine w_aload_n 0 126 hX rfl rfl dX12_next0_126 ?_
  refine w_aload_n 0 127 hX rfl rfl dX12_next0_127 ?_
  refine w_getI (j := 17) 128 hX CI_12 s_146 rfl fl_X12_83 rfl dX12_next0_128 ?_
  obtain ⟨x1, gx1, h⟩ := o_bind h
  refine w_invVi (av := [.int (u 146 17)]) (st := []) 131 hX CI_12 s_146 rfl mv_yX12_see mi_yX12_see ml_X12_166 (CX12_see_146 (u 146 17) u gx1) rfl (by decide) (Nat.le_of_ble_eq_true rfl) (Nat.le_refl _) (Nat.le_refl _) dX12_next0_131 ?_
  obtain ⟨x2, gx2, h⟩ := o_bind h
  refine w_invSi (av := [.int x1]) (st := []) 134 hX ms_yX12_isDigit mi_yX12_isDigit ml_X12_179 (CX12_isDigit x1 u gx2) rfl (by decide) (Nat.le_of_ble_eq_true rfl) (Nat.le_refl _) (Nat.le_refl _) dX12_next0_134 ?_
  refine w_if_eq (tgt := 189) 137 hX dX12_next0_137 (by decide) (fun c3 => ?_) (fun c3 => ?_)
  · have h := it h c3
    refine w_aload_n 0 189 hX rfl rfl dX12_next0_189 ?_
    refine w_aload_n 0 190 hX rfl rfl dX12_next0_190 ?_
    refine w_getI (j := 17) 191 hX CI_12 s_146 rfl fl_X12_83 rfl dX12_next0_191 ?_
    refine w_aload_n 0 194 hX rfl rfl dX12_next0_194 ?_
    refine w_getI (j := 19) 195 hX CI_12 s_146 rfl fl_X12_86 rfl dX12_next0_195 ?_
    refine w_isub 198 hX dX12_next0_198 ?_
    refine w_iconst 5 199 hX ic_5 dX12_next0_199 ?_
    refine w_icmp_ge (tgt := 207) 200 hX dX12_next0_200 (by decide) (fun c4 => ?_) (fun c4 => ?_)
    · have h := it h c4
      refine w_iconst 1 207 hX ic_1 dX12_next0_207 ?_
      exact w_sub [] rfl (bX12_next0_146_208 hX hR 1 u h)
    · have h := ie h c4
      refine w_iconst 2 203 hX ic_2 dX12_next0_203 ?_
      refine w_goto (tgt := 208) 204 hX (by decide) dX12_next0_204 ?_
      exact w_sub [] rfl (bX12_next0_146_208 hX hR 2 u h)
  · have h := ie h c3
    refine w_aload_n 0 140 hX rfl rfl dX12_next0_140 ?_
    refine w_getI (j := 17) 141 hX CI_12 s_146 rfl fl_X12_83 rfl dX12_next0_141 ?_
    refine w_aload_n 0 144 hX rfl rfl dX12_next0_144 ?_
    refine w_getI (j := 19) 145 hX CI_12 s_146 rfl fl_X12_86 rfl dX12_next0_145 ?_
    refine w_iconst 4 148 hX ic_4 dX12_next0_148 ?_
    refine w_iadd 149 hX dX12_next0_149 ?_
    refine w_icmp_ge (tgt := 176) 150 hX dX12_next0_150 (by decide) (fun c5 => ?_) (fun c5 => ?_)
    · have h := it h c5
      exact bX12_next0_146_176 hX hR hk126 u h
    · have h := ie h c5
      refine w_aload_n 0 153 hX rfl rfl dX12_next0_153 ?_
      refine w_bipush 10 154 hX ib_10 dX12_next0_154 ?_
      refine w_aload_n 0 156 hX rfl rfl dX12_next0_156 ?_
      refine w_getI (j := 20) 157 hX CI_12 s_146 rfl fl_X12_182 rfl dX12_next0_157 ?_
      refine w_imul 160 hX dX12_next0_160 ?_
      refine w_aload_n 0 161 hX rfl rfl dX12_next0_161 ?_
      refine w_aload_n 0 162 hX rfl rfl dX12_next0_162 ?_
      refine w_getI (j := 17) 163 hX CI_12 s_146 rfl fl_X12_83 rfl dX12_next0_163 ?_
      obtain ⟨x6, gx6, h⟩ := o_bind h
      refine w_invVi (av := [.int (u 146 17)]) (st := [.int (10 * (u 146 20)), .ref 146]) 166 hX CI_12 s_146 rfl mv_yX12_see mi_yX12_see ml_X12_166 (CX12_see_146 (u 146 17) u gx6) rfl (by decide) (Nat.le_of_ble_eq_true rfl) (Nat.le_refl _) (Nat.le_refl _) dX12_next0_166 ?_
      refine w_iadd 169 hX dX12_next0_169 ?_
      refine w_bipush 48 170 hX ib_48 dX12_next0_170 ?_
      refine w_isub 172 hX dX12_next0_172 ?_
      obtain ⟨u7, gu7, h⟩ := o_bind h
      refine w_putI (j := 20) 173 hX CI_12 s_146 rfl fl_X12_182 rfl rfl rfl rfl dX12_next0_173 ?_
      rw [Option.some.inj gu7]
      exact bX12_next0_146_176 hX hR hk126 u7 h
def FX12_next0_146_L126 : Nat → Mem → Option Mem
  | 0, _ => none
  | n + 1, u => FX12_next0_146_b126 (FX12_next0_146_L126 n) u
theorem lX12_next0_146_126 {G : Gt} {X : Xt} {u' : Mem} (hX : CxOk G X cX12_next0 3 RX12 (none, SH, RHO, u') 11) (hR : CxRet G X none (none, SH, RHO, u')) : ∀ (n : Nat) (u : Mem), FX12_next0_146_L126 n u = some u' → WM G X 126 [(0, .ref 146)] [] SH RHO u := by
  intro n
  induction n with
  | zero =>
    intro u h
    exact nn_ h
  | succ n ih =>
    intro u h
    exact bX12_next0_146_126 hX hR ih u h
def FX12_next0_146_b76 (k76 : Mem → Option Mem) (u : Mem) : Option Mem :=
  (FX12_see_146 (u 146 17) u).bind fun x1 => (FX12_isLetter x1).bind fun x2 => (if x2 = 0 then ((FX12_word_146 u).bind fun x4 => (some (mupd u 146 18 x4)).bind fun u5 => some u5) else ((some (mupd u 146 17 ((u 146 17) + 1))).bind fun u6 => k76 u6))
theorem bX12_next0_146_76 {G : Gt} {X : Xt} {u' : Mem} (hX : CxOk G X cX12_next0 3 RX12 (none, SH, RHO, u') 11) (hR : CxRet G X none (none, SH, RHO, u')) {k76 : Mem → Option Mem} (hk76 : ∀ (u : Mem), k76 u = some u' → WM G X 76 [(0, .ref 146)] [] SH RHO u) (u : Mem) (h : FX12_next0_146_b76 k76 u = some u') : WM G X 76 [(0, .ref 146)] [] SH RHO u := by
  unfold FX12_next0_146_b76 at h
  refine w_aload_n 0 76 hX rfl rfl dX12_next0_76 ?_
  refine w_aload_n 0 77 hX rfl rfl dX12_next0_77 ?_
  refine w_getI (j := 17) 78 hX CI_12 s_146 rfl fl_X12_83 rfl dX12_next0_78 ?_
  obtain ⟨x1, gx1, h⟩ := o_bind h
  refine w_invVi (av := [.int (u 146 17)]) (st := []) 81 hX CI_12 s_146 rfl mv_yX12_see mi_yX12_see ml_X12_166 (CX12_see_146 (u 146 17) u gx1) rfl (by decide) (Nat.le_of_ble_eq_true rfl) (Nat.le_refl _) (Nat.le_refl _) dX12_next0_81 ?_
  obtain ⟨x2, gx2, h⟩ := o_bind h
  refine w_invSi (av := [.int x1]) (st := []) 84 hX ms_yX12_isLetter mi_yX12_isLetter ml_X12_173 (CX12_isLetter x1 u gx2) rfl (by decide) (Nat.le_of_ble_eq_true rfl) (Nat.le_refl _) (Nat.le_refl _) dX12_next0_84 ?_
  refine w_if_eq (tgt := 103) 87 hX dX12_next0_87 (by decide) (fun c3 => ?_) (fun c3 => ?_)
  · have h := it h c3
    refine w_aload_n 0 103 hX rfl rfl dX12_next0_103 ?_
    refine w_aload_n 0 104 hX rfl rfl dX12_next0_104 ?_
    obtain ⟨x4, gx4, h⟩ := o_bind h
    refine w_invVi (av := []) (st := [.ref 146]) 105 hX CI_12 s_146 rfl mv_yX12_word mi_yX12_word ml_X12_176 (CX12_word_146 u gx4) rfl (by decide) (Nat.le_of_ble_eq_true rfl) (Nat.le_refl _) (Nat.le_refl _) dX12_next0_105 ?_
    obtain ⟨u5, gu5, h⟩ := o_bind h
    refine w_putI (j := 18) 108 hX CI_12 s_146 rfl fl_X12_170 rfl rfl rfl rfl dX12_next0_108 ?_
    rw [Option.some.inj gu5]
    refine w_goto (tgt := 306) 111 hX (by decide) dX12_next0_111 ?_
    exact w_vret 306 hX hR dX12_next0_306 (by cases h; rfl)
  · have h := ie h c3
    refine w_aload_n 0 90 hX rfl rfl dX12_next0_90 ?_
    refine w_dup 91 hX rfl dX12_next0_91 ?_
    refine w_getI (j := 17) 92 hX CI_12 s_146 rfl fl_X12_83 rfl dX12_next0_92 ?_
    refine w_iconst 1 95 hX ic_1 dX12_next0_95 ?_
    refine w_iadd 96 hX dX12_next0_96 ?_
    obtain ⟨u6, gu6, h⟩ := o_bind h
    refine w_putI (j := 17) 97 hX CI_12 s_146 rfl fl_X12_83 rfl rfl rfl rfl dX12_next0_97 ?_
    rw [Option.some.inj gu6]
    refine w_goto (tgt := 76) 100 hX (by decide) dX12_next0_100 ?_
    exact hk76 u6 h
def FX12_next0_146_L76 : Nat → Mem → Option Mem
  | 0, _ => none
  | n + 1, u => FX12_next0_146_b76 (FX12_next0_146_L76 n) u
theorem lX12_next0_146_76 {G : Gt} {X : Xt} {u' : Mem} (hX : CxOk G X cX12_next0 3 RX12 (none, SH, RHO, u') 11) (hR : CxRet G X none (none, SH, RHO, u')) : ∀ (n : Nat) (u : Mem), FX12_next0_146_L76 n u = some u' → WM G X 76 [(0, .ref 146)] [] SH RHO u := by
  intro n
  induction n with
  | zero =>
    intro u h
    exact nn_ h
  | succ n ih =>
    intro u h
    exact bX12_next0_146_76 hX hR ih u h
def FX12_next0_146_b26 (k0 : Mem → Option Mem) (u : Mem) : Option Mem :=
  (some (mupd u 146 17 ((u 146 17) + 1))).bind fun u1 => k0 u1
theorem bX12_next0_146_26 {G : Gt} {X : Xt} {u' : Mem} (hX : CxOk G X cX12_next0 3 RX12 (none, SH, RHO, u') 11) (hR : CxRet G X none (none, SH, RHO, u')) {k0 : Mem → Option Mem} (hk0 : ∀ (u : Mem), k0 u = some u' → WM G X 0 [(0, .ref 146)] [] SH RHO u) (u : Mem) (h : FX12_next0_146_b26 k0 u = some u') : WM G X 26 [(0, .ref 146)] [] SH RHO u := by
  unfold FX12_next0_146_b26 at h
  refine w_aload_n 0 26 hX rfl rfl dX12_next0_26 ?_
  refine w_dup 27 hX rfl dX12_next0_27 ?_
  refine w_getI (j := 17) 28 hX CI_12 s_146 rfl fl_X12_83 rfl dX12_next0_28 ?_
  refine w_iconst 1 31 hX ic_1 dX12_next0_31 ?_
  refine w_iadd 32 hX dX12_next0_32 ?_
  obtain ⟨u1, gu1, h⟩ := o_bind h
  refine w_putI (j := 17) 33 hX CI_12 s_146 rfl fl_X12_83 rfl rfl rfl rfl dX12_next0_33 ?_
  rw [Option.some.inj gu1]
  refine w_goto (tgt := 0) 36 hX (by decide) dX12_next0_36 ?_
  exact hk0 u1 h
def FX12_next0_146_b0 (k0 : Mem → Option Mem) (u : Mem) : Option Mem :=
  (FX12_see_146 (u 146 17) u).bind fun x1 => (if x1 = 32 then (FX12_next0_146_b26 k0 u) else ((FX12_see_146 (u 146 17) u).bind fun x3 => (if x3 = 10 then (FX12_next0_146_b26 k0 u) else ((some (mupd u 146 19 (u 146 17))).bind fun u5 => (FX12_see_146 (u5 146 17) u5).bind fun x6 => (if x6 = (-1) then ((some (mupd u5 146 18 0)).bind fun u24 => some u24) else ((FX12_isLetter x6).bind fun x8 => (if x8 = 0 then ((FX12_isDigit x6).bind fun x10 => (if x10 = 0 then ((some (mupd u5 146 17 ((u5 146 17) + 1))).bind fun u12 => (if x6 = 59 then (FX12_next0_146_b289 x6 1 u12) else ((if x6 = 43 then (FX12_next0_146_b289 x6 1 u12) else ((if x6 = 45 then (FX12_next0_146_b289 x6 1 u12) else ((if x6 = 42 then (FX12_next0_146_b289 x6 1 u12) else ((if x6 = 47 then (FX12_next0_146_b289 x6 1 u12) else ((if x6 = 40 then (FX12_next0_146_b289 x6 1 u12) else ((if x6 = 41 then (FX12_next0_146_b289 x6 1 u12) else ((if x6 = 60 then (FX12_next0_146_b289 x6 1 u12) else ((if x6 = 61 then (FX12_next0_146_b289 x6 1 u12) else ((if x6 = 62 then (FX12_next0_146_b289 x6 1 u12) else (FX12_next0_146_b289 x6 0 u12))))))))))))))))))))) else ((some (mupd u5 146 20 0)).bind fun u23 => FX12_next0_146_L126 FU u23))) else (FX12_next0_146_L76 FU u5))))))))
theorem bX12_next0_146_0 {G : Gt} {X : Xt} {u' : Mem} (hX : CxOk G X cX12_next0 3 RX12 (none, SH, RHO, u') 11) (hR : CxRet G X none (none, SH, RHO, u')) {k0 : Mem → Option Mem} (hk0 : ∀ (u : Mem), k0 u = some u' → WM G X 0 [(0, .ref 146)] [] SH RHO u) (u : Mem) (h : FX12_next0_146_b0 k0 u = some u') : WM G X 0 [(0, .ref 146)] [] SH RHO u := by
  unfold FX12_next0_146_b0 at h
  refine w_aload_n 0 0 hX rfl rfl dX12_next0_0 ?_
  refine w_aload_n 0 1 hX rfl rfl dX12_next0_1 ?_
  refine w_getI (j := 17) 2 hX CI_12 s_146 rfl fl_X12_83 rfl dX12_next0_2 ?_
  obtain ⟨x1, gx1, h⟩ := o_bind h
  refine w_invVi (av := [.int (u 146 17)]) (st := []) 5 hX CI_12 s_146 rfl mv_yX12_see mi_yX12_see ml_X12_166 (CX12_see_146 (u 146 17) u gx1) rfl (by decide) (Nat.le_of_ble_eq_true rfl) (Nat.le_refl _) (Nat.le_refl _) dX12_next0_5 ?_
  refine w_bipush 32 8 hX ib_32 dX12_next0_8 ?_
  refine w_icmp_eq (tgt := 26) 10 hX dX12_next0_10 (by decide) (fun c2 => ?_) (fun c2 => ?_)
  · have h := it h c2
    exact bX12_next0_146_26 hX hR hk0 u h
  · have h := ie h c2
    refine w_aload_n 0 13 hX rfl rfl dX12_next0_13 ?_
    refine w_aload_n 0 14 hX rfl rfl dX12_next0_14 ?_
    refine w_getI (j := 17) 15 hX CI_12 s_146 rfl fl_X12_83 rfl dX12_next0_15 ?_
    obtain ⟨x3, gx3, h⟩ := o_bind h
    refine w_invVi (av := [.int (u 146 17)]) (st := []) 18 hX CI_12 s_146 rfl mv_yX12_see mi_yX12_see ml_X12_166 (CX12_see_146 (u 146 17) u gx3) rfl (by decide) (Nat.le_of_ble_eq_true rfl) (Nat.le_refl _) (Nat.le_refl _) dX12_next0_18 ?_
    refine w_bipush 10 21 hX ib_10 dX12_next0_21 ?_
    refine w_icmp_ne (tgt := 39) 23 hX dX12_next0_23 (by decide) (fun c4 => ?_) (fun c4 => ?_)
    · have h := ie h c4
      refine w_aload_n 0 39 hX rfl rfl dX12_next0_39 ?_
      refine w_aload_n 0 40 hX rfl rfl dX12_next0_40 ?_
      refine w_getI (j := 17) 41 hX CI_12 s_146 rfl fl_X12_83 rfl dX12_next0_41 ?_
      obtain ⟨u5, gu5, h⟩ := o_bind h
      refine w_putI (j := 19) 44 hX CI_12 s_146 rfl fl_X12_86 rfl rfl rfl rfl dX12_next0_44 ?_
      rw [Option.some.inj gu5]
      refine w_aload_n 0 47 hX rfl rfl dX12_next0_47 ?_
      refine w_aload_n 0 48 hX rfl rfl dX12_next0_48 ?_
      refine w_getI (j := 17) 49 hX CI_12 s_146 rfl fl_X12_83 rfl dX12_next0_49 ?_
      obtain ⟨x6, gx6, h⟩ := o_bind h
      refine w_invVi (av := [.int (u5 146 17)]) (st := []) 52 hX CI_12 s_146 rfl mv_yX12_see mi_yX12_see ml_X12_166 (CX12_see_146 (u5 146 17) u5 gx6) rfl (by decide) (Nat.le_of_ble_eq_true rfl) (Nat.le_refl _) (Nat.le_refl _) dX12_next0_52 ?_
      refine w_istore_n (lv' := [(1, .int x6), (0, .ref 146)]) 55 hX rfl dX12_next0_55 (by decide) rfl ?_
      refine w_iload_n 0 56 hX rfl rfl dX12_next0_56 ?_
      refine w_iconst (-1) 57 hX ic_m1 dX12_next0_57 ?_
      refine w_icmp_ne (tgt := 69) 58 hX dX12_next0_58 (by decide) (fun c7 => ?_) (fun c7 => ?_)
      · have h := ie h c7
        refine w_iload_n 0 69 hX rfl rfl dX12_next0_69 ?_
        obtain ⟨x8, gx8, h⟩ := o_bind h
        refine w_invSi (av := [.int x6]) (st := []) 70 hX ms_yX12_isLetter mi_yX12_isLetter ml_X12_173 (CX12_isLetter x6 u5 gx8) rfl (by decide) (Nat.le_of_ble_eq_true rfl) (Nat.le_refl _) (Nat.le_refl _) dX12_next0_70 ?_
        refine w_if_eq (tgt := 114) 73 hX dX12_next0_73 (by decide) (fun c9 => ?_) (fun c9 => ?_)
        · have h := it h c9
          refine w_iload_n 0 114 hX rfl rfl dX12_next0_114 ?_
          obtain ⟨x10, gx10, h⟩ := o_bind h
          refine w_invSi (av := [.int x6]) (st := []) 115 hX ms_yX12_isDigit mi_yX12_isDigit ml_X12_179 (CX12_isDigit x6 u5 gx10) rfl (by decide) (Nat.le_of_ble_eq_true rfl) (Nat.le_refl _) (Nat.le_refl _) dX12_next0_115 ?_
          refine w_if_eq (tgt := 214) 118 hX dX12_next0_118 (by decide) (fun c11 => ?_) (fun c11 => ?_)
          · have h := it h c11
            refine w_aload_n 1 214 hX rfl rfl dX12_next0_214 ?_
            refine w_dup 215 hX rfl dX12_next0_215 ?_
            refine w_getI (j := 17) 216 hX CI_12 s_146 rfl fl_X12_83 rfl dX12_next0_216 ?_
            refine w_iconst 1 219 hX ic_1 dX12_next0_219 ?_
            refine w_iadd 220 hX dX12_next0_220 ?_
            obtain ⟨u12, gu12, h⟩ := o_bind h
            refine w_putI (j := 17) 221 hX CI_12 s_146 rfl fl_X12_83 rfl rfl rfl rfl dX12_next0_221 ?_
            rw [Option.some.inj gu12]
            refine w_iload_n 0 224 hX rfl rfl dX12_next0_224 ?_
            refine w_bipush 59 225 hX ib_59 dX12_next0_225 ?_
            refine w_icmp_eq (tgt := 284) 227 hX dX12_next0_227 (by decide) (fun c13 => ?_) (fun c13 => ?_)
            · have h := it h c13
              refine w_iconst 1 284 hX ic_1 dX12_next0_284 ?_
              refine w_goto (tgt := 289) 285 hX (by decide) dX12_next0_285 ?_
              exact w_sub [1, 0] rfl (bX12_next0_146_289 hX hR x6 1 u12 h)
            · have h := ie h c13
              refine w_iload_n 0 230 hX rfl rfl dX12_next0_230 ?_
              refine w_bipush 43 231 hX ib_43 dX12_next0_231 ?_
              refine w_icmp_eq (tgt := 284) 233 hX dX12_next0_233 (by decide) (fun c14 => ?_) (fun c14 => ?_)
              · have h := it h c14
                refine w_iconst 1 284 hX ic_1 dX12_next0_284 ?_
                refine w_goto (tgt := 289) 285 hX (by decide) dX12_next0_285 ?_
                exact w_sub [1, 0] rfl (bX12_next0_146_289 hX hR x6 1 u12 h)
              · have h := ie h c14
                refine w_iload_n 0 236 hX rfl rfl dX12_next0_236 ?_
                refine w_bipush 45 237 hX ib_45 dX12_next0_237 ?_
                refine w_icmp_eq (tgt := 284) 239 hX dX12_next0_239 (by decide) (fun c15 => ?_) (fun c15 => ?_)
                · have h := it h c15
                  refine w_iconst 1 284 hX ic_1 dX12_next0_284 ?_
                  refine w_goto (tgt := 289) 285 hX (by decide) dX12_next0_285 ?_
                  exact w_sub [1, 0] rfl (bX12_next0_146_289 hX hR x6 1 u12 h)
                · have h := ie h c15
                  refine w_iload_n 0 242 hX rfl rfl dX12_next0_242 ?_
                  refine w_bipush 42 243 hX ib_42 dX12_next0_243 ?_
                  refine w_icmp_eq (tgt := 284) 245 hX dX12_next0_245 (by decide) (fun c16 => ?_) (fun c16 => ?_)
                  · have h := it h c16
                    refine w_iconst 1 284 hX ic_1 dX12_next0_284 ?_
                    refine w_goto (tgt := 289) 285 hX (by decide) dX12_next0_285 ?_
                    exact w_sub [1, 0] rfl (bX12_next0_146_289 hX hR x6 1 u12 h)
                  · have h := ie h c16
                    refine w_iload_n 0 248 hX rfl rfl dX12_next0_248 ?_
                    refine w_bipush 47 249 hX ib_47 dX12_next0_249 ?_
                    refine w_icmp_eq (tgt := 284) 251 hX dX12_next0_251 (by decide) (fun c17 => ?_) (fun c17 => ?_)
                    · have h := it h c17
                      refine w_iconst 1 284 hX ic_1 dX12_next0_284 ?_
                      refine w_goto (tgt := 289) 285 hX (by decide) dX12_next0_285 ?_
                      exact w_sub [1, 0] rfl (bX12_next0_146_289 hX hR x6 1 u12 h)
                    · have h := ie h c17
                      refine w_iload_n 0 254 hX rfl rfl dX12_next0_254 ?_
                      refine w_bipush 40 255 hX ib_40 dX12_next0_255 ?_
                      refine w_icmp_eq (tgt := 284) 257 hX dX12_next0_257 (by decide) (fun c18 => ?_) (fun c18 => ?_)
                      · have h := it h c18
                        refine w_iconst 1 284 hX ic_1 dX12_next0_284 ?_
                        refine w_goto (tgt := 289) 285 hX (by decide) dX12_next0_285 ?_
                        exact w_sub [1, 0] rfl (bX12_next0_146_289 hX hR x6 1 u12 h)
                      · have h := ie h c18
                        refine w_iload_n 0 260 hX rfl rfl dX12_next0_260 ?_
                        refine w_bipush 41 261 hX ib_41 dX12_next0_261 ?_
                        refine w_icmp_eq (tgt := 284) 263 hX dX12_next0_263 (by decide) (fun c19 => ?_) (fun c19 => ?_)
                        · have h := it h c19
                          refine w_iconst 1 284 hX ic_1 dX12_next0_284 ?_
                          refine w_goto (tgt := 289) 285 hX (by decide) dX12_next0_285 ?_
                          exact w_sub [1, 0] rfl (bX12_next0_146_289 hX hR x6 1 u12 h)
                        · have h := ie h c19
                          refine w_iload_n 0 266 hX rfl rfl dX12_next0_266 ?_
                          refine w_bipush 60 267 hX ib_60 dX12_next0_267 ?_
                          refine w_icmp_eq (tgt := 284) 269 hX dX12_next0_269 (by decide) (fun c20 => ?_) (fun c20 => ?_)
                          · have h := it h c20
                            refine w_iconst 1 284 hX ic_1 dX12_next0_284 ?_
                            refine w_goto (tgt := 289) 285 hX (by decide) dX12_next0_285 ?_
                            exact w_sub [1, 0] rfl (bX12_next0_146_289 hX hR x6 1 u12 h)
                          · have h := ie h c20
                            refine w_iload_n 0 272 hX rfl rfl dX12_next0_272 ?_
                            refine w_bipush 61 273 hX ib_61 dX12_next0_273 ?_
                            refine w_icmp_eq (tgt := 284) 275 hX dX12_next0_275 (by decide) (fun c21 => ?_) (fun c21 => ?_)
                            · have h := it h c21
                              refine w_iconst 1 284 hX ic_1 dX12_next0_284 ?_
                              refine w_goto (tgt := 289) 285 hX (by decide) dX12_next0_285 ?_
                              exact w_sub [1, 0] rfl (bX12_next0_146_289 hX hR x6 1 u12 h)
                            · have h := ie h c21
                              refine w_iload_n 0 278 hX rfl rfl dX12_next0_278 ?_
                              refine w_bipush 62 279 hX ib_62 dX12_next0_279 ?_
                              refine w_icmp_ne (tgt := 288) 281 hX dX12_next0_281 (by decide) (fun c22 => ?_) (fun c22 => ?_)
                              · have h := ie h c22
                                refine w_iconst 0 288 hX ic_0 dX12_next0_288 ?_
                                exact w_sub [1, 0] rfl (bX12_next0_146_289 hX hR x6 0 u12 h)
                              · have h := it h c22
                                refine w_iconst 1 284 hX ic_1 dX12_next0_284 ?_
                                refine w_goto (tgt := 289) 285 hX (by decide) dX12_next0_285 ?_
                                exact w_sub [1, 0] rfl (bX12_next0_146_289 hX hR x6 1 u12 h)
          · have h := ie h c11
            refine w_aload_n 1 121 hX rfl rfl dX12_next0_121 ?_
            refine w_iconst 0 122 hX ic_0 dX12_next0_122 ?_
            obtain ⟨u23, gu23, h⟩ := o_bind h
            refine w_putI (j := 20) 123 hX CI_12 s_146 rfl fl_X12_182 rfl rfl rfl rfl dX12_next0_123 ?_
            rw [Option.some.inj gu23]
            exact w_sub [1] rfl (lX12_next0_146_126 hX hR FU u23 h)
        · have h := ie h c9
          exact w_sub [1] rfl (lX12_next0_146_76 hX hR FU u5 h)
      · have h := it h c7
        refine w_aload_n 1 61 hX rfl rfl dX12_next0_61 ?_
        refine w_iconst 0 62 hX ic_0 dX12_next0_62 ?_
        obtain ⟨u24, gu24, h⟩ := o_bind h
        refine w_putI (j := 18) 63 hX CI_12 s_146 rfl fl_X12_170 rfl rfl rfl rfl dX12_next0_63 ?_
        rw [Option.some.inj gu24]
        refine w_goto (tgt := 306) 66 hX (by decide) dX12_next0_66 ?_
        exact w_vret 306 hX hR dX12_next0_306 (by cases h; rfl)
    · have h := it h c4
      exact bX12_next0_146_26 hX hR hk0 u h
def FX12_next0_146_L0 : Nat → Mem → Option Mem
  | 0, _ => none
  | n + 1, u => FX12_next0_146_b0 (FX12_next0_146_L0 n) u
theorem lX12_next0_146_0 {G : Gt} {X : Xt} {u' : Mem} (hX : CxOk G X cX12_next0 3 RX12 (none, SH, RHO, u') 11) (hR : CxRet G X none (none, SH, RHO, u')) : ∀ (n : Nat) (u : Mem), FX12_next0_146_L0 n u = some u' → WM G X 0 [(0, .ref 146)] [] SH RHO u := by
  intro n
  induction n with
  | zero =>
    intro u h
    exact nn_ h
  | succ n ih =>
    intro u h
    exact bX12_next0_146_0 hX hR ih u h
def FX12_next0_146 (u : Mem) : Option Mem :=
  FX12_next0_146_L0 FU u
theorem CX12_next0_146 {G : Gt} (u : Mem) {u' : Mem} (h : FX12_next0_146 u = some u') : CT G yX12_next0 cX12_next0 3 none 11 [.ref 146] SH RHO u (none, SH, RHO, u') :=
  ct_of (by decide) rfl (Nat.le_of_ble_eq_true rfl) (Nat.le_refl _) (Nat.le_refl _) (fun X hX hR => by
  unfold FX12_next0_146 at h
  exact lX12_next0_146_0 hX hR FU u h)
def FX12_begins_146_b52 (t0 t1 : Int32) (u : Mem) : Option Int32 :=
  (if t0 = t1 then (some 1) else (some 0))
theorem bX12_begins_146_52 {G : Gt} {X : Xt} {v : Int32} {u : Mem} (hX : CxOk G X cX12_begins 1 RX12 (some (.int v), SH, RHO, u) 3) (hR : CxRet G X (some .boolean) (some (.int v), SH, RHO, u)) (t0 t1 : Int32) (h : FX12_begins_146_b52 t0 t1 u = some v) : WM G X 52 [] [.int t1, .int t0] SH RHO u := by
  unfold FX12_begins_146_b52 at h
  refine w_icmp_ne (tgt := 59) 52 hX dX12_begins_52 (by decide) (fun c1 => ?_) (fun c1 => ?_)
  · have h := ie h c1
    refine w_iconst 0 59 hX ic_0 dX12_begins_59 ?_
    exact w_zret 60 hX hR (by decide) dX12_begins_60 (by cases h; rfl)
  · have h := it h c1
    refine w_iconst 1 55 hX ic_1 dX12_begins_55 ?_
    refine w_goto (tgt := 60) 56 hX (by decide) dX12_begins_56 ?_
    exact w_zret 60 hX hR (by decide) dX12_begins_60 (by cases h; rfl)
def FX12_begins_146 (u : Mem) : Option Int32 :=
  (if (u 146 12) = 1 then ((if (u 146 18) = 2 then ((FX12_isMan_146 (u 146 20) u).bind fun x4 => (if x4 = 0 then (some 0) else (some 1))) else (some 0))) else ((if (u 146 12) = 2 then (FX12_begins_146_b52 (u 146 18) 8 u) else (FX12_begins_146_b52 (u 146 18) 10 u))))
theorem CX12_begins_146 {G : Gt} (u : Mem) {v : Int32} (h : FX12_begins_146 u = some v) : CT G yX12_begins cX12_begins 1 (some .boolean) 3 [.ref 146] SH RHO u (some (.int v), SH, RHO, u) :=
  ct_of (by decide) rfl (Nat.le_of_ble_eq_true rfl) (Nat.le_refl _) (Nat.le_refl _) (fun X hX hR => by
  unfold FX12_begins_146 at h
  refine w_aload_n 0 0 hX rfl rfl dX12_begins_0 ?_
  refine w_getI (j := 12) 1 hX CI_12 s_146 rfl fl_X12_151 rfl dX12_begins_1 ?_
  refine w_iconst 1 4 hX ic_1 dX12_begins_4 ?_
  refine w_icmp_ne (tgt := 33) 5 hX dX12_begins_5 (by decide) (fun c1 => ?_) (fun c1 => ?_)
  · have h := ie h c1
    refine w_aload_n 0 33 hX rfl rfl dX12_begins_33 ?_
    refine w_getI (j := 18) 34 hX CI_12 s_146 rfl fl_X12_170 rfl dX12_begins_34 ?_
    refine w_aload_n 0 37 hX rfl rfl dX12_begins_37 ?_
    refine w_getI (j := 12) 38 hX CI_12 s_146 rfl fl_X12_151 rfl dX12_begins_38 ?_
    refine w_iconst 2 41 hX ic_2 dX12_begins_41 ?_
    refine w_icmp_ne (tgt := 50) 42 hX dX12_begins_42 (by decide) (fun c2 => ?_) (fun c2 => ?_)
    · have h := ie h c2
      refine w_bipush 10 50 hX ib_10 dX12_begins_50 ?_
      exact w_sub [] rfl (bX12_begins_146_52 hX hR (u 146 18) 10 h)
    · have h := it h c2
      refine w_bipush 8 45 hX ib_8 dX12_begins_45 ?_
      refine w_goto (tgt := 52) 47 hX (by decide) dX12_begins_47 ?_
      exact w_sub [] rfl (bX12_begins_146_52 hX hR (u 146 18) 8 h)
  · have h := it h c1
    refine w_aload_n 0 8 hX rfl rfl dX12_begins_8 ?_
    refine w_getI (j := 18) 9 hX CI_12 s_146 rfl fl_X12_170 rfl dX12_begins_9 ?_
    refine w_iconst 2 12 hX ic_2 dX12_begins_12 ?_
    refine w_icmp_ne (tgt := 31) 13 hX dX12_begins_13 (by decide) (fun c3 => ?_) (fun c3 => ?_)
    · have h := ie h c3
      refine w_iconst 0 31 hX ic_0 dX12_begins_31 ?_
      exact w_zret 32 hX hR (by decide) dX12_begins_32 (by cases h; rfl)
    · have h := it h c3
      refine w_aload_n 0 16 hX rfl rfl dX12_begins_16 ?_
      refine w_aload_n 0 17 hX rfl rfl dX12_begins_17 ?_
      refine w_getI (j := 20) 18 hX CI_12 s_146 rfl fl_X12_182 rfl dX12_begins_18 ?_
      obtain ⟨x4, gx4, h⟩ := o_bind h
      refine w_invVi (av := [.int (u 146 20)]) (st := []) 21 hX CI_12 s_146 rfl mv_yX12_isMan mi_yX12_isMan ml_X12_70 (CX12_isMan_146 (u 146 20) u gx4) rfl (by decide) (Nat.le_of_ble_eq_true rfl) (Nat.le_refl _) (Nat.le_refl _) dX12_begins_21 ?_
      refine w_if_eq (tgt := 31) 24 hX dX12_begins_24 (by decide) (fun c5 => ?_) (fun c5 => ?_)
      · have h := it h c5
        refine w_iconst 0 31 hX ic_0 dX12_begins_31 ?_
        exact w_zret 32 hX hR (by decide) dX12_begins_32 (by cases h; rfl)
      · have h := ie h c5
        refine w_iconst 1 27 hX ic_1 dX12_begins_27 ?_
        refine w_goto (tgt := 32) 28 hX (by decide) dX12_begins_28 ?_
        exact w_zret 32 hX hR (by decide) dX12_begins_32 (by cases h; rfl))
def FX12_bad_146 (p1 : Int32) (u : Mem) : Option (Int32 × Mem) :=
  (some (mupd u 146 21 p1)).bind fun u1 => (some (mupd u1 146 22 (u1 146 19))).bind fun u2 => some (0, u2)
theorem CX12_bad_146 {G : Gt} (p1 : Int32) (u : Mem) {v : Int32} {u' : Mem} (h : FX12_bad_146 p1 u = some (v, u')) : CT G yX12_bad cX12_bad 2 (some .boolean) 1 [.ref 146, .int p1] SH RHO u (some (.int v), SH, RHO, u') :=
  ct_of (by decide) rfl (Nat.le_of_ble_eq_true rfl) (Nat.le_refl _) (Nat.le_refl _) (fun X hX hR => by
  unfold FX12_bad_146 at h
  refine w_aload_n 0 0 hX rfl rfl dX12_bad_0 ?_
  refine w_iload_n 1 1 hX rfl rfl dX12_bad_1 ?_
  obtain ⟨u1, gu1, h⟩ := o_bind h
  refine w_putI (j := 21) 2 hX CI_12 s_146 rfl fl_X12_185 rfl rfl rfl rfl dX12_bad_2 ?_
  rw [Option.some.inj gu1]
  refine w_aload_n 0 5 hX rfl rfl dX12_bad_5 ?_
  refine w_aload_n 0 6 hX rfl rfl dX12_bad_6 ?_
  refine w_getI (j := 19) 7 hX CI_12 s_146 rfl fl_X12_86 rfl dX12_bad_7 ?_
  obtain ⟨u2, gu2, h⟩ := o_bind h
  refine w_putI (j := 22) 10 hX CI_12 s_146 rfl fl_X12_188 rfl rfl rfl rfl dX12_bad_10 ?_
  rw [Option.some.inj gu2]
  refine w_iconst 0 13 hX ic_0 dX12_bad_13 ?_
  exact w_zret 14 hX hR (by decide) dX12_bad_14 (by cases h; rfl))
def FX12_need_146 (p1 : Int32) (u : Mem) : Option (Int32 × Mem) :=
  (if (u 146 18) = p1 then ((FX12_next0_146 u).bind fun u3 => some (1, u3)) else (bnd2 (FX12_bad_146 1 u) fun x4 u5 => (bchk x4).bind fun x6 => some (x6, u5)))
theorem CX12_need_146 {G : Gt} (p1 : Int32) (u : Mem) {v : Int32} {u' : Mem} (h : FX12_need_146 p1 u = some (v, u')) : CT G yX12_need cX12_need 2 (some .boolean) 12 [.ref 146, .int p1] SH RHO u (some (.int v), SH, RHO, u') :=
  ct_of (by decide) rfl (Nat.le_of_ble_eq_true rfl) (Nat.le_refl _) (Nat.le_refl _) (fun X hX hR => by
  unfold FX12_need_146 at h
  refine w_aload_n 0 0 hX rfl rfl dX12_need_0 ?_
  refine w_getI (j := 18) 1 hX CI_12 s_146 rfl fl_X12_170 rfl dX12_need_1 ?_
  refine w_iload_n 1 4 hX rfl rfl dX12_need_4 ?_
  refine w_icmp_eq (tgt := 14) 5 hX dX12_need_5 (by decide) (fun c1 => ?_) (fun c1 => ?_)
  · have h := it h c1
    refine w_aload_n 0 14 hX rfl rfl dX12_need_14 ?_
    obtain ⟨u3, gu3, h⟩ := o_bind h
    refine w_invVv (av := []) (st := []) 15 hX CI_12 s_146 rfl mv_yX12_next0 mi_yX12_next0 ml_X12_194 (CX12_next0_146 u gu3) rfl (by decide) (Nat.le_of_ble_eq_true rfl) (Nat.le_refl _) (Nat.le_refl _) dX12_need_15 ?_
    refine w_iconst 1 18 hX ic_1 dX12_need_18 ?_
    exact w_zret 19 hX hR (by decide) dX12_need_19 (by cases h; rfl)
  · have h := ie h c1
    refine w_aload_n 0 8 hX rfl rfl dX12_need_8 ?_
    refine w_iconst 1 9 hX ic_1 dX12_need_9 ?_
    obtain ⟨x4, u5, gx4, h⟩ := o_bnd2 h
    refine w_invVi (av := [.int 1]) (st := []) 10 hX CI_12 s_146 rfl mv_yX12_bad mi_yX12_bad ml_X12_191 (CX12_bad_146 1 u gx4) rfl (by decide) (Nat.le_of_ble_eq_true rfl) (Nat.le_refl _) (Nat.le_refl _) dX12_need_10 ?_
    obtain ⟨x6, gx6, h⟩ := o_bind h
    obtain ⟨jx6, nx6, mx6⟩ := bchk_ok gx6
    rw [jx6]
    exact w_zret 13 hX hR nx6 dX12_need_13 (by cases h; rfl))
def FX12_number_146 (p1 p2 : Int32) (u : Mem) : Option (Int32 × Mem) :=
  (if (u 146 18) = 2 then ((FX12_isIn (u 146 20) p1 p2).bind fun x2 => (if x2 = 0 then (bnd2 (FX12_bad_146 2 u) fun x7 u8 => (bchk x7).bind fun x9 => some (x9, u8)) else ((some (mupd u 146 26 (u 146 20))).bind fun u4 => (FX12_next0_146 u4).bind fun u6 => some (1, u6)))) else (bnd2 (FX12_bad_146 1 u) fun x10 u11 => (bchk x10).bind fun x12 => some (x12, u11)))
theorem CX12_number_146 {G : Gt} (p1 p2 : Int32) (u : Mem) {v : Int32} {u' : Mem} (h : FX12_number_146 p1 p2 u = some (v, u')) : CT G yX12_number cX12_number 3 (some .boolean) 12 [.ref 146, .int p1, .int p2] SH RHO u (some (.int v), SH, RHO, u') :=
  ct_of (by decide) rfl (Nat.le_of_ble_eq_true rfl) (Nat.le_refl _) (Nat.le_refl _) (fun X hX hR => by
  unfold FX12_number_146 at h
  refine w_aload_n 0 0 hX rfl rfl dX12_number_0 ?_
  refine w_getI (j := 18) 1 hX CI_12 s_146 rfl fl_X12_170 rfl dX12_number_1 ?_
  refine w_iconst 2 4 hX ic_2 dX12_number_4 ?_
  refine w_icmp_eq (tgt := 14) 5 hX dX12_number_5 (by decide) (fun c1 => ?_) (fun c1 => ?_)
  · have h := it h c1
    refine w_aload_n 0 14 hX rfl rfl dX12_number_14 ?_
    refine w_getI (j := 20) 15 hX CI_12 s_146 rfl fl_X12_182 rfl dX12_number_15 ?_
    refine w_iload_n 1 18 hX rfl rfl dX12_number_18 ?_
    refine w_iload_n 2 19 hX rfl rfl dX12_number_19 ?_
    obtain ⟨x2, gx2, h⟩ := o_bind h
    refine w_invSi (av := [.int (u 146 20), .int p1, .int p2]) (st := []) 20 hX ms_yX12_isIn mi_yX12_isIn ml_X12_54 (CX12_isIn (u 146 20) p1 p2 u gx2) rfl (by decide) (Nat.le_of_ble_eq_true rfl) (Nat.le_refl _) (Nat.le_refl _) dX12_number_20 ?_
    refine w_if_ne (tgt := 32) 23 hX dX12_number_23 (by decide) (fun c3 => ?_) (fun c3 => ?_)
    · have h := ie h c3
      refine w_aload_n 0 32 hX rfl rfl dX12_number_32 ?_
      refine w_aload_n 0 33 hX rfl rfl dX12_number_33 ?_
      refine w_getI (j := 20) 34 hX CI_12 s_146 rfl fl_X12_182 rfl dX12_number_34 ?_
      obtain ⟨u4, gu4, h⟩ := o_bind h
      refine w_putI (j := 26) 37 hX CI_12 s_146 rfl fl_X12_238 rfl rfl rfl rfl dX12_number_37 ?_
      rw [Option.some.inj gu4]
      refine w_aload_n 0 40 hX rfl rfl dX12_number_40 ?_
      obtain ⟨u6, gu6, h⟩ := o_bind h
      refine w_invVv (av := []) (st := []) 41 hX CI_12 s_146 rfl mv_yX12_next0 mi_yX12_next0 ml_X12_194 (CX12_next0_146 u4 gu6) rfl (by decide) (Nat.le_of_ble_eq_true rfl) (Nat.le_refl _) (Nat.le_refl _) dX12_number_41 ?_
      refine w_iconst 1 44 hX ic_1 dX12_number_44 ?_
      exact w_zret 45 hX hR (by decide) dX12_number_45 (by cases h; rfl)
    · have h := it h c3
      refine w_aload_n 0 26 hX rfl rfl dX12_number_26 ?_
      refine w_iconst 2 27 hX ic_2 dX12_number_27 ?_
      obtain ⟨x7, u8, gx7, h⟩ := o_bnd2 h
      refine w_invVi (av := [.int 2]) (st := []) 28 hX CI_12 s_146 rfl mv_yX12_bad mi_yX12_bad ml_X12_191 (CX12_bad_146 2 u gx7) rfl (by decide) (Nat.le_of_ble_eq_true rfl) (Nat.le_refl _) (Nat.le_refl _) dX12_number_28 ?_
      obtain ⟨x9, gx9, h⟩ := o_bind h
      obtain ⟨jx9, nx9, mx9⟩ := bchk_ok gx9
      rw [jx9]
      exact w_zret 31 hX hR nx9 dX12_number_31 (by cases h; rfl)
  · have h := ie h c1
    refine w_aload_n 0 8 hX rfl rfl dX12_number_8 ?_
    refine w_iconst 1 9 hX ic_1 dX12_number_9 ?_
    obtain ⟨x10, u11, gx10, h⟩ := o_bnd2 h
    refine w_invVi (av := [.int 1]) (st := []) 10 hX CI_12 s_146 rfl mv_yX12_bad mi_yX12_bad ml_X12_191 (CX12_bad_146 1 u gx10) rfl (by decide) (Nat.le_of_ble_eq_true rfl) (Nat.le_refl _) (Nat.le_refl _) dX12_number_10 ?_
    obtain ⟨x12, gx12, h⟩ := o_bind h
    obtain ⟨jx12, nx12, mx12⟩ := bchk_ok gx12
    rw [jx12]
    exact w_zret 13 hX hR nx12 dX12_number_13 (by cases h; rfl))
def FX12_anOrder_146_b61 (u : Mem) : Option (Int32 × Mem) :=
  (wrA u 153 48 ((3 * (u 146 15)) + 1) (u 146 18)).bind fun u1 => (FX12_next0_146 u1).bind fun u3 => bnd2 (FX12_number_146 0 1 u3) fun x4 u5 => (if x4 = 0 then (some (0, u5)) else ((wrA u5 153 48 ((3 * (u5 146 15)) + 2) (u5 146 26)).bind fun u7 => bnd2 (FX12_need_146 159 u7) fun x8 u9 => (bchk x8).bind fun x10 => some (x10, u9)))
theorem bX12_anOrder_146_61 {G : Gt} {X : Xt} {v : Int32} {u' : Mem} (hX : CxOk G X cX12_anOrder 1 RX12 (some (.int v), SH, RHO, u') 13) (hR : CxRet G X (some .boolean) (some (.int v), SH, RHO, u')) (u : Mem) (h : FX12_anOrder_146_b61 u = some (v, u')) : WM G X 61 [(0, .ref 146)] [] SH RHO u := by
  unfold FX12_anOrder_146_b61 at h
  refine w_aload_n 0 61 hX rfl rfl dX12_anOrder_61 ?_
  refine w_getR 62 hX CI_12 s_146 rfl r_146_8 fl_X12_28 rfl dX12_anOrder_62 ?_
  refine w_iconst 3 65 hX ic_3 dX12_anOrder_65 ?_
  refine w_aload_n 0 66 hX rfl rfl dX12_anOrder_66 ?_
  refine w_getI (j := 15) 67 hX CI_12 s_146 rfl fl_X12_245 rfl dX12_anOrder_67 ?_
  refine w_imul 70 hX dX12_anOrder_70 ?_
  refine w_iconst 1 71 hX ic_1 dX12_anOrder_71 ?_
  refine w_iadd 72 hX dX12_anOrder_72 ?_
  refine w_aload_n 0 73 hX rfl rfl dX12_anOrder_73 ?_
  refine w_getI (j := 18) 74 hX CI_12 s_146 rfl fl_X12_170 rfl dX12_anOrder_74 ?_
  obtain ⟨u1, gu1, h⟩ := o_bind h
  refine w_iast 77 hX s_153 gu1 dX12_anOrder_77 ?_
  refine w_aload_n 0 78 hX rfl rfl dX12_anOrder_78 ?_
  obtain ⟨u3, gu3, h⟩ := o_bind h
  refine w_invVv (av := []) (st := []) 79 hX CI_12 s_146 rfl mv_yX12_next0 mi_yX12_next0 ml_X12_194 (CX12_next0_146 u1 gu3) rfl (by decide) (Nat.le_of_ble_eq_true rfl) (Nat.le_refl _) (Nat.le_refl _) dX12_anOrder_79 ?_
  refine w_aload_n 0 82 hX rfl rfl dX12_anOrder_82 ?_
  refine w_iconst 0 83 hX ic_0 dX12_anOrder_83 ?_
  refine w_iconst 1 84 hX ic_1 dX12_anOrder_84 ?_
  obtain ⟨x4, u5, gx4, h⟩ := o_bnd2 h
  refine w_invVi (av := [.int 0, .int 1]) (st := []) 85 hX CI_12 s_146 rfl mv_yX12_number mi_yX12_number ml_X12_241 (CX12_number_146 0 1 u3 gx4) rfl (by decide) (Nat.le_of_ble_eq_true rfl) (Nat.le_refl _) (Nat.le_refl _) dX12_anOrder_85 ?_
  refine w_if_ne (tgt := 93) 88 hX dX12_anOrder_88 (by decide) (fun c6 => ?_) (fun c6 => ?_)
  · have h := ie h c6
    refine w_aload_n 0 93 hX rfl rfl dX12_anOrder_93 ?_
    refine w_getR 94 hX CI_12 s_146 rfl r_146_8 fl_X12_28 rfl dX12_anOrder_94 ?_
    refine w_iconst 3 97 hX ic_3 dX12_anOrder_97 ?_
    refine w_aload_n 0 98 hX rfl rfl dX12_anOrder_98 ?_
    refine w_getI (j := 15) 99 hX CI_12 s_146 rfl fl_X12_245 rfl dX12_anOrder_99 ?_
    refine w_imul 102 hX dX12_anOrder_102 ?_
    refine w_iconst 2 103 hX ic_2 dX12_anOrder_103 ?_
    refine w_iadd 104 hX dX12_anOrder_104 ?_
    refine w_aload_n 0 105 hX rfl rfl dX12_anOrder_105 ?_
    refine w_getI (j := 26) 106 hX CI_12 s_146 rfl fl_X12_238 rfl dX12_anOrder_106 ?_
    obtain ⟨u7, gu7, h⟩ := o_bind h
    refine w_iast 109 hX s_153 gu7 dX12_anOrder_109 ?_
    refine w_aload_n 0 110 hX rfl rfl dX12_anOrder_110 ?_
    refine w_sipush 159 111 hX isp_159 dX12_anOrder_111 ?_
    obtain ⟨x8, u9, gx8, h⟩ := o_bnd2 h
    refine w_invVi (av := [.int 159]) (st := []) 114 hX CI_12 s_146 rfl mv_yX12_need mi_yX12_need ml_X12_226 (CX12_need_146 159 u7 gx8) rfl (by decide) (Nat.le_of_ble_eq_true rfl) (Nat.le_refl _) (Nat.le_refl _) dX12_anOrder_114 ?_
    obtain ⟨x10, gx10, h⟩ := o_bind h
    obtain ⟨jx10, nx10, mx10⟩ := bchk_ok gx10
    rw [jx10]
    exact w_zret 117 hX hR nx10 dX12_anOrder_117 (by cases h; rfl)
  · have h := it h c6
    refine w_iconst 0 91 hX ic_0 dX12_anOrder_91 ?_
    exact w_zret 92 hX hR (by decide) dX12_anOrder_92 (by cases h; rfl)
def FX12_anOrder_146 (u : Mem) : Option (Int32 × Mem) :=
  bnd2 (FX12_need_146 10 u) fun x1 u2 => (if x1 = 0 then (some (0, u2)) else (bnd2 (FX12_number_146 0 999 u2) fun x4 u5 => (if x4 = 0 then (some (0, u5)) else ((wrA u5 153 48 (3 * (u5 146 15)) (u5 146 26)).bind fun u7 => (if (u7 146 18) = 11 then (FX12_anOrder_146_b61 u7) else ((if (u7 146 18) = 12 then (FX12_anOrder_146_b61 u7) else (bnd2 (FX12_bad_146 1 u7) fun x10 u11 => (bchk x10).bind fun x12 => some (x12, u11)))))))))
theorem CX12_anOrder_146 {G : Gt} (u : Mem) {v : Int32} {u' : Mem} (h : FX12_anOrder_146 u = some (v, u')) : CT G yX12_anOrder cX12_anOrder 1 (some .boolean) 13 [.ref 146] SH RHO u (some (.int v), SH, RHO, u') :=
  ct_of (by decide) rfl (Nat.le_of_ble_eq_true rfl) (Nat.le_refl _) (Nat.le_refl _) (fun X hX hR => by
  unfold FX12_anOrder_146 at h
  refine w_aload_n 0 0 hX rfl rfl dX12_anOrder_0 ?_
  refine w_bipush 10 1 hX ib_10 dX12_anOrder_1 ?_
  obtain ⟨x1, u2, gx1, h⟩ := o_bnd2 h
  refine w_invVi (av := [.int 10]) (st := []) 3 hX CI_12 s_146 rfl mv_yX12_need mi_yX12_need ml_X12_226 (CX12_need_146 10 u gx1) rfl (by decide) (Nat.le_of_ble_eq_true rfl) (Nat.le_refl _) (Nat.le_refl _) dX12_anOrder_3 ?_
  refine w_if_eq (tgt := 20) 6 hX dX12_anOrder_6 (by decide) (fun c3 => ?_) (fun c3 => ?_)
  · have h := it h c3
    refine w_iconst 0 20 hX ic_0 dX12_anOrder_20 ?_
    exact w_zret 21 hX hR (by decide) dX12_anOrder_21 (by cases h; rfl)
  · have h := ie h c3
    refine w_aload_n 0 9 hX rfl rfl dX12_anOrder_9 ?_
    refine w_iconst 0 10 hX ic_0 dX12_anOrder_10 ?_
    refine w_sipush 999 11 hX isp_999 dX12_anOrder_11 ?_
    obtain ⟨x4, u5, gx4, h⟩ := o_bnd2 h
    refine w_invVi (av := [.int 0, .int 999]) (st := []) 14 hX CI_12 s_146 rfl mv_yX12_number mi_yX12_number ml_X12_241 (CX12_number_146 0 999 u2 gx4) rfl (by decide) (Nat.le_of_ble_eq_true rfl) (Nat.le_refl _) (Nat.le_refl _) dX12_anOrder_14 ?_
    refine w_if_ne (tgt := 22) 17 hX dX12_anOrder_17 (by decide) (fun c6 => ?_) (fun c6 => ?_)
    · have h := ie h c6
      refine w_aload_n 0 22 hX rfl rfl dX12_anOrder_22 ?_
      refine w_getR 23 hX CI_12 s_146 rfl r_146_8 fl_X12_28 rfl dX12_anOrder_23 ?_
      refine w_iconst 3 26 hX ic_3 dX12_anOrder_26 ?_
      refine w_aload_n 0 27 hX rfl rfl dX12_anOrder_27 ?_
      refine w_getI (j := 15) 28 hX CI_12 s_146 rfl fl_X12_245 rfl dX12_anOrder_28 ?_
      refine w_imul 31 hX dX12_anOrder_31 ?_
      refine w_aload_n 0 32 hX rfl rfl dX12_anOrder_32 ?_
      refine w_getI (j := 26) 33 hX CI_12 s_146 rfl fl_X12_238 rfl dX12_anOrder_33 ?_
      obtain ⟨u7, gu7, h⟩ := o_bind h
      refine w_iast 36 hX s_153 gu7 dX12_anOrder_36 ?_
      refine w_aload_n 0 37 hX rfl rfl dX12_anOrder_37 ?_
      refine w_getI (j := 18) 38 hX CI_12 s_146 rfl fl_X12_170 rfl dX12_anOrder_38 ?_
      refine w_bipush 11 41 hX ib_11 dX12_anOrder_41 ?_
      refine w_icmp_eq (tgt := 61) 43 hX dX12_anOrder_43 (by decide) (fun c8 => ?_) (fun c8 => ?_)
      · have h := it h c8
        exact bX12_anOrder_146_61 hX hR u7 h
      · have h := ie h c8
        refine w_aload_n 0 46 hX rfl rfl dX12_anOrder_46 ?_
        refine w_getI (j := 18) 47 hX CI_12 s_146 rfl fl_X12_170 rfl dX12_anOrder_47 ?_
        refine w_bipush 12 50 hX ib_12 dX12_anOrder_50 ?_
        refine w_icmp_eq (tgt := 61) 52 hX dX12_anOrder_52 (by decide) (fun c9 => ?_) (fun c9 => ?_)
        · have h := it h c9
          exact bX12_anOrder_146_61 hX hR u7 h
        · have h := ie h c9
          refine w_aload_n 0 55 hX rfl rfl dX12_anOrder_55 ?_
          refine w_iconst 1 56 hX ic_1 dX12_anOrder_56 ?_
          obtain ⟨x10, u11, gx10, h⟩ := o_bnd2 h
          refine w_invVi (av := [.int 1]) (st := []) 57 hX CI_12 s_146 rfl mv_yX12_bad mi_yX12_bad ml_X12_191 (CX12_bad_146 1 u7 gx10) rfl (by decide) (Nat.le_of_ble_eq_true rfl) (Nat.le_refl _) (Nat.le_refl _) dX12_anOrder_57 ?_
          obtain ⟨x12, gx12, h⟩ := o_bind h
          obtain ⟨jx12, nx12, mx12⟩ := bchk_ok gx12
          rw [jx12]
          exact w_zret 60 hX hR nx12 dX12_anOrder_60 (by cases h; rfl)
    · have h := it h c6
      refine w_iconst 0 20 hX ic_0 dX12_anOrder_20 ?_
      exact w_zret 21 hX hR (by decide) dX12_anOrder_21 (by cases h; rfl))
def FX12_aWeight_146 (u : Mem) : Option (Int32 × Mem) :=
  bnd2 (FX12_need_146 8 u) fun x1 u2 => (if x1 = 0 then (some (0, u2)) else (bnd2 (FX12_number_146 0 7 u2) fun x4 u5 => (if x4 = 0 then (some (0, u5)) else ((wrA u5 153 48 (2 * (u5 146 15)) (u5 146 26)).bind fun u7 => bnd2 (FX12_need_146 9 u7) fun x8 u9 => (if x8 = 0 then (some (0, u9)) else (bnd2 (FX12_number_146 0 99 u9) fun x11 u12 => (if x11 = 0 then (some (0, u12)) else ((wrA u12 153 48 ((2 * (u12 146 15)) + 1) (u12 146 26)).bind fun u14 => bnd2 (FX12_need_146 159 u14) fun x15 u16 => (bchk x15).bind fun x17 => some (x17, u16)))))))))
theorem CX12_aWeight_146 {G : Gt} (u : Mem) {v : Int32} {u' : Mem} (h : FX12_aWeight_146 u = some (v, u')) : CT G yX12_aWeight cX12_aWeight 1 (some .boolean) 13 [.ref 146] SH RHO u (some (.int v), SH, RHO, u') :=
  ct_of (by decide) rfl (Nat.le_of_ble_eq_true rfl) (Nat.le_refl _) (Nat.le_refl _) (fun X hX hR => by
  unfold FX12_aWeight_146 at h
  refine w_aload_n 0 0 hX rfl rfl dX12_aWeight_0 ?_
  refine w_bipush 8 1 hX ib_8 dX12_aWeight_1 ?_
  obtain ⟨x1, u2, gx1, h⟩ := o_bnd2 h
  refine w_invVi (av := [.int 8]) (st := []) 3 hX CI_12 s_146 rfl mv_yX12_need mi_yX12_need ml_X12_226 (CX12_need_146 8 u gx1) rfl (by decide) (Nat.le_of_ble_eq_true rfl) (Nat.le_refl _) (Nat.le_refl _) dX12_aWeight_3 ?_
  refine w_if_eq (tgt := 19) 6 hX dX12_aWeight_6 (by decide) (fun c3 => ?_) (fun c3 => ?_)
  · have h := it h c3
    refine w_iconst 0 19 hX ic_0 dX12_aWeight_19 ?_
    exact w_zret 20 hX hR (by decide) dX12_aWeight_20 (by cases h; rfl)
  · have h := ie h c3
    refine w_aload_n 0 9 hX rfl rfl dX12_aWeight_9 ?_
    refine w_iconst 0 10 hX ic_0 dX12_aWeight_10 ?_
    refine w_bipush 7 11 hX ib_7 dX12_aWeight_11 ?_
    obtain ⟨x4, u5, gx4, h⟩ := o_bnd2 h
    refine w_invVi (av := [.int 0, .int 7]) (st := []) 13 hX CI_12 s_146 rfl mv_yX12_number mi_yX12_number ml_X12_241 (CX12_number_146 0 7 u2 gx4) rfl (by decide) (Nat.le_of_ble_eq_true rfl) (Nat.le_refl _) (Nat.le_refl _) dX12_aWeight_13 ?_
    refine w_if_ne (tgt := 21) 16 hX dX12_aWeight_16 (by decide) (fun c6 => ?_) (fun c6 => ?_)
    · have h := ie h c6
      refine w_aload_n 0 21 hX rfl rfl dX12_aWeight_21 ?_
      refine w_getR 22 hX CI_12 s_146 rfl r_146_8 fl_X12_28 rfl dX12_aWeight_22 ?_
      refine w_iconst 2 25 hX ic_2 dX12_aWeight_25 ?_
      refine w_aload_n 0 26 hX rfl rfl dX12_aWeight_26 ?_
      refine w_getI (j := 15) 27 hX CI_12 s_146 rfl fl_X12_245 rfl dX12_aWeight_27 ?_
      refine w_imul 30 hX dX12_aWeight_30 ?_
      refine w_aload_n 0 31 hX rfl rfl dX12_aWeight_31 ?_
      refine w_getI (j := 26) 32 hX CI_12 s_146 rfl fl_X12_238 rfl dX12_aWeight_32 ?_
      obtain ⟨u7, gu7, h⟩ := o_bind h
      refine w_iast 35 hX s_153 gu7 dX12_aWeight_35 ?_
      refine w_aload_n 0 36 hX rfl rfl dX12_aWeight_36 ?_
      refine w_bipush 9 37 hX ib_9 dX12_aWeight_37 ?_
      obtain ⟨x8, u9, gx8, h⟩ := o_bnd2 h
      refine w_invVi (av := [.int 9]) (st := []) 39 hX CI_12 s_146 rfl mv_yX12_need mi_yX12_need ml_X12_226 (CX12_need_146 9 u7 gx8) rfl (by decide) (Nat.le_of_ble_eq_true rfl) (Nat.le_refl _) (Nat.le_refl _) dX12_aWeight_39 ?_
      refine w_if_eq (tgt := 55) 42 hX dX12_aWeight_42 (by decide) (fun c10 => ?_) (fun c10 => ?_)
      · have h := it h c10
        refine w_iconst 0 55 hX ic_0 dX12_aWeight_55 ?_
        exact w_zret 56 hX hR (by decide) dX12_aWeight_56 (by cases h; rfl)
      · have h := ie h c10
        refine w_aload_n 0 45 hX rfl rfl dX12_aWeight_45 ?_
        refine w_iconst 0 46 hX ic_0 dX12_aWeight_46 ?_
        refine w_bipush 99 47 hX ib_99 dX12_aWeight_47 ?_
        obtain ⟨x11, u12, gx11, h⟩ := o_bnd2 h
        refine w_invVi (av := [.int 0, .int 99]) (st := []) 49 hX CI_12 s_146 rfl mv_yX12_number mi_yX12_number ml_X12_241 (CX12_number_146 0 99 u9 gx11) rfl (by decide) (Nat.le_of_ble_eq_true rfl) (Nat.le_refl _) (Nat.le_refl _) dX12_aWeight_49 ?_
        refine w_if_ne (tgt := 57) 52 hX dX12_aWeight_52 (by decide) (fun c13 => ?_) (fun c13 => ?_)
        · have h := ie h c13
          refine w_aload_n 0 57 hX rfl rfl dX12_aWeight_57 ?_
          refine w_getR 58 hX CI_12 s_146 rfl r_146_8 fl_X12_28 rfl dX12_aWeight_58 ?_
          refine w_iconst 2 61 hX ic_2 dX12_aWeight_61 ?_
          refine w_aload_n 0 62 hX rfl rfl dX12_aWeight_62 ?_
          refine w_getI (j := 15) 63 hX CI_12 s_146 rfl fl_X12_245 rfl dX12_aWeight_63 ?_
          refine w_imul 66 hX dX12_aWeight_66 ?_
          refine w_iconst 1 67 hX ic_1 dX12_aWeight_67 ?_
          refine w_iadd 68 hX dX12_aWeight_68 ?_
          refine w_aload_n 0 69 hX rfl rfl dX12_aWeight_69 ?_
          refine w_getI (j := 26) 70 hX CI_12 s_146 rfl fl_X12_238 rfl dX12_aWeight_70 ?_
          obtain ⟨u14, gu14, h⟩ := o_bind h
          refine w_iast 73 hX s_153 gu14 dX12_aWeight_73 ?_
          refine w_aload_n 0 74 hX rfl rfl dX12_aWeight_74 ?_
          refine w_sipush 159 75 hX isp_159 dX12_aWeight_75 ?_
          obtain ⟨x15, u16, gx15, h⟩ := o_bnd2 h
          refine w_invVi (av := [.int 159]) (st := []) 78 hX CI_12 s_146 rfl mv_yX12_need mi_yX12_need ml_X12_226 (CX12_need_146 159 u14 gx15) rfl (by decide) (Nat.le_of_ble_eq_true rfl) (Nat.le_refl _) (Nat.le_refl _) dX12_aWeight_78 ?_
          obtain ⟨x17, gx17, h⟩ := o_bind h
          obtain ⟨jx17, nx17, mx17⟩ := bchk_ok gx17
          rw [jx17]
          exact w_zret 81 hX hR nx17 dX12_aWeight_81 (by cases h; rfl)
        · have h := it h c13
          refine w_iconst 0 55 hX ic_0 dX12_aWeight_55 ?_
          exact w_zret 56 hX hR (by decide) dX12_aWeight_56 (by cases h; rfl)
    · have h := it h c6
      refine w_iconst 0 19 hX ic_0 dX12_aWeight_19 ?_
      exact w_zret 20 hX hR (by decide) dX12_aWeight_20 (by cases h; rfl))
def FX12_another_146_b22 (u : Mem) : Option (Int32 × Mem) :=
  bnd2 (FX12_number_146 0 ((u 147 78) - 1) u) fun x1 u2 => (if x1 = 0 then (some (0, u2)) else ((rdA u2 153 48 ((2 * (u2 146 15)) + 1)).bind fun x4 => (wrA u2 153 48 ((2 * (u2 146 15)) + 1) (x4 ||| ((1 : Int32) <<< ((u2 146 26) &&& 31)))).bind fun u5 => some (1, u5)))
theorem bX12_another_146_22 {G : Gt} {X : Xt} {v : Int32} {u' : Mem} (hX : CxOk G X cX12_another 2 RX12 (some (.int v), SH, RHO, u') 13) (hR : CxRet G X (some .boolean) (some (.int v), SH, RHO, u')) (u : Mem) (h : FX12_another_146_b22 u = some (v, u')) : WM G X 22 [(0, .ref 146)] [] SH RHO u := by
  unfold FX12_another_146_b22 at h
  refine w_aload_n 0 22 hX rfl rfl dX12_another_22 ?_
  refine w_iconst 0 23 hX ic_0 dX12_another_23 ?_
  refine w_aload_n 0 24 hX rfl rfl dX12_another_24 ?_
  refine w_getR 25 hX CI_12 s_146 rfl r_146_0 fl_X12_7 rfl dX12_another_25 ?_
  refine w_bipush 78 28 hX ib_78 dX12_another_28 ?_
  refine w_iald 30 hX s_147 (rdK 78 78 n_78 (by decide) (by decide)) dX12_another_30 ?_
  refine w_iconst 1 31 hX ic_1 dX12_another_31 ?_
  refine w_isub 32 hX dX12_another_32 ?_
  obtain ⟨x1, u2, gx1, h⟩ := o_bnd2 h
  refine w_invVi (av := [.int 0, .int ((u 147 78) - 1)]) (st := []) 33 hX CI_12 s_146 rfl mv_yX12_number mi_yX12_number ml_X12_241 (CX12_number_146 0 ((u 147 78) - 1) u gx1) rfl (by decide) (Nat.le_of_ble_eq_true rfl) (Nat.le_refl _) (Nat.le_refl _) dX12_another_33 ?_
  refine w_if_ne (tgt := 41) 36 hX dX12_another_36 (by decide) (fun c3 => ?_) (fun c3 => ?_)
  · have h := ie h c3
    refine w_aload_n 0 41 hX rfl rfl dX12_another_41 ?_
    refine w_getR 42 hX CI_12 s_146 rfl r_146_8 fl_X12_28 rfl dX12_another_42 ?_
    refine w_iconst 2 45 hX ic_2 dX12_another_45 ?_
    refine w_aload_n 0 46 hX rfl rfl dX12_another_46 ?_
    refine w_getI (j := 15) 47 hX CI_12 s_146 rfl fl_X12_245 rfl dX12_another_47 ?_
    refine w_imul 50 hX dX12_another_50 ?_
    refine w_iconst 1 51 hX ic_1 dX12_another_51 ?_
    refine w_iadd 52 hX dX12_another_52 ?_
    refine w_dup2 53 hX rfl rfl dX12_another_53 ?_
    obtain ⟨x4, gx4, h⟩ := o_bind h
    refine w_iald 54 hX s_153 gx4 dX12_another_54 ?_
    refine w_iconst 1 55 hX ic_1 dX12_another_55 ?_
    refine w_aload_n 0 56 hX rfl rfl dX12_another_56 ?_
    refine w_getI (j := 26) 57 hX CI_12 s_146 rfl fl_X12_238 rfl dX12_another_57 ?_
    refine w_ishl 60 hX dX12_another_60 ?_
    refine w_ior 61 hX dX12_another_61 ?_
    obtain ⟨u5, gu5, h⟩ := o_bind h
    refine w_iast 62 hX s_153 gu5 dX12_another_62 ?_
    refine w_iconst 1 63 hX ic_1 dX12_another_63 ?_
    exact w_zret 64 hX hR (by decide) dX12_another_64 (by cases h; rfl)
  · have h := it h c3
    refine w_iconst 0 39 hX ic_0 dX12_another_39 ?_
    exact w_zret 40 hX hR (by decide) dX12_another_40 (by cases h; rfl)
def FX12_another_146 (p1 : Int32) (u : Mem) : Option (Int32 × Mem) :=
  (if (u 146 18) = 2 then ((if (u 146 20) = p1 then (bnd2 (FX12_bad_146 2 u) fun x3 u4 => (bchk x3).bind fun x5 => some (x5, u4)) else (FX12_another_146_b22 u))) else (FX12_another_146_b22 u))
theorem CX12_another_146 {G : Gt} (p1 : Int32) (u : Mem) {v : Int32} {u' : Mem} (h : FX12_another_146 p1 u = some (v, u')) : CT G yX12_another cX12_another 2 (some .boolean) 13 [.ref 146, .int p1] SH RHO u (some (.int v), SH, RHO, u') :=
  ct_of (by decide) rfl (Nat.le_of_ble_eq_true rfl) (Nat.le_refl _) (Nat.le_refl _) (fun X hX hR => by
  unfold FX12_another_146 at h
  refine w_aload_n 0 0 hX rfl rfl dX12_another_0 ?_
  refine w_getI (j := 18) 1 hX CI_12 s_146 rfl fl_X12_170 rfl dX12_another_1 ?_
  refine w_iconst 2 4 hX ic_2 dX12_another_4 ?_
  refine w_icmp_ne (tgt := 22) 5 hX dX12_another_5 (by decide) (fun c1 => ?_) (fun c1 => ?_)
  · have h := ie h c1
    exact w_sub [0] rfl (bX12_another_146_22 hX hR u h)
  · have h := it h c1
    refine w_aload_n 0 8 hX rfl rfl dX12_another_8 ?_
    refine w_getI (j := 20) 9 hX CI_12 s_146 rfl fl_X12_182 rfl dX12_another_9 ?_
    refine w_iload_n 1 12 hX rfl rfl dX12_another_12 ?_
    refine w_icmp_ne (tgt := 22) 13 hX dX12_another_13 (by decide) (fun c2 => ?_) (fun c2 => ?_)
    · have h := ie h c2
      exact w_sub [0] rfl (bX12_another_146_22 hX hR u h)
    · have h := it h c2
      refine w_aload_n 0 16 hX rfl rfl dX12_another_16 ?_
      refine w_iconst 2 17 hX ic_2 dX12_another_17 ?_
      obtain ⟨x3, u4, gx3, h⟩ := o_bnd2 h
      refine w_invVi (av := [.int 2]) (st := []) 18 hX CI_12 s_146 rfl mv_yX12_bad mi_yX12_bad ml_X12_191 (CX12_bad_146 2 u gx3) rfl (by decide) (Nat.le_of_ble_eq_true rfl) (Nat.le_refl _) (Nat.le_refl _) dX12_another_18 ?_
      obtain ⟨x5, gx5, h⟩ := o_bind h
      obtain ⟨jx5, nx5, mx5⟩ := bchk_ok gx5
      rw [jx5]
      exact w_zret 21 hX hR nx5 dX12_another_21 (by cases h; rfl))
