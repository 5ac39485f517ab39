noncomputable def DL_texts_b605 (k492 : Nat → Int32 → Int32 → Nat → Int32 → Dm Int32) (l1 : Nat) (l2 : Int32) (l3 : Int32) (l4 : Nat) (l5 : Int32) (t0 : Nat) (t1 : Nat) : Dm Int32 :=
  dbind (dread (isC t1 14)) fun x1 => dbind (DJ4_append_15ec4 t1 2000013) fun x2 => dbind (dread (gfR l1 12 18)) fun x3 => dbind (dread (aald x3 l5)) fun x4 => dbind (dread (iald x4 2)) fun x5 => dbind (dread (isC x2 14)) fun x6 => dbind (DJ4_append_bf812 x2 x5) fun x7 => dbind (dread (isC x7 14)) fun x8 => dbind (DJ4_append_15ec4 x7 2000008) fun x9 => dbind (dread (isC x9 14)) fun x10 => dbind (DJ4_toString_0e30d x9) fun x11 => dbind (dread (isC t0 14)) fun x12 => dbind (DJ4_append_15ec4 t0 x11) fun x13 => k492 l1 l2 l3 l4 (l5 + 1)
theorem bDL_texts_605 {G : Gt} {X : Xt} {w' : Wd} {v : Int32} (hX : CxOk G X cL_texts 11 RL (some (.int v), w'.1, w'.2.1, w'.2.2) 94) (hR : CxRet G X (some .boolean) (some (.int v), w'.1, w'.2.1, w'.2.2)) {k492 : Nat → Int32 → Int32 → Nat → Int32 → Dm Int32} (hk492 : ∀ (l1 : Nat) (l2 : Int32) (l3 : Int32) (l4 : Nat) (l5 : Int32) (w : Wd), (k492 l1 l2 l3 l4 l5).1 w = some (v, w') → WM G X 492 [(0, .ref 0), (1, .ref l1), (2, .int l2), (3, .int l3), (4, .ref l4), (5, .int l5)] [] w.1 w.2.1 w.2.2) (l1 : Nat) (l2 : Int32) (l3 : Int32) (l4 : Nat) (l5 : Int32) (t0 : Nat) (t1 : Nat) (w : Wd) (h : (DL_texts_b605 k492 l1 l2 l3 l4 l5 t0 t1).1 w = some (v, w')) : WM G X 605 [(0, .ref 0), (1, .ref l1), (2, .int l2), (3, .int l3), (4, .ref l4), (5, .int l5)] [.ref 2000013, .ref t1, .ref t0] w.1 w.2.1 w.2.2 := by
  unfold DL_texts_b605 at h
  obtain ⟨x1, gx1, h⟩ := d_rd h
  obtain ⟨x2, wx2, gx2, h⟩ := d_bind h
  refine w_invVr (av := [.ref 2000013]) (st := [.ref t0]) 605 hX CI_14 (isC_ok gx1) rfl mv_yJ4_append_15ec4 mi_yJ4_append_15ec4 ml_L_65 (CDJ4_append_15ec4 t1 2000013 gx2) rfl (by decide) (Nat.le_of_ble_eq_true rfl) (d_le h).1 (d_le h).2 dL_texts_605 ?_
  refine w_aload_n 1 608 hX rfl rfl dL_texts_608 ?_
  obtain ⟨x3, gx3, h⟩ := d_rd h
  refine x_getRN 609 hX CI_12 gx3 rfl fl_L_94 rfl dL_texts_609 ?_
  refine w_iload 5 612 hX rfl dL_texts_612 ?_
  obtain ⟨x4, gx4, h⟩ := d_rd h
  refine x_aald 614 hX gx4 dL_texts_614 ?_
  refine w_iconst 2 615 hX ic_2 dL_texts_615 ?_
  obtain ⟨x5, gx5, h⟩ := d_rd h
  refine x_iald 616 hX gx5 dL_texts_616 ?_
  obtain ⟨x6, gx6, h⟩ := d_rd h
  obtain ⟨x7, wx7, gx7, h⟩ := d_bind h
  refine w_invVr (av := [.int x5]) (st := [.ref t0]) 617 hX CI_14 (isC_ok gx6) rfl mv_yJ4_append_bf812 mi_yJ4_append_bf812 ml_L_59 (CDJ4_append_bf812 x2 x5 gx7) rfl (by decide) (Nat.le_of_ble_eq_true rfl) (d_le h).1 (d_le h).2 dL_texts_617 ?_
  refine w_ldcs 8 620 hX (by decide) rfl rfl dL_texts_620 ?_
  obtain ⟨x8, gx8, h⟩ := d_rd h
  obtain ⟨x9, wx9, gx9, h⟩ := d_bind h
  refine w_invVr (av := [.ref 2000008]) (st := [.ref t0]) 622 hX CI_14 (isC_ok gx8) rfl mv_yJ4_append_15ec4 mi_yJ4_append_15ec4 ml_L_65 (CDJ4_append_15ec4 x7 2000008 gx9) rfl (by decide) (Nat.le_of_ble_eq_true rfl) (d_le h).1 (d_le h).2 dL_texts_622 ?_
  obtain ⟨x10, gx10, h⟩ := d_rd h
  obtain ⟨x11, wx11, gx11, h⟩ := d_bind h
  refine w_invVr (av := []) (st := [.ref t0]) 625 hX CI_14 (isC_ok gx10) rfl mv_yJ4_toString_0e30d mi_yJ4_toString_0e30d ml_L_70 (CDJ4_toString_0e30d x9 gx11) rfl (by decide) (Nat.le_of_ble_eq_true rfl) (d_le h).1 (d_le h).2 dL_texts_625 ?_
  obtain ⟨x12, gx12, h⟩ := d_rd h
  obtain ⟨x13, wx13, gx13, h⟩ := d_bind h
  refine w_invVr (av := [.ref x11]) (st := []) 628 hX CI_14 (isC_ok gx12) rfl mv_yJ4_append_15ec4 mi_yJ4_append_15ec4 ml_L_65 (CDJ4_append_15ec4 t0 x11 gx13) rfl (by decide) (Nat.le_of_ble_eq_true rfl) (d_le h).1 (d_le h).2 dL_texts_628 ?_
  refine w_pop 631 hX rfl dL_texts_631 ?_
  refine w_iinc (lv' := [(5, .int (l5 + 1)), (0, .ref 0), (1, .ref l1), (2, .int l2), (3, .int l3), (4, .ref l4)]) 632 5 hX dL_texts_632 rfl (inc_1 _) (by decide) rfl ?_
  refine w_goto (tgt := 492) 635 hX (by decide) dL_texts_635 ?_
  exact w_sub [1, 2, 3, 4, 5, 0] rfl (hk492 l1 l2 l3 l4 (l5 + 1) _ h)
noncomputable def DL_texts_b605a (k492 : Nat → Int32 → Int32 → Nat → Int32 → Dm Int32) (l1 : Nat) (l2 : Int32) (l3 : Int32) (l4 : Nat) (l5 : Int32) (t0 : Nat) (t1 : Nat) : Dm Int32 :=
  dbind (dread (isC t1 14)) fun x1 => dbind (DJ4_append_15ec4 t1 2000012) fun x2 => dbind (dread (gfR l1 12 18)) fun x3 => dbind (dread (aald x3 l5)) fun x4 => dbind (dread (iald x4 2)) fun x5 => dbind (dread (isC x2 14)) fun x6 => dbind (DJ4_append_bf812 x2 x5) fun x7 => dbind (dread (isC x7 14)) fun x8 => dbind (DJ4_append_15ec4 x7 2000008) fun x9 => dbind (dread (isC x9 14)) fun x10 => dbind (DJ4_toString_0e30d x9) fun x11 => dbind (dread (isC t0 14)) fun x12 => dbind (DJ4_append_15ec4 t0 x11) fun x13 => k492 l1 l2 l3 l4 (l5 + 1)
theorem bDL_texts_605a {G : Gt} {X : Xt} {w' : Wd} {v : Int32} (hX : CxOk G X cL_texts 11 RL (some (.int v), w'.1, w'.2.1, w'.2.2) 94) (hR : CxRet G X (some .boolean) (some (.int v), w'.1, w'.2.1, w'.2.2)) {k492 : Nat → Int32 → Int32 → Nat → Int32 → Dm Int32} (hk492 : ∀ (l1 : Nat) (l2 : Int32) (l3 : Int32) (l4 : Nat) (l5 : Int32) (w : Wd), (k492 l1 l2 l3 l4 l5).1 w = some (v, w') → WM G X 492 [(0, .ref 0), (1, .ref l1), (2, .int l2), (3, .int l3), (4, .ref l4), (5, .int l5)] [] w.1 w.2.1 w.2.2) (l1 : Nat) (l2 : Int32) (l3 : Int32) (l4 : Nat) (l5 : Int32) (t0 : Nat) (t1 : Nat) (w : Wd) (h : (DL_texts_b605a k492 l1 l2 l3 l4 l5 t0 t1).1 w = some (v, w')) : WM G X 605 [(0, .ref 0), (1, .ref l1), (2, .int l2), (3, .int l3), (4, .ref l4), (5, .int l5)] [.ref 2000012, .ref t1, .ref t0] w.1 w.2.1 w.2.2 := by
  unfold DL_texts_b605a at h
  obtain ⟨x1, gx1, h⟩ := d_rd h
  obtain ⟨x2, wx2, gx2, h⟩ := d_bind h
  refine w_invVr (av := [.ref 2000012]) (st := [.ref t0]) 605 hX CI_14 (isC_ok gx1) rfl mv_yJ4_append_15ec4 mi_yJ4_append_15ec4 ml_L_65 (CDJ4_append_15ec4 t1 2000012 gx2) rfl (by decide) (Nat.le_of_ble_eq_true rfl) (d_le h).1 (d_le h).2 dL_texts_605 ?_
  refine w_aload_n 1 608 hX rfl rfl dL_texts_608 ?_
  obtain ⟨x3, gx3, h⟩ := d_rd h
  refine x_getRN 609 hX CI_12 gx3 rfl fl_L_94 rfl dL_texts_609 ?_
  refine w_iload 5 612 hX rfl dL_texts_612 ?_
  obtain ⟨x4, gx4, h⟩ := d_rd h
  refine x_aald 614 hX gx4 dL_texts_614 ?_
  refine w_iconst 2 615 hX ic_2 dL_texts_615 ?_
  obtain ⟨x5, gx5, h⟩ := d_rd h
  refine x_iald 616 hX gx5 dL_texts_616 ?_
  obtain ⟨x6, gx6, h⟩ := d_rd h
  obtain ⟨x7, wx7, gx7, h⟩ := d_bind h
  refine w_invVr (av := [.int x5]) (st := [.ref t0]) 617 hX CI_14 (isC_ok gx6) rfl mv_yJ4_append_bf812 mi_yJ4_append_bf812 ml_L_59 (CDJ4_append_bf812 x2 x5 gx7) rfl (by decide) (Nat.le_of_ble_eq_true rfl) (d_le h).1 (d_le h).2 dL_texts_617 ?_
  refine w_ldcs 8 620 hX (by decide) rfl rfl dL_texts_620 ?_
  obtain ⟨x8, gx8, h⟩ := d_rd h
  obtain ⟨x9, wx9, gx9, h⟩ := d_bind h
  refine w_invVr (av := [.ref 2000008]) (st := [.ref t0]) 622 hX CI_14 (isC_ok gx8) rfl mv_yJ4_append_15ec4 mi_yJ4_append_15ec4 ml_L_65 (CDJ4_append_15ec4 x7 2000008 gx9) rfl (by decide) (Nat.le_of_ble_eq_true rfl) (d_le h).1 (d_le h).2 dL_texts_622 ?_
  obtain ⟨x10, gx10, h⟩ := d_rd h
  obtain ⟨x11, wx11, gx11, h⟩ := d_bind h
  refine w_invVr (av := []) (st := [.ref t0]) 625 hX CI_14 (isC_ok gx10) rfl mv_yJ4_toString_0e30d mi_yJ4_toString_0e30d ml_L_70 (CDJ4_toString_0e30d x9 gx11) rfl (by decide) (Nat.le_of_ble_eq_true rfl) (d_le h).1 (d_le h).2 dL_texts_625 ?_
  obtain ⟨x12, gx12, h⟩ := d_rd h
  obtain ⟨x13, wx13, gx13, h⟩ := d_bind h
  refine w_invVr (av := [.ref x11]) (st := []) 628 hX CI_14 (isC_ok gx12) rfl mv_yJ4_append_15ec4 mi_yJ4_append_15ec4 ml_L_65 (CDJ4_append_15ec4 t0 x11 gx13) rfl (by decide) (Nat.le_of_ble_eq_true rfl) (d_le h).1 (d_le h).2 dL_texts_628 ?_
  refine w_pop 631 hX rfl dL_texts_631 ?_
  refine w_iinc (lv' := [(5, .int (l5 + 1)), (0, .ref 0), (1, .ref l1), (2, .int l2), (3, .int l3), (4, .ref l4)]) 632 5 hX dL_texts_632 rfl (inc_1 _) (by decide) rfl ?_
  refine w_goto (tgt := 492) 635 hX (by decide) dL_texts_635 ?_
  exact w_sub [1, 2, 3, 4, 5, 0] rfl (hk492 l1 l2 l3 l4 (l5 + 1) _ h)
noncomputable def DL_texts_b492 (k492 : Nat → Int32 → Int32 → Nat → Int32 → Dm Int32) (l1 : Nat) (l2 : Int32) (l3 : Int32) (l4 : Nat) (l5 : Int32) : Dm Int32 :=
  (if l3 ≤ l5 then (dbind (dread (isC l4 14)) fun x2 => dbind (DJ4_toString_0e30d l4) fun x3 => dbind (DL_say x3) fun _ => dbind (dclW (fun u => FX11_text_0 3 u)) fun x5 => (if x5 = l3 then (dret 1) else (dret 0))) else (dbind (dread (gfR l1 12 18)) fun x7 => dbind (dnew (nwI 3)) fun x8 => dbind (dread (gfI l1 12 1)) fun x9 => dbind (DL_between ((l2 * (l5 + 7)) + (251 * l5)) 0 9) fun x10 => dbind (dput (iast x8 0 (x9 + x10))) fun _ => dbind (dput (iast x8 1 ((((l2 * (l5 + 7)) + (251 * l5)) >>> ((5 : Int32) &&& 31)) &&& 1))) fun _ => dbind (dput (iast x8 2 ((((l2 * (l5 + 7)) + (251 * l5)) >>> ((7 : Int32) &&& 31)) &&& 1))) fun _ => dbind (dput (aast x7 l5 x8)) fun _ => dbind (dnew (nwO 14)) fun x15 => dbind (dread (isC x15 14)) fun x16 => dbind (DJ4_init_da8c8 x15) fun _ => dbind (dread (isC x15 14)) fun x18 => dbind (DJ4_append_15ec4 x15 2000011) fun x19 => dbind (dread (gfR l1 12 18)) fun x20 => dbind (dread (aald x20 l5)) fun x21 => dbind (dread (iald x21 0)) fun x22 => dbind (dread (isC x19 14)) fun x23 => dbind (DJ4_append_bf812 x19 x22) fun x24 => dbind (dread (gfR l1 12 18)) fun x25 => dbind (dread (aald x25 l5)) fun x26 => dbind (dread (iald x26 1)) fun x27 => (if x27 = 1 then (DL_texts_b605a k492 l1 l2 l3 l4 l5 l4 x24) else (DL_texts_b605 k492 l1 l2 l3 l4 l5 l4 x24))))
theorem bDL_texts_492 {G : Gt} {X : Xt} {w' : Wd} {v : Int32} (hX : CxOk G X cL_texts 11 RL (some (.int v), w'.1, w'.2.1, w'.2.2) 94) (hR : CxRet G X (some .boolean) (some (.int v), w'.1, w'.2.1, w'.2.2)) {k492 : Nat → Int32 → Int32 → Nat → Int32 → Dm Int32} (hk492 : ∀ (l1 : Nat) (l2 : Int32) (l3 : Int32) (l4 : Nat) (l5 : Int32) (w : Wd), (k492 l1 l2 l3 l4 l5).1 w = some (v, w') → WM G X 492 [(0, .ref 0), (1, .ref l1), (2, .int l2), (3, .int l3), (4, .ref l4), (5, .int l5)] [] w.1 w.2.1 w.2.2) (l1 : Nat) (l2 : Int32) (l3 : Int32) (l4 : Nat) (l5 : Int32) (w : Wd) (h : (DL_texts_b492 k492 l1 l2 l3 l4 l5).1 w = some (v, w')) : WM G X 492 [(0, .ref 0), (1, .ref l1), (2, .int l2), (3, .int l3), (4, .ref l4), (5, .int l5)] [] w.1 w.2.1 w.2.2 := by
  unfold DL_texts_b492 at h
  refine w_iload 5 492 hX rfl dL_texts_492 ?_
  refine w_iload_n 3 494 hX rfl rfl dL_texts_494 ?_
  refine w_icmp_ge (tgt := 638) 495 hX dL_texts_495 (by decide) (fun c1 => ?_) (fun c1 => ?_)
  · have h := dit h c1
    refine w_aload_n 0 638 hX rfl rfl dL_texts_638 ?_
    refine w_aload 4 639 hX rfl dL_texts_639 ?_
    obtain ⟨x2, gx2, h⟩ := d_rd h
    obtain ⟨x3, wx3, gx3, h⟩ := d_bind h
    refine w_invVr (av := []) (st := [.ref 0]) 641 hX CI_14 (isC_ok gx2) rfl mv_yJ4_toString_0e30d mi_yJ4_toString_0e30d ml_L_70 (CDJ4_toString_0e30d l4 gx3) rfl (by decide) (Nat.le_of_ble_eq_true rfl) (d_le h).1 (d_le h).2 dL_texts_641 ?_
    obtain ⟨x4, wx4, gx4, h⟩ := d_bind h
    refine w_invSv (av := [.ref 0, .ref x3]) (st := []) 644 hX ms_yL_say mi_yL_say ml_L_78 (CDL_say x3 gx4) rfl (by decide) (Nat.le_of_ble_eq_true rfl) (d_le h).1 (d_le h).2 dL_texts_644 ?_
    refine w_aload_n 0 647 hX rfl rfl dL_texts_647 ?_
    refine w_iconst 3 648 hX ic_3 dL_texts_648 ?_
    obtain ⟨x5, wx5, gx5, h⟩ := d_bind h
    refine w_invVi (av := [.int 3]) (st := []) 649 hX CI_11 (oks_0 (dcl_ok gx5).1) rfl mv_yX11_text mi_yX11_text ml_L_82 (cs_W (fun G u g => CX11_text_0 (G := G) 3 _ g) gx5) rfl (by decide) (Nat.le_of_ble_eq_true rfl) (d_le h).1 (d_le h).2 dL_texts_649 ?_
    refine w_iload_n 3 652 hX rfl rfl dL_texts_652 ?_
    refine w_icmp_ne (tgt := 660) 653 hX dL_texts_653 (by decide) (fun c6 => ?_) (fun c6 => ?_)
    · have h := die h c6
      refine w_iconst 0 660 hX ic_0 dL_texts_660 ?_
      obtain ⟨rfl, rfl⟩ := d_ret h
      exact w_zret 661 hX hR (by decide) dL_texts_661 rfl
    · have h := dit h c6
      refine w_iconst 1 656 hX ic_1 dL_texts_656 ?_
      refine w_goto (tgt := 661) 657 hX (by decide) dL_texts_657 ?_
      obtain ⟨rfl, rfl⟩ := d_ret h
      exact w_zret 661 hX hR (by decide) dL_texts_661 rfl
  · have h := die h c1
    refine w_iload_n 2 498 hX rfl rfl dL_texts_498 ?_
    refine w_iload 5 499 hX rfl dL_texts_499 ?_
    refine w_bipush 7 501 hX ib_7 dL_texts_501 ?_
    refine w_iadd 503 hX dL_texts_503 ?_
    refine w_imul 504 hX dL_texts_504 ?_
    refine w_sipush 251 505 hX isp_251 dL_texts_505 ?_
    refine w_iload 5 508 hX rfl dL_texts_508 ?_
    refine w_imul 510 hX dL_texts_510 ?_
    refine w_iadd 511 hX dL_texts_511 ?_
    refine w_istore (lv' := [(6, .int ((l2 * (l5 + 7)) + (251 * l5))), (0, .ref 0), (1, .ref l1), (2, .int l2), (3, .int l3), (4, .ref l4), (5, .int l5)]) 512 hX dL_texts_512 (by decide) rfl ?_
    refine w_aload_n 2 514 hX rfl rfl dL_texts_514 ?_
    obtain ⟨x7, gx7, h⟩ := d_rd h
    refine x_getRN 515 hX CI_12 gx7 rfl fl_L_94 rfl dL_texts_515 ?_
    refine w_iload 6 518 hX rfl dL_texts_518 ?_
    refine w_iconst 3 520 hX ic_3 dL_texts_520 ?_
    obtain ⟨x8, wx8, gx8, h⟩ := d_bind h
    refine x_newI 521 hX gx8 aw_int (d_le h) dL_texts_521 ?_
    refine w_dup 523 hX rfl dL_texts_523 ?_
    refine w_iconst 0 524 hX ic_0 dL_texts_524 ?_
    refine w_aload_n 2 525 hX rfl rfl dL_texts_525 ?_
    obtain ⟨x9, gx9, h⟩ := d_rd h
    refine x_getIN 526 hX CI_12 gx9 rfl fl_L_101 rfl dL_texts_526 ?_
    refine w_iload 0 529 hX rfl dL_texts_529 ?_
    refine w_iconst 0 531 hX ic_0 dL_texts_531 ?_
    refine w_bipush 9 532 hX ib_9 dL_texts_532 ?_
    obtain ⟨x10, wx10, gx10, h⟩ := d_bind h
    refine w_invSi (av := [.int ((l2 * (l5 + 7)) + (251 * l5)), .int 0, .int 9]) (st := [.int x9, .int 0, .ref x8, .ref x8, .int l5, .ref x7]) 534 hX ms_yL_between mi_yL_between ml_L_43 (CDL_between ((l2 * (l5 + 7)) + (251 * l5)) 0 9 gx10) rfl (by decide) (Nat.le_of_ble_eq_true rfl) (d_le h).1 (d_le h).2 dL_texts_534 ?_
    refine w_iadd 537 hX dL_texts_537 ?_
    obtain ⟨x11, wx11, gx11, h⟩ := d_bind h
    refine x_iast 538 hX gx11 dL_texts_538 ?_
    refine w_dup 539 hX rfl dL_texts_539 ?_
    refine w_iconst 1 540 hX ic_1 dL_texts_540 ?_
    refine w_iload 0 541 hX rfl dL_texts_541 ?_
    refine w_iconst 5 543 hX ic_5 dL_texts_543 ?_
    refine w_ishr 544 hX dL_texts_544 ?_
    refine w_iconst 1 545 hX ic_1 dL_texts_545 ?_
    refine w_iand 546 hX dL_texts_546 ?_
    obtain ⟨x12, wx12, gx12, h⟩ := d_bind h
    refine x_iast 547 hX gx12 dL_texts_547 ?_
    refine w_dup 548 hX rfl dL_texts_548 ?_
    refine w_iconst 2 549 hX ic_2 dL_texts_549 ?_
    refine w_iload 0 550 hX rfl dL_texts_550 ?_
    refine w_bipush 7 552 hX ib_7 dL_texts_552 ?_
    refine w_ishr 554 hX dL_texts_554 ?_
    refine w_iconst 1 555 hX ic_1 dL_texts_555 ?_
    refine w_iand 556 hX dL_texts_556 ?_
    obtain ⟨x13, wx13, gx13, h⟩ := d_bind h
    refine x_iast 557 hX gx13 dL_texts_557 ?_
    obtain ⟨x14, wx14, gx14, h⟩ := d_bind h
    refine x_aast 558 hX gx14 dL_texts_558 ?_
    refine w_aload 5 559 hX rfl dL_texts_559 ?_
    obtain ⟨x15, wx15, gx15, h⟩ := d_bind h
    refine x_new 561 hX CI_14 gx15 dvW_14 cl_L_49 insW_14 izW_14 (d_le h) dL_texts_561 ?_
    refine w_dup 564 hX rfl dL_texts_564 ?_
    obtain ⟨x16, gx16, h⟩ := d_rd h
    obtain ⟨x17, wx17, gx17, h⟩ := d_bind h
    refine w_invIv (av := []) (st := [.ref x15, .ref l4]) 565 hX CI_14 (isC_ok gx16) mo_yJ4_init_da8c8 rfl mi_yJ4_init_da8c8 ml_L_51 (CDJ4_init_da8c8 x15 gx17) rfl (by decide) (Nat.le_of_ble_eq_true rfl) (d_le h).1 (d_le h).2 dL_texts_565 ?_
    refine w_ldcs 11 568 hX (by decide) rfl rfl dL_texts_568 ?_
    obtain ⟨x18, gx18, h⟩ := d_rd h
    obtain ⟨x19, wx19, gx19, h⟩ := d_bind h
    refine w_invVr (av := [.ref 2000011]) (st := [.ref l4]) 570 hX CI_14 (isC_ok gx18) rfl mv_yJ4_append_15ec4 mi_yJ4_append_15ec4 ml_L_65 (CDJ4_append_15ec4 x15 2000011 gx19) rfl (by decide) (Nat.le_of_ble_eq_true rfl) (d_le h).1 (d_le h).2 dL_texts_570 ?_
    refine w_aload_n 2 573 hX rfl rfl dL_texts_573 ?_
    obtain ⟨x20, gx20, h⟩ := d_rd h
    refine x_getRN 574 hX CI_12 gx20 rfl fl_L_94 rfl dL_texts_574 ?_
    refine w_iload 6 577 hX rfl dL_texts_577 ?_
    obtain ⟨x21, gx21, h⟩ := d_rd h
    refine x_aald 579 hX gx21 dL_texts_579 ?_
    refine w_iconst 0 580 hX ic_0 dL_texts_580 ?_
    obtain ⟨x22, gx22, h⟩ := d_rd h
    refine x_iald 581 hX gx22 dL_texts_581 ?_
    obtain ⟨x23, gx23, h⟩ := d_rd h
    obtain ⟨x24, wx24, gx24, h⟩ := d_bind h
    refine w_invVr (av := [.int x22]) (st := [.ref l4]) 582 hX CI_14 (isC_ok gx23) rfl mv_yJ4_append_bf812 mi_yJ4_append_bf812 ml_L_59 (CDJ4_append_bf812 x19 x22 gx24) rfl (by decide) (Nat.le_of_ble_eq_true rfl) (d_le h).1 (d_le h).2 dL_texts_582 ?_
    refine w_aload_n 2 585 hX rfl rfl dL_texts_585 ?_
    obtain ⟨x25, gx25, h⟩ := d_rd h
    refine x_getRN 586 hX CI_12 gx25 rfl fl_L_94 rfl dL_texts_586 ?_
    refine w_iload 6 589 hX rfl dL_texts_589 ?_
    obtain ⟨x26, gx26, h⟩ := d_rd h
    refine x_aald 591 hX gx26 dL_texts_591 ?_
    refine w_iconst 1 592 hX ic_1 dL_texts_592 ?_
    obtain ⟨x27, gx27, h⟩ := d_rd h
    refine x_iald 593 hX gx27 dL_texts_593 ?_
    refine w_iconst 1 594 hX ic_1 dL_texts_594 ?_
    refine w_icmp_ne (tgt := 603) 595 hX dL_texts_595 (by decide) (fun c28 => ?_) (fun c28 => ?_)
    · have h := die h c28
      refine w_ldcs 13 603 hX (by decide) rfl rfl dL_texts_603 ?_
      exact w_sub [1, 2, 3, 4, 5, 6] rfl (bDL_texts_605 hX hR hk492 l1 l2 l3 l4 l5 l4 x24 _ h)
    · have h := dit h c28
      refine w_ldcs 12 598 hX (by decide) rfl rfl dL_texts_598 ?_
      refine w_goto (tgt := 605) 600 hX (by decide) dL_texts_600 ?_
      exact w_sub [1, 2, 3, 4, 5, 6] rfl (bDL_texts_605a hX hR hk492 l1 l2 l3 l4 l5 l4 x24 _ h)
noncomputable def DL_texts_L492 : Nat → Nat → Int32 → Int32 → Nat → Int32 → Dm Int32
  | 0, _, _, _, _, _ => dno
  | n + 1, l1, l2, l3, l4, l5 => DL_texts_b492 (DL_texts_L492 n) l1 l2 l3 l4 l5
theorem lDL_texts_492 {G : Gt} {X : Xt} {w' : Wd} {v : Int32} (hX : CxOk G X cL_texts 11 RL (some (.int v), w'.1, w'.2.1, w'.2.2) 94) (hR : CxRet G X (some .boolean) (some (.int v), w'.1, w'.2.1, w'.2.2)) : ∀ (n : Nat) (l1 : Nat) (l2 : Int32) (l3 : Int32) (l4 : Nat) (l5 : Int32) (w : Wd), (DL_texts_L492 n l1 l2 l3 l4 l5).1 w = some (v, w') → WM G X 492 [(0, .ref 0), (1, .ref l1), (2, .int l2), (3, .int l3), (4, .ref l4), (5, .int l5)] [] w.1 w.2.1 w.2.2 := by
  intro n
  induction n with
  | zero =>
    intro l1 l2 l3 l4 l5 w h
    exact dn_ h
  | succ n ih =>
    intro l1 l2 l3 l4 l5 w h
    exact bDL_texts_492 hX hR ih l1 l2 l3 l4 l5 w h
noncomputable def DL_texts_b336 (k336 : Nat → Int32 → Int32 → Nat → Int32 → Dm Int32) (l1 : Nat) (l2 : Int32) (l3 : Int32) (l4 : Nat) (l5 : Int32) : Dm Int32 :=
  (if l3 ≤ l5 then (dbind (dread (isC l4 14)) fun x2 => dbind (DJ4_toString_0e30d l4) fun x3 => dbind (DL_say x3) fun _ => dbind (dclW (fun u => FX11_text_0 2 u)) fun x5 => (if x5 = l3 then (dbind (DL_between (l2 >>> ((6 : Int32) &&& 31)) 0 9) fun x7 => dbind (dnew (nwO 14)) fun x8 => dbind (dread (isC x8 14)) fun x9 => dbind (DJ4_init_da8c8 x8) fun _ => dbind (dnew (nwA 2 x7)) fun x11 => dbind (dput (pfO l1 12 18 (some x11))) fun _ => dbind (dput (pfI l1 12 10 x7)) fun _ => DL_texts_L492 FU l1 l2 x7 x8 0) else (dret 0))) else (dbind (DL_between ((l2 * (l5 + 5)) + (241 * l5)) 0 7) fun x14 => dbind (dread (gfR l1 12 15)) fun x15 => dbind (DL_between (((l2 * (l5 + 5)) + (241 * l5)) >>> ((4 : Int32) &&& 31)) 0 20) fun x16 => dbind (dput (iast x15 x14 x16)) fun _ => dbind (dnew (nwO 14)) fun x18 => dbind (dread (isC x18 14)) fun x19 => dbind (DJ4_init_da8c8 x18) fun _ => dbind (dread (isC x18 14)) fun x21 => dbind (DJ4_append_15ec4 x18 2000009) fun x22 => dbind (dread (isC x22 14)) fun x23 => dbind (DJ4_append_bf812 x22 x14) fun x24 => dbind (dread (isC x24 14)) fun x25 => dbind (DJ4_append_15ec4 x24 2000010) fun x26 => dbind (dread (gfR l1 12 15)) fun x27 => dbind (dread (iald x27 x14)) fun x28 => dbind (dread (isC x26 14)) fun x29 => dbind (DJ4_append_bf812 x26 x28) fun x30 => dbind (dread (isC x30 14)) fun x31 => dbind (DJ4_append_15ec4 x30 2000008) fun x32 => dbind (dread (isC x32 14)) fun x33 => dbind (DJ4_toString_0e30d x32) fun x34 => dbind (dread (isC l4 14)) fun x35 => dbind (DJ4_append_15ec4 l4 x34) fun x36 => k336 l1 l2 l3 l4 (l5 + 1)))
theorem bDL_texts_336 {G : Gt} {X : Xt} {w' : Wd} {v : Int32} (hX : CxOk G X cL_texts 11 RL (some (.int v), w'.1, w'.2.1, w'.2.2) 94) (hR : CxRet G X (some .boolean) (some (.int v), w'.1, w'.2.1, w'.2.2)) {k336 : Nat → Int32 → Int32 → Nat → Int32 → Dm Int32} (hk336 : ∀ (l1 : Nat) (l2 : Int32) (l3 : Int32) (l4 : Nat) (l5 : Int32) (w : Wd), (k336 l1 l2 l3 l4 l5).1 w = some (v, w') → WM G X 336 [(0, .ref 0), (1, .ref l1), (2, .int l2), (3, .int l3), (4, .ref l4), (5, .int l5)] [] w.1 w.2.1 w.2.2) (l1 : Nat) (l2 : Int32) (l3 : Int32) (l4 : Nat) (l5 : Int32) (w : Wd) (h : (DL_texts_b336 k336 l1 l2 l3 l4 l5).1 w = some (v, w')) : WM G X 336 [(0, .ref 0), (1, .ref l1), (2, .int l2), (3, .int l3), (4, .ref l4), (5, .int l5)] [] w.1 w.2.1 w.2.2 := by
  unfold DL_texts_b336 at h
  refine w_iload 5 336 hX rfl dL_texts_336 ?_
  refine w_iload_n 3 338 hX rfl rfl dL_texts_338 ?_
  refine w_icmp_ge (tgt := 436) 339 hX dL_texts_339 (by decide) (fun c1 => ?_) (fun c1 => ?_)
  · have h := dit h c1
    refine w_aload_n 0 436 hX rfl rfl dL_texts_436 ?_
    refine w_aload 4 437 hX rfl dL_texts_437 ?_
    obtain ⟨x2, gx2, h⟩ := d_rd h
    obtain ⟨x3, wx3, gx3, h⟩ := d_bind h
    refine w_invVr (av := []) (st := [.ref 0]) 439 hX CI_14 (isC_ok gx2) rfl mv_yJ4_toString_0e30d mi_yJ4_toString_0e30d ml_L_70 (CDJ4_toString_0e30d l4 gx3) rfl (by decide) (Nat.le_of_ble_eq_true rfl) (d_le h).1 (d_le h).2 dL_texts_439 ?_
    obtain ⟨x4, wx4, gx4, h⟩ := d_bind h
    refine w_invSv (av := [.ref 0, .ref x3]) (st := []) 442 hX ms_yL_say mi_yL_say ml_L_78 (CDL_say x3 gx4) rfl (by decide) (Nat.le_of_ble_eq_true rfl) (d_le h).1 (d_le h).2 dL_texts_442 ?_
    refine w_aload_n 0 445 hX rfl rfl dL_texts_445 ?_
    refine w_iconst 2 446 hX ic_2 dL_texts_446 ?_
    obtain ⟨x5, wx5, gx5, h⟩ := d_bind h
    refine w_invVi (av := [.int 2]) (st := []) 447 hX CI_11 (oks_0 (dcl_ok gx5).1) rfl mv_yX11_text mi_yX11_text ml_L_82 (cs_W (fun G u g => CX11_text_0 (G := G) 2 _ g) gx5) rfl (by decide) (Nat.le_of_ble_eq_true rfl) (d_le h).1 (d_le h).2 dL_texts_447 ?_
    refine w_iload_n 3 450 hX rfl rfl dL_texts_450 ?_
    refine w_icmp_eq (tgt := 456) 451 hX dL_texts_451 (by decide) (fun c6 => ?_) (fun c6 => ?_)
    · have h := dit h c6
      refine w_iload_n 2 456 hX rfl rfl dL_texts_456 ?_
      refine w_bipush 6 457 hX ib_6 dL_texts_457 ?_
      refine w_ishr 459 hX dL_texts_459 ?_
      refine w_iconst 0 460 hX ic_0 dL_texts_460 ?_
      refine w_bipush 9 461 hX ib_9 dL_texts_461 ?_
      obtain ⟨x7, wx7, gx7, h⟩ := d_bind h
      refine w_invSi (av := [.int (l2 >>> ((6 : Int32) &&& 31)), .int 0, .int 9]) (st := []) 463 hX ms_yL_between mi_yL_between ml_L_43 (CDL_between (l2 >>> ((6 : Int32) &&& 31)) 0 9 gx7) rfl (by decide) (Nat.le_of_ble_eq_true rfl) (d_le h).1 (d_le h).2 dL_texts_463 ?_
      refine w_istore_n (lv' := [(3, .int x7), (0, .ref 0), (1, .ref l1), (2, .int l2), (4, .ref l4), (5, .int l5)]) 466 hX rfl dL_texts_466 (by decide) rfl ?_
      obtain ⟨x8, wx8, gx8, h⟩ := d_bind h
      refine x_new 467 hX CI_14 gx8 dvW_14 cl_L_49 insW_14 izW_14 (d_le h) dL_texts_467 ?_
      refine w_dup 470 hX rfl dL_texts_470 ?_
      obtain ⟨x9, gx9, h⟩ := d_rd h
      obtain ⟨x10, wx10, gx10, h⟩ := d_bind h
      refine w_invIv (av := []) (st := [.ref x8]) 471 hX CI_14 (isC_ok gx9) mo_yJ4_init_da8c8 rfl mi_yJ4_init_da8c8 ml_L_51 (CDJ4_init_da8c8 x8 gx10) rfl (by decide) (Nat.le_of_ble_eq_true rfl) (d_le h).1 (d_le h).2 dL_texts_471 ?_
      refine w_astore (lv' := [(4, .ref x8), (3, .int x7), (0, .ref 0), (1, .ref l1), (2, .int l2), (5, .int l5)]) 474 hX dL_texts_474 (by decide) rfl ?_
      refine w_aload_n 3 476 hX rfl rfl dL_texts_476 ?_
      refine w_iload_n 1 477 hX rfl rfl dL_texts_477 ?_
      obtain ⟨x11, wx11, gx11, h⟩ := d_bind h
      refine x_newR 478 hX gx11 cl_L_93 (d_le h) dL_texts_478 ?_
      obtain ⟨x12, wx12, gx12, h⟩ := d_bind h
      refine x_putON (some x11) 481 hX CI_12 gx12 rfl fl_L_94 rfl rfl (fun o => by cases o <;> rfl) (fun o => by cases o <;> rfl) dL_texts_481 ?_
      refine w_aload_n 3 484 hX rfl rfl dL_texts_484 ?_
      refine w_iload_n 1 485 hX rfl rfl dL_texts_485 ?_
      obtain ⟨x13, wx13, gx13, h⟩ := d_bind h
      refine x_putIN 486 hX CI_12 gx13 rfl fl_L_98 rfl rfl rfl rfl dL_texts_486 ?_
      refine w_iconst 0 489 hX ic_0 dL_texts_489 ?_
      refine w_istore (lv' := [(5, .int 0), (4, .ref x8), (3, .int x7), (0, .ref 0), (1, .ref l1), (2, .int l2)]) 490 hX dL_texts_490 (by decide) rfl ?_
      exact w_sub [3, 4, 5, 2, 1, 0] rfl (lDL_texts_492 hX hR FU l1 l2 x7 x8 0 _ h)
    · have h := die h c6
      refine w_iconst 0 454 hX ic_0 dL_texts_454 ?_
      obtain ⟨rfl, rfl⟩ := d_ret h
      exact w_zret 455 hX hR (by decide) dL_texts_455 rfl
  · have h := die h c1
    refine w_iload_n 2 342 hX rfl rfl dL_texts_342 ?_
    refine w_iload 5 343 hX rfl dL_texts_343 ?_
    refine w_iconst 5 345 hX ic_5 dL_texts_345 ?_
    refine w_iadd 346 hX dL_texts_346 ?_
    refine w_imul 347 hX dL_texts_347 ?_
    refine w_sipush 241 348 hX isp_241 dL_texts_348 ?_
    refine w_iload 5 351 hX rfl dL_texts_351 ?_
    refine w_imul 353 hX dL_texts_353 ?_
    refine w_iadd 354 hX dL_texts_354 ?_
    refine w_istore (lv' := [(6, .int ((l2 * (l5 + 5)) + (241 * l5))), (0, .ref 0), (1, .ref l1), (2, .int l2), (3, .int l3), (4, .ref l4), (5, .int l5)]) 355 hX dL_texts_355 (by decide) rfl ?_
    refine w_iload 0 357 hX rfl dL_texts_357 ?_
    refine w_iconst 0 359 hX ic_0 dL_texts_359 ?_
    refine w_bipush 7 360 hX ib_7 dL_texts_360 ?_
    obtain ⟨x14, wx14, gx14, h⟩ := d_bind h
    refine w_invSi (av := [.int ((l2 * (l5 + 5)) + (241 * l5)), .int 0, .int 7]) (st := []) 362 hX ms_yL_between mi_yL_between ml_L_43 (CDL_between ((l2 * (l5 + 5)) + (241 * l5)) 0 7 gx14) rfl (by decide) (Nat.le_of_ble_eq_true rfl) (d_le h).1 (d_le h).2 dL_texts_362 ?_
    refine w_istore (lv' := [(7, .int x14), (6, .int ((l2 * (l5 + 5)) + (241 * l5))), (0, .ref 0), (1, .ref l1), (2, .int l2), (3, .int l3), (4, .ref l4), (5, .int l5)]) 365 hX dL_texts_365 (by decide) rfl ?_
    refine w_aload_n 3 367 hX rfl rfl dL_texts_367 ?_
    obtain ⟨x15, gx15, h⟩ := d_rd h
    refine x_getRN 368 hX CI_12 gx15 rfl fl_L_86 rfl dL_texts_368 ?_
    refine w_iload 0 371 hX rfl dL_texts_371 ?_
    refine w_iload 1 373 hX rfl dL_texts_373 ?_
    refine w_iconst 4 375 hX ic_4 dL_texts_375 ?_
    refine w_ishr 376 hX dL_texts_376 ?_
    refine w_iconst 0 377 hX ic_0 dL_texts_377 ?_
    refine w_bipush 20 378 hX ib_20 dL_texts_378 ?_
    obtain ⟨x16, wx16, gx16, h⟩ := d_bind h
    refine w_invSi (av := [.int (((l2 * (l5 + 5)) + (241 * l5)) >>> ((4 : Int32) &&& 31)), .int 0, .int 20]) (st := [.int x14, .ref x15]) 380 hX ms_yL_between mi_yL_between ml_L_43 (CDL_between (((l2 * (l5 + 5)) + (241 * l5)) >>> ((4 : Int32) &&& 31)) 0 20 gx16) rfl (by decide) (Nat.le_of_ble_eq_true rfl) (d_le h).1 (d_le h).2 dL_texts_380 ?_
    obtain ⟨x17, wx17, gx17, h⟩ := d_bind h
    refine x_iast 383 hX gx17 dL_texts_383 ?_
    refine w_aload 6 384 hX rfl dL_texts_384 ?_
    obtain ⟨x18, wx18, gx18, h⟩ := d_bind h
    refine x_new 386 hX CI_14 gx18 dvW_14 cl_L_49 insW_14 izW_14 (d_le h) dL_texts_386 ?_
    refine w_dup 389 hX rfl dL_texts_389 ?_
    obtain ⟨x19, gx19, h⟩ := d_rd h
    obtain ⟨x20, wx20, gx20, h⟩ := d_bind h
    refine w_invIv (av := []) (st := [.ref x18, .ref l4]) 390 hX CI_14 (isC_ok gx19) mo_yJ4_init_da8c8 rfl mi_yJ4_init_da8c8 ml_L_51 (CDJ4_init_da8c8 x18 gx20) rfl (by decide) (Nat.le_of_ble_eq_true rfl) (d_le h).1 (d_le h).2 dL_texts_390 ?_
    refine w_ldcs 9 393 hX (by decide) rfl rfl dL_texts_393 ?_
    obtain ⟨x21, gx21, h⟩ := d_rd h
    obtain ⟨x22, wx22, gx22, h⟩ := d_bind h
    refine w_invVr (av := [.ref 2000009]) (st := [.ref l4]) 395 hX CI_14 (isC_ok gx21) rfl mv_yJ4_append_15ec4 mi_yJ4_append_15ec4 ml_L_65 (CDJ4_append_15ec4 x18 2000009 gx22) rfl (by decide) (Nat.le_of_ble_eq_true rfl) (d_le h).1 (d_le h).2 dL_texts_395 ?_
    refine w_iload 0 398 hX rfl dL_texts_398 ?_
    obtain ⟨x23, gx23, h⟩ := d_rd h
    obtain ⟨x24, wx24, gx24, h⟩ := d_bind h
    refine w_invVr (av := [.int x14]) (st := [.ref l4]) 400 hX CI_14 (isC_ok gx23) rfl mv_yJ4_append_bf812 mi_yJ4_append_bf812 ml_L_59 (CDJ4_append_bf812 x22 x14 gx24) rfl (by decide) (Nat.le_of_ble_eq_true rfl) (d_le h).1 (d_le h).2 dL_texts_400 ?_
    refine w_ldcs 10 403 hX (by decide) rfl rfl dL_texts_403 ?_
    obtain ⟨x25, gx25, h⟩ := d_rd h
    obtain ⟨x26, wx26, gx26, h⟩ := d_bind h
    refine w_invVr (av := [.ref 2000010]) (st := [.ref l4]) 405 hX CI_14 (isC_ok gx25) rfl mv_yJ4_append_15ec4 mi_yJ4_append_15ec4 ml_L_65 (CDJ4_append_15ec4 x24 2000010 gx26) rfl (by decide) (Nat.le_of_ble_eq_true rfl) (d_le h).1 (d_le h).2 dL_texts_405 ?_
    refine w_aload_n 3 408 hX rfl rfl dL_texts_408 ?_
    obtain ⟨x27, gx27, h⟩ := d_rd h
    refine x_getRN 409 hX CI_12 gx27 rfl fl_L_86 rfl dL_texts_409 ?_
    refine w_iload 0 412 hX rfl dL_texts_412 ?_
    obtain ⟨x28, gx28, h⟩ := d_rd h
    refine x_iald 414 hX gx28 dL_texts_414 ?_
    obtain ⟨x29, gx29, h⟩ := d_rd h
    obtain ⟨x30, wx30, gx30, h⟩ := d_bind h
    refine w_invVr (av := [.int x28]) (st := [.ref l4]) 415 hX CI_14 (isC_ok gx29) rfl mv_yJ4_append_bf812 mi_yJ4_append_bf812 ml_L_59 (CDJ4_append_bf812 x26 x28 gx30) rfl (by decide) (Nat.le_of_ble_eq_true rfl) (d_le h).1 (d_le h).2 dL_texts_415 ?_
    refine w_ldcs 8 418 hX (by decide) rfl rfl dL_texts_418 ?_
    obtain ⟨x31, gx31, h⟩ := d_rd h
    obtain ⟨x32, wx32, gx32, h⟩ := d_bind h
    refine w_invVr (av := [.ref 2000008]) (st := [.ref l4]) 420 hX CI_14 (isC_ok gx31) rfl mv_yJ4_append_15ec4 mi_yJ4_append_15ec4 ml_L_65 (CDJ4_append_15ec4 x30 2000008 gx32) rfl (by decide) (Nat.le_of_ble_eq_true rfl) (d_le h).1 (d_le h).2 dL_texts_420 ?_
    obtain ⟨x33, gx33, h⟩ := d_rd h
    obtain ⟨x34, wx34, gx34, h⟩ := d_bind h
    refine w_invVr (av := []) (st := [.ref l4]) 423 hX CI_14 (isC_ok gx33) rfl mv_yJ4_toString_0e30d mi_yJ4_toString_0e30d ml_L_70 (CDJ4_toString_0e30d x32 gx34) rfl (by decide) (Nat.le_of_ble_eq_true rfl) (d_le h).1 (d_le h).2 dL_texts_423 ?_
    obtain ⟨x35, gx35, h⟩ := d_rd h
    obtain ⟨x36, wx36, gx36, h⟩ := d_bind h
    refine w_invVr (av := [.ref x34]) (st := []) 426 hX CI_14 (isC_ok gx35) rfl mv_yJ4_append_15ec4 mi_yJ4_append_15ec4 ml_L_65 (CDJ4_append_15ec4 l4 x34 gx36) rfl (by decide) (Nat.le_of_ble_eq_true rfl) (d_le h).1 (d_le h).2 dL_texts_426 ?_
    refine w_pop 429 hX rfl dL_texts_429 ?_
    refine w_iinc (lv' := [(5, .int (l5 + 1)), (7, .int x14), (6, .int ((l2 * (l5 + 5)) + (241 * l5))), (0, .ref 0), (1, .ref l1), (2, .int l2), (3, .int l3), (4, .ref l4)]) 430 7 hX dL_texts_430 rfl (inc_1 _) (by decide) rfl ?_
    refine w_goto (tgt := 336) 433 hX (by decide) dL_texts_433 ?_
    exact w_sub [3, 4, 5, 6, 7, 0] rfl (hk336 l1 l2 l3 l4 (l5 + 1) _ h)
noncomputable def DL_texts_L336 : Nat → Nat → Int32 → Int32 → Nat → Int32 → Dm Int32
  | 0, _, _, _, _, _ => dno
  | n + 1, l1, l2, l3, l4, l5 => DL_texts_b336 (DL_texts_L336 n) l1 l2 l3 l4 l5
theorem lDL_texts_336 {G : Gt} {X : Xt} {w' : Wd} {v : Int32} (hX : CxOk G X cL_texts 11 RL (some (.int v), w'.1, w'.2.1, w'.2.2) 94) (hR : CxRet G X (some .boolean) (some (.int v), w'.1, w'.2.1, w'.2.2)) : ∀ (n : Nat) (l1 : Nat) (l2 : Int32) (l3 : Int32) (l4 : Nat) (l5 : Int32) (w : Wd), (DL_texts_L336 n l1 l2 l3 l4 l5).1 w = some (v, w') → WM G X 336 [(0, .ref 0), (1, .ref l1), (2, .int l2), (3, .int l3), (4, .ref l4), (5, .int l5)] [] w.1 w.2.1 w.2.2 := by
  intro n
  induction n with
  | zero =>
    intro l1 l2 l3 l4 l5 w h
    exact dn_ h
  | succ n ih =>
    intro l1 l2 l3 l4 l5 w h
    exact bDL_texts_336 hX hR ih l1 l2 l3 l4 l5 w h
noncomputable def DL_texts_b243 (k47 : Nat → Int32 → Int32 → Nat → Int32 → Dm Int32) (l1 : Nat) (l2 : Int32) (l3 : Int32) (l4 : Nat) (l5 : Int32) (t0 : Nat) (t1 : Int32) (t2 : Int32) (t3 : Int32) (t4 : Int32) : Dm Int32 :=
  dbind (dput (iast t0 t1 (t2 ||| (t3 ||| t4)))) fun _ => k47 l1 l2 l3 l4 (l5 + 1)
theorem bDL_texts_243 {G : Gt} {X : Xt} {w' : Wd} {v : Int32} (hX : CxOk G X cL_texts 11 RL (some (.int v), w'.1, w'.2.1, w'.2.2) 94) (hR : CxRet G X (some .boolean) (some (.int v), w'.1, w'.2.1, w'.2.2)) {k47 : Nat → Int32 → Int32 → Nat → Int32 → Dm Int32} (hk47 : ∀ (l1 : Nat) (l2 : Int32) (l3 : Int32) (l4 : Nat) (l5 : Int32) (w : Wd), (k47 l1 l2 l3 l4 l5).1 w = some (v, w') → WM G X 47 [(0, .ref 0), (1, .ref l1), (2, .int l2), (3, .int l3), (4, .ref l4), (5, .int l5)] [] w.1 w.2.1 w.2.2) (l1 : Nat) (l2 : Int32) (l3 : Int32) (l4 : Nat) (l5 : Int32) (t0 : Nat) (t1 : Int32) (t2 : Int32) (t3 : Int32) (t4 : Int32) (w : Wd) (h : (DL_texts_b243 k47 l1 l2 l3 l4 l5 t0 t1 t2 t3 t4).1 w = some (v, w')) : WM G X 243 [(0, .ref 0), (1, .ref l1), (2, .int l2), (3, .int l3), (4, .ref l4), (5, .int l5)] [.int t4, .int t3, .int t2, .int t1, .ref t0] w.1 w.2.1 w.2.2 := by
  unfold DL_texts_b243 at h
  refine w_ior 243 hX dL_texts_243 ?_
  refine w_ior 244 hX dL_texts_244 ?_
  obtain ⟨x1, wx1, gx1, h⟩ := d_bind h
  refine x_iast 245 hX gx1 dL_texts_245 ?_
  refine w_iinc (lv' := [(5, .int (l5 + 1)), (0, .ref 0), (1, .ref l1), (2, .int l2), (3, .int l3), (4, .ref l4)]) 246 5 hX dL_texts_246 rfl (inc_1 _) (by decide) rfl ?_
  refine w_goto (tgt := 47) 249 hX (by decide) dL_texts_249 ?_
  exact w_sub [1, 2, 3, 4, 5, 0] rfl (hk47 l1 l2 l3 l4 (l5 + 1) _ h)
noncomputable def DL_texts_b203 (k47 : Nat → Int32 → Int32 → Nat → Int32 → Dm Int32) (l1 : Nat) (l2 : Int32) (l3 : Int32) (l4 : Nat) (l5 : Int32) (l7 : Int32) (l8 : Int32) (l9 : Int32) (l10 : Int32) (t0 : Nat) (t1 : Nat) : Dm Int32 :=
  dbind (dread (isC t1 14)) fun x1 => dbind (DJ4_append_15ec4 t1 2000007) fun x2 => dbind (dread (isC x2 14)) fun x3 => dbind (DJ4_append_15ec4 x2 2000008) fun x4 => dbind (dread (isC x4 14)) fun x5 => dbind (DJ4_toString_0e30d x4) fun x6 => dbind (dread (isC t0 14)) fun x7 => dbind (DJ4_append_15ec4 t0 x6) fun x8 => dbind (dread (gfR l1 12 14)) fun x9 => dbind (dread (iald x9 l7)) fun x10 => (if l10 = 0 then (DL_texts_b243 k47 l1 l2 l3 l4 l5 x9 l7 x10 ((1 : Int32) <<< (l8 &&& 31)) 0) else (DL_texts_b243 k47 l1 l2 l3 l4 l5 x9 l7 x10 ((1 : Int32) <<< (l8 &&& 31)) ((1 : Int32) <<< (l9 &&& 31))))
theorem bDL_texts_203 {G : Gt} {X : Xt} {w' : Wd} {v : Int32} (hX : CxOk G X cL_texts 11 RL (some (.int v), w'.1, w'.2.1, w'.2.2) 94) (hR : CxRet G X (some .boolean) (some (.int v), w'.1, w'.2.1, w'.2.2)) {k47 : Nat → Int32 → Int32 → Nat → Int32 → Dm Int32} (hk47 : ∀ (l1 : Nat) (l2 : Int32) (l3 : Int32) (l4 : Nat) (l5 : Int32) (w : Wd), (k47 l1 l2 l3 l4 l5).1 w = some (v, w') → WM G X 47 [(0, .ref 0), (1, .ref l1), (2, .int l2), (3, .int l3), (4, .ref l4), (5, .int l5)] [] w.1 w.2.1 w.2.2) (l1 : Nat) (l2 : Int32) (l3 : Int32) (l4 : Nat) (l5 : Int32) (l7 : Int32) (l8 : Int32) (l9 : Int32) (l10 : Int32) (t0 : Nat) (t1 : Nat) (w : Wd) (h : (DL_texts_b203 k47 l1 l2 l3 l4 l5 l7 l8 l9 l10 t0 t1).1 w = some (v, w')) : WM G X 203 [(0, .ref 0), (1, .ref l1), (2, .int l2), (3, .int l3), (4, .ref l4), (5, .int l5), (7, .int l7), (8, .int l8), (9, .int l9), (10, .int l10)] [.ref 2000007, .ref t1, .ref t0] w.1 w.2.1 w.2.2 := by
  unfold DL_texts_b203 at h
  obtain ⟨x1, gx1, h⟩ := d_rd h
  obtain ⟨x2, wx2, gx2, h⟩ := d_bind h
  refine w_invVr (av := [.ref 2000007]) (st := [.ref t0]) 203 hX CI_14 (isC_ok gx1) rfl mv_yJ4_append_15ec4 mi_yJ4_append_15ec4 ml_L_65 (CDJ4_append_15ec4 t1 2000007 gx2) rfl (by decide) (Nat.le_of_ble_eq_true rfl) (d_le h).1 (d_le h).2 dL_texts_203 ?_
  refine w_ldcs 8 206 hX (by decide) rfl rfl dL_texts_206 ?_
  obtain ⟨x3, gx3, h⟩ := d_rd h
  obtain ⟨x4, wx4, gx4, h⟩ := d_bind h
  refine w_invVr (av := [.ref 2000008]) (st := [.ref t0]) 208 hX CI_14 (isC_ok gx3) rfl mv_yJ4_append_15ec4 mi_yJ4_append_15ec4 ml_L_65 (CDJ4_append_15ec4 x2 2000008 gx4) rfl (by decide) (Nat.le_of_ble_eq_true rfl) (d_le h).1 (d_le h).2 dL_texts_208 ?_
  obtain ⟨x5, gx5, h⟩ := d_rd h
  obtain ⟨x6, wx6, gx6, h⟩ := d_bind h
  refine w_invVr (av := []) (st := [.ref t0]) 211 hX CI_14 (isC_ok gx5) rfl mv_yJ4_toString_0e30d mi_yJ4_toString_0e30d ml_L_70 (CDJ4_toString_0e30d x4 gx6) rfl (by decide) (Nat.le_of_ble_eq_true rfl) (d_le h).1 (d_le h).2 dL_texts_211 ?_
  obtain ⟨x7, gx7, h⟩ := d_rd h
  obtain ⟨x8, wx8, gx8, h⟩ := d_bind h
  refine w_invVr (av := [.ref x6]) (st := []) 214 hX CI_14 (isC_ok gx7) rfl mv_yJ4_append_15ec4 mi_yJ4_append_15ec4 ml_L_65 (CDJ4_append_15ec4 t0 x6 gx8) rfl (by decide) (Nat.le_of_ble_eq_true rfl) (d_le h).1 (d_le h).2 dL_texts_214 ?_
  refine w_pop 217 hX rfl dL_texts_217 ?_
  refine w_aload_n 1 218 hX rfl rfl dL_texts_218 ?_
  obtain ⟨x9, gx9, h⟩ := d_rd h
  refine x_getRN 219 hX CI_12 gx9 rfl fl_L_52 rfl dL_texts_219 ?_
  refine w_iload 6 222 hX rfl dL_texts_222 ?_
  refine w_dup2 224 hX rfl rfl dL_texts_224 ?_
  obtain ⟨x10, gx10, h⟩ := d_rd h
  refine x_iald 225 hX gx10 dL_texts_225 ?_
  refine w_iconst 1 226 hX ic_1 dL_texts_226 ?_
  refine w_iload 7 227 hX rfl dL_texts_227 ?_
  refine w_ishl 229 hX dL_texts_229 ?_
  refine w_iload 9 230 hX rfl dL_texts_230 ?_
  refine w_if_eq (tgt := 242) 232 hX dL_texts_232 (by decide) (fun c11 => ?_) (fun c11 => ?_)
  · have h := dit h c11
    refine w_iconst 0 242 hX ic_0 dL_texts_242 ?_
    exact w_sub [0, 1, 2, 3, 4, 5] rfl (bDL_texts_243 hX hR hk47 l1 l2 l3 l4 l5 x9 l7 x10 ((1 : Int32) <<< (l8 &&& 31)) 0 _ h)
  · have h := die h c11
    refine w_iconst 1 235 hX ic_1 dL_texts_235 ?_
    refine w_iload 8 236 hX rfl dL_texts_236 ?_
    refine w_ishl 238 hX dL_texts_238 ?_
    refine w_goto (tgt := 243) 239 hX (by decide) dL_texts_239 ?_
    exact w_sub [0, 1, 2, 3, 4, 5] rfl (bDL_texts_243 hX hR hk47 l1 l2 l3 l4 l5 x9 l7 x10 ((1 : Int32) <<< (l8 &&& 31)) ((1 : Int32) <<< (l9 &&& 31)) _ h)
noncomputable def DL_texts_b203a (k47 : Nat → Int32 → Int32 → Nat → Int32 → Dm Int32) (l1 : Nat) (l2 : Int32) (l3 : Int32) (l4 : Nat) (l5 : Int32) (l7 : Int32) (l8 : Int32) (l9 : Int32) (l10 : Int32) (t0 : Nat) (t1 : Nat) (t2 : Nat) : Dm Int32 :=
  dbind (dread (isC t1 14)) fun x1 => dbind (DJ4_append_15ec4 t1 t2) fun x2 => dbind (dread (isC x2 14)) fun x3 => dbind (DJ4_append_15ec4 x2 2000008) fun x4 => dbind (dread (isC x4 14)) fun x5 => dbind (DJ4_toString_0e30d x4) fun x6 => dbind (dread (isC t0 14)) fun x7 => dbind (DJ4_append_15ec4 t0 x6) fun x8 => dbind (dread (gfR l1 12 14)) fun x9 => dbind (dread (iald x9 l7)) fun x10 => (if l10 = 0 then (DL_texts_b243 k47 l1 l2 l3 l4 l5 x9 l7 x10 ((1 : Int32) <<< (l8 &&& 31)) 0) else (DL_texts_b243 k47 l1 l2 l3 l4 l5 x9 l7 x10 ((1 : Int32) <<< (l8 &&& 31)) ((1 : Int32) <<< (l9 &&& 31))))
theorem bDL_texts_203a {G : Gt} {X : Xt} {w' : Wd} {v : Int32} (hX : CxOk G X cL_texts 11 RL (some (.int v), w'.1, w'.2.1, w'.2.2) 94) (hR : CxRet G X (some .boolean) (some (.int v), w'.1, w'.2.1, w'.2.2)) {k47 : Nat → Int32 → Int32 → Nat → Int32 → Dm Int32} (hk47 : ∀ (l1 : Nat) (l2 : Int32) (l3 : Int32) (l4 : Nat) (l5 : Int32) (w : Wd), (k47 l1 l2 l3 l4 l5).1 w = some (v, w') → WM G X 47 [(0, .ref 0), (1, .ref l1), (2, .int l2), (3, .int l3), (4, .ref l4), (5, .int l5)] [] w.1 w.2.1 w.2.2) (l1 : Nat) (l2 : Int32) (l3 : Int32) (l4 : Nat) (l5 : Int32) (l7 : Int32) (l8 : Int32) (l9 : Int32) (l10 : Int32) (t0 : Nat) (t1 : Nat) (t2 : Nat) (w : Wd) (h : (DL_texts_b203a k47 l1 l2 l3 l4 l5 l7 l8 l9 l10 t0 t1 t2).1 w = some (v, w')) : WM G X 203 [(0, .ref 0), (1, .ref l1), (2, .int l2), (3, .int l3), (4, .ref l4), (5, .int l5), (7, .int l7), (8, .int l8), (9, .int l9), (10, .int l10)] [.ref t2, .ref t1, .ref t0] w.1 w.2.1 w.2.2 := by
  unfold DL_texts_b203a at h
  obtain ⟨x1, gx1, h⟩ := d_rd h
  obtain ⟨x2, wx2, gx2, h⟩ := d_bind h
  refine w_invVr (av := [.ref t2]) (st := [.ref t0]) 203 hX CI_14 (isC_ok gx1) rfl mv_yJ4_append_15ec4 mi_yJ4_append_15ec4 ml_L_65 (CDJ4_append_15ec4 t1 t2 gx2) rfl (by decide) (Nat.le_of_ble_eq_true rfl) (d_le h).1 (d_le h).2 dL_texts_203 ?_
  refine w_ldcs 8 206 hX (by decide) rfl rfl dL_texts_206 ?_
  obtain ⟨x3, gx3, h⟩ := d_rd h
  obtain ⟨x4, wx4, gx4, h⟩ := d_bind h
  refine w_invVr (av := [.ref 2000008]) (st := [.ref t0]) 208 hX CI_14 (isC_ok gx3) rfl mv_yJ4_append_15ec4 mi_yJ4_append_15ec4 ml_L_65 (CDJ4_append_15ec4 x2 2000008 gx4) rfl (by decide) (Nat.le_of_ble_eq_true rfl) (d_le h).1 (d_le h).2 dL_texts_208 ?_
  obtain ⟨x5, gx5, h⟩ := d_rd h
  obtain ⟨x6, wx6, gx6, h⟩ := d_bind h
  refine w_invVr (av := []) (st := [.ref t0]) 211 hX CI_14 (isC_ok gx5) rfl mv_yJ4_toString_0e30d mi_yJ4_toString_0e30d ml_L_70 (CDJ4_toString_0e30d x4 gx6) rfl (by decide) (Nat.le_of_ble_eq_true rfl) (d_le h).1 (d_le h).2 dL_texts_211 ?_
  obtain ⟨x7, gx7, h⟩ := d_rd h
  obtain ⟨x8, wx8, gx8, h⟩ := d_bind h
  refine w_invVr (av := [.ref x6]) (st := []) 214 hX CI_14 (isC_ok gx7) rfl mv_yJ4_append_15ec4 mi_yJ4_append_15ec4 ml_L_65 (CDJ4_append_15ec4 t0 x6 gx8) rfl (by decide) (Nat.le_of_ble_eq_true rfl) (d_le h).1 (d_le h).2 dL_texts_214 ?_
  refine w_pop 217 hX rfl dL_texts_217 ?_
  refine w_aload_n 1 218 hX rfl rfl dL_texts_218 ?_
  obtain ⟨x9, gx9, h⟩ := d_rd h
  refine x_getRN 219 hX CI_12 gx9 rfl fl_L_52 rfl dL_texts_219 ?_
  refine w_iload 6 222 hX rfl dL_texts_222 ?_
  refine w_dup2 224 hX rfl rfl dL_texts_224 ?_
  obtain ⟨x10, gx10, h⟩ := d_rd h
  refine x_iald 225 hX gx10 dL_texts_225 ?_
  refine w_iconst 1 226 hX ic_1 dL_texts_226 ?_
  refine w_iload 7 227 hX rfl dL_texts_227 ?_
  refine w_ishl 229 hX dL_texts_229 ?_
  refine w_iload 9 230 hX rfl dL_texts_230 ?_
  refine w_if_eq (tgt := 242) 232 hX dL_texts_232 (by decide) (fun c11 => ?_) (fun c11 => ?_)
  · have h := dit h c11
    refine w_iconst 0 242 hX ic_0 dL_texts_242 ?_
    exact w_sub [0, 1, 2, 3, 4, 5] rfl (bDL_texts_243 hX hR hk47 l1 l2 l3 l4 l5 x9 l7 x10 ((1 : Int32) <<< (l8 &&& 31)) 0 _ h)
  · have h := die h c11
    refine w_iconst 1 235 hX ic_1 dL_texts_235 ?_
    refine w_iload 8 236 hX rfl dL_texts_236 ?_
    refine w_ishl 238 hX dL_texts_238 ?_
    refine w_goto (tgt := 243) 239 hX (by decide) dL_texts_239 ?_
    exact w_sub [0, 1, 2, 3, 4, 5] rfl (bDL_texts_243 hX hR hk47 l1 l2 l3 l4 l5 x9 l7 x10 ((1 : Int32) <<< (l8 &&& 31)) ((1 : Int32) <<< (l9 &&& 31)) _ h)
noncomputable def DL_texts_b147 (k47 : Nat → Int32 → Int32 → Nat → Int32 → Dm Int32) (l1 : Nat) (l2 : Int32) (l3 : Int32) (l4 : Nat) (l5 : Int32) (l7 : Int32) (l8 : Int32) (l9 : Int32) (t0 : Int32) : Dm Int32 :=
  dbind (dnew (nwO 14)) fun x1 => dbind (dread (isC x1 14)) fun x2 => dbind (DJ4_init_da8c8 x1) fun _ => dbind (dread (isC x1 14)) fun x4 => dbind (DJ4_append_bf812 x1 l7) fun x5 => dbind (dread (isC x5 14)) fun x6 => dbind (DJ4_append_15ec4 x5 2000005) fun x7 => dbind (dread (isC x7 14)) fun x8 => dbind (DJ4_append_bf812 x7 l8) fun x9 => (if t0 = 0 then (DL_texts_b203 k47 l1 l2 l3 l4 l5 l7 l8 l9 t0 l4 x9) else (dbind (dnew (nwO 14)) fun x11 => dbind (dread (isC x11 14)) fun x12 => dbind (DJ4_init_da8c8 x11) fun _ => dbind (dread (isC x11 14)) fun x14 => dbind (DJ4_append_15ec4 x11 2000006) fun x15 => dbind (dread (isC x15 14)) fun x16 => dbind (DJ4_append_bf812 x15 l9) fun x17 => dbind (dread (isC x17 14)) fun x18 => dbind (DJ4_toString_0e30d x17) fun x19 => DL_texts_b203a k47 l1 l2 l3 l4 l5 l7 l8 l9 t0 l4 x9 x19))
theorem bDL_texts_147 {G : Gt} {X : Xt} {w' : Wd} {v : Int32} (hX : CxOk G X cL_texts 11 RL (some (.int v), w'.1, w'.2.1, w'.2.2) 94) (hR : CxRet G X (some .boolean) (some (.int v), w'.1, w'.2.1, w'.2.2)) {k47 : Nat → Int32 → Int32 → Nat → Int32 → Dm Int32} (hk47 : ∀ (l1 : Nat) (l2 : Int32) (l3 : Int32) (l4 : Nat) (l5 : Int32) (w : Wd), (k47 l1 l2 l3 l4 l5).1 w = some (v, w') → WM G X 47 [(0, .ref 0), (1, .ref l1), (2, .int l2), (3, .int l3), (4, .ref l4), (5, .int l5)] [] w.1 w.2.1 w.2.2) (l1 : Nat) (l2 : Int32) (l3 : Int32) (l4 : Nat) (l5 : Int32) (l7 : Int32) (l8 : Int32) (l9 : Int32) (t0 : Int32) (w : Wd) (h : (DL_texts_b147 k47 l1 l2 l3 l4 l5 l7 l8 l9 t0).1 w = some (v, w')) : WM G X 147 [(0, .ref 0), (1, .ref l1), (2, .int l2), (3, .int l3), (4, .ref l4), (5, .int l5), (7, .int l7), (8, .int l8), (9, .int l9)] [.int t0] w.1 w.2.1 w.2.2 := by
  unfold DL_texts_b147 at h
  refine w_istore (lv' := [(10, .int t0), (0, .ref 0), (1, .ref l1), (2, .int l2), (3, .int l3), (4, .ref l4), (5, .int l5), (7, .int l7), (8, .int l8), (9, .int l9)]) 147 hX dL_texts_147 (by decide) rfl ?_
  refine w_aload 5 149 hX rfl dL_texts_149 ?_
  obtain ⟨x1, wx1, gx1, h⟩ := d_bind h
  refine x_new 151 hX CI_14 gx1 dvW_14 cl_L_49 insW_14 izW_14 (d_le h) dL_texts_151 ?_
  refine w_dup 154 hX rfl dL_texts_154 ?_
  obtain ⟨x2, gx2, h⟩ := d_rd h
  obtain ⟨x3, wx3, gx3, h⟩ := d_bind h
  refine w_invIv (av := []) (st := [.ref x1, .ref l4]) 155 hX CI_14 (isC_ok gx2) mo_yJ4_init_da8c8 rfl mi_yJ4_init_da8c8 ml_L_51 (CDJ4_init_da8c8 x1 gx3) rfl (by decide) (Nat.le_of_ble_eq_true rfl) (d_le h).1 (d_le h).2 dL_texts_155 ?_
  refine w_iload 7 158 hX rfl dL_texts_158 ?_
  obtain ⟨x4, gx4, h⟩ := d_rd h
  obtain ⟨x5, wx5, gx5, h⟩ := d_bind h
  refine w_invVr (av := [.int l7]) (st := [.ref l4]) 160 hX CI_14 (isC_ok gx4) rfl mv_yJ4_append_bf812 mi_yJ4_append_bf812 ml_L_59 (CDJ4_append_bf812 x1 l7 gx5) rfl (by decide) (Nat.le_of_ble_eq_true rfl) (d_le h).1 (d_le h).2 dL_texts_160 ?_
  refine w_ldcs 5 163 hX (by decide) rfl rfl dL_texts_163 ?_
  obtain ⟨x6, gx6, h⟩ := d_rd h
  obtain ⟨x7, wx7, gx7, h⟩ := d_bind h
  refine w_invVr (av := [.ref 2000005]) (st := [.ref l4]) 165 hX CI_14 (isC_ok gx6) rfl mv_yJ4_append_15ec4 mi_yJ4_append_15ec4 ml_L_65 (CDJ4_append_15ec4 x5 2000005 gx7) rfl (by decide) (Nat.le_of_ble_eq_true rfl) (d_le h).1 (d_le h).2 dL_texts_165 ?_
  refine w_iload 8 168 hX rfl dL_texts_168 ?_
  obtain ⟨x8, gx8, h⟩ := d_rd h
  obtain ⟨x9, wx9, gx9, h⟩ := d_bind h
  refine w_invVr (av := [.int l8]) (st := [.ref l4]) 170 hX CI_14 (isC_ok gx8) rfl mv_yJ4_append_bf812 mi_yJ4_append_bf812 ml_L_59 (CDJ4_append_bf812 x7 l8 gx9) rfl (by decide) (Nat.le_of_ble_eq_true rfl) (d_le h).1 (d_le h).2 dL_texts_170 ?_
  refine w_iload 0 173 hX rfl dL_texts_173 ?_
  refine w_if_eq (tgt := 201) 175 hX dL_texts_175 (by decide) (fun c10 => ?_) (fun c10 => ?_)
  · have h := dit h c10
    refine w_ldcs 7 201 hX (by decide) rfl rfl dL_texts_201 ?_
    exact w_sub [1, 2, 3, 4, 5, 6, 7, 8, 9, 0] rfl (bDL_texts_203 hX hR hk47 l1 l2 l3 l4 l5 l7 l8 l9 t0 l4 x9 _ h)
  · have h := die h c10
    obtain ⟨x11, wx11, gx11, h⟩ := d_bind h
    refine x_new 178 hX CI_14 gx11 dvW_14 cl_L_49 insW_14 izW_14 (d_le h) dL_texts_178 ?_
    refine w_dup 181 hX rfl dL_texts_181 ?_
    obtain ⟨x12, gx12, h⟩ := d_rd h
    obtain ⟨x13, wx13, gx13, h⟩ := d_bind h
    refine w_invIv (av := []) (st := [.ref x11, .ref x9, .ref l4]) 182 hX CI_14 (isC_ok gx12) mo_yJ4_init_da8c8 rfl mi_yJ4_init_da8c8 ml_L_51 (CDJ4_init_da8c8 x11 gx13) rfl (by decide) (Nat.le_of_ble_eq_true rfl) (d_le h).1 (d_le h).2 dL_texts_182 ?_
    refine w_ldcs 6 185 hX (by decide) rfl rfl dL_texts_185 ?_
    obtain ⟨x14, gx14, h⟩ := d_rd h
    obtain ⟨x15, wx15, gx15, h⟩ := d_bind h
    refine w_invVr (av := [.ref 2000006]) (st := [.ref x9, .ref l4]) 187 hX CI_14 (isC_ok gx14) rfl mv_yJ4_append_15ec4 mi_yJ4_append_15ec4 ml_L_65 (CDJ4_append_15ec4 x11 2000006 gx15) rfl (by decide) (Nat.le_of_ble_eq_true rfl) (d_le h).1 (d_le h).2 dL_texts_187 ?_
    refine w_iload 9 190 hX rfl dL_texts_190 ?_
    obtain ⟨x16, gx16, h⟩ := d_rd h
    obtain ⟨x17, wx17, gx17, h⟩ := d_bind h
    refine w_invVr (av := [.int l9]) (st := [.ref x9, .ref l4]) 192 hX CI_14 (isC_ok gx16) rfl mv_yJ4_append_bf812 mi_yJ4_append_bf812 ml_L_59 (CDJ4_append_bf812 x15 l9 gx17) rfl (by decide) (Nat.le_of_ble_eq_true rfl) (d_le h).1 (d_le h).2 dL_texts_192 ?_
    obtain ⟨x18, gx18, h⟩ := d_rd h
    obtain ⟨x19, wx19, gx19, h⟩ := d_bind h
    refine w_invVr (av := []) (st := [.ref x9, .ref l4]) 195 hX CI_14 (isC_ok gx18) rfl mv_yJ4_toString_0e30d mi_yJ4_toString_0e30d ml_L_70 (CDJ4_toString_0e30d x17 gx19) rfl (by decide) (Nat.le_of_ble_eq_true rfl) (d_le h).1 (d_le h).2 dL_texts_195 ?_
    refine w_goto (tgt := 203) 198 hX (by decide) dL_texts_198 ?_
    exact w_sub [1, 2, 3, 4, 5, 6, 7, 8, 9, 0] rfl (bDL_texts_203a hX hR hk47 l1 l2 l3 l4 l5 l7 l8 l9 t0 l4 x9 x19 _ h)
noncomputable def DL_texts_b47 (k47 : Nat → Int32 → Int32 → Nat → Int32 → Dm Int32) (l1 : Nat) (l2 : Int32) (l3 : Int32) (l4 : Nat) (l5 : Int32) : Dm Int32 :=
  (if l3 ≤ l5 then (dbind (dread (isC l4 14)) fun x2 => dbind (DJ4_toString_0e30d l4) fun x3 => dbind (DL_say x3) fun _ => dbind (dclW (fun u => FX11_text_0 1 u)) fun x5 => (if x5 = l3 then (dbind (DL_between (l2 >>> ((5 : Int32) &&& 31)) 0 9) fun x7 => dbind (dnew (nwO 14)) fun x8 => dbind (dread (isC x8 14)) fun x9 => dbind (DJ4_init_da8c8 x8) fun _ => dbind (dnew (nwI 8)) fun x11 => dbind (dput (iast x11 0 1)) fun _ => dbind (dput (iast x11 1 1)) fun _ => dbind (dput (iast x11 2 1)) fun _ => dbind (dput (iast x11 3 1)) fun _ => dbind (dput (iast x11 4 1)) fun _ => dbind (dput (iast x11 5 1)) fun _ => dbind (dput (iast x11 6 1)) fun _ => dbind (dput (iast x11 7 1)) fun _ => dbind (dput (pfO l1 12 15 (some x11))) fun _ => DL_texts_L336 FU l1 l2 x7 x8 0) else (dret 0))) else (dbind (dread (gfI l1 12 6)) fun x21 => dbind (DL_between ((l2 * (l5 + 3)) + (239 * l5)) 0 (x21 - 1)) fun x22 => dbind (dread (gfI l1 12 6)) fun x23 => dbind (DL_between (((l2 * (l5 + 3)) + (239 * l5)) >>> ((4 : Int32) &&& 31)) 1 (x23 - 1)) fun x24 => dbind (dread (gfI l1 12 6)) fun x25 => dbind (dlift (rmI (x22 + x24) x25)) fun x26 => dbind (dread (gfI l1 12 6)) fun x27 => dbind (DL_between (((l2 * (l5 + 3)) + (239 * l5)) >>> ((6 : Int32) &&& 31)) 1 (x27 - 1)) fun x28 => dbind (dread (gfI l1 12 6)) fun x29 => dbind (dlift (rmI (x22 + x28) x29)) fun x30 => (if ((((l2 * (l5 + 3)) + (239 * l5)) >>> ((9 : Int32) &&& 31)) &&& 1) = 1 then (DL_texts_b147 k47 l1 l2 l3 l4 l5 x22 x26 x30 1) else (DL_texts_b147 k47 l1 l2 l3 l4 l5 x22 x26 x30 0))))
theorem bDL_texts_47 {G : Gt} {X : Xt} {w' : Wd} {v : Int32} (hX : CxOk G X cL_texts 11 RL (some (.int v), w'.1, w'.2.1, w'.2.2) 94) (hR : CxRet G X (some .boolean) (some (.int v), w'.1, w'.2.1, w'.2.2)) {k47 : Nat → Int32 → Int32 → Nat → Int32 → Dm Int32} (hk47 : ∀ (l1 : Nat) (l2 : Int32) (l3 : Int32) (l4 : Nat) (l5 : Int32) (w : Wd), (k47 l1 l2 l3 l4 l5).1 w = some (v, w') → WM G X 47 [(0, .ref 0), (1, .ref l1), (2, .int l2), (3, .int l3), (4, .ref l4), (5, .int l5)] [] w.1 w.2.1 w.2.2) (l1 : Nat) (l2 : Int32) (l3 : Int32) (l4 : Nat) (l5 : Int32) (w : Wd) (h : (DL_texts_b47 k47 l1 l2 l3 l4 l5).1 w = some (v, w')) : WM G X 47 [(0, .ref 0), (1, .ref l1), (2, .int l2), (3, .int l3), (4, .ref l4), (5, .int l5)] [] w.1 w.2.1 w.2.2 := by
  unfold DL_texts_b47 at h
  refine w_iload 5 47 hX rfl dL_texts_47 ?_
  refine w_iload_n 3 49 hX rfl rfl dL_texts_49 ?_
  refine w_icmp_ge (tgt := 252) 50 hX dL_texts_50 (by decide) (fun c1 => ?_) (fun c1 => ?_)
  · have h := dit h c1
    refine w_aload_n 0 252 hX rfl rfl dL_texts_252 ?_
    refine w_aload 4 253 hX rfl dL_texts_253 ?_
    obtain ⟨x2, gx2, h⟩ := d_rd h
    obtain ⟨x3, wx3, gx3, h⟩ := d_bind h
    refine w_invVr (av := []) (st := [.ref 0]) 255 hX CI_14 (isC_ok gx2) rfl mv_yJ4_toString_0e30d mi_yJ4_toString_0e30d ml_L_70 (CDJ4_toString_0e30d l4 gx3) rfl (by decide) (Nat.le_of_ble_eq_true rfl) (d_le h).1 (d_le h).2 dL_texts_255 ?_
    obtain ⟨x4, wx4, gx4, h⟩ := d_bind h
    refine w_invSv (av := [.ref 0, .ref x3]) (st := []) 258 hX ms_yL_say mi_yL_say ml_L_78 (CDL_say x3 gx4) rfl (by decide) (Nat.le_of_ble_eq_true rfl) (d_le h).1 (d_le h).2 dL_texts_258 ?_
    refine w_aload_n 0 261 hX rfl rfl dL_texts_261 ?_
    refine w_iconst 1 262 hX ic_1 dL_texts_262 ?_
    obtain ⟨x5, wx5, gx5, h⟩ := d_bind h
    refine w_invVi (av := [.int 1]) (st := []) 263 hX CI_11 (oks_0 (dcl_ok gx5).1) rfl mv_yX11_text mi_yX11_text ml_L_82 (cs_W (fun G u g => CX11_text_0 (G := G) 1 _ g) gx5) rfl (by decide) (Nat.le_of_ble_eq_true rfl) (d_le h).1 (d_le h).2 dL_texts_263 ?_
    refine w_iload_n 3 266 hX rfl rfl dL_texts_266 ?_
    refine w_icmp_eq (tgt := 272) 267 hX dL_texts_267 (by decide) (fun c6 => ?_) (fun c6 => ?_)
    · have h := dit h c6
      refine w_iload_n 2 272 hX rfl rfl dL_texts_272 ?_
      refine w_iconst 5 273 hX ic_5 dL_texts_273 ?_
      refine w_ishr 274 hX dL_texts_274 ?_
      refine w_iconst 0 275 hX ic_0 dL_texts_275 ?_
      refine w_bipush 9 276 hX ib_9 dL_texts_276 ?_
      obtain ⟨x7, wx7, gx7, h⟩ := d_bind h
      refine w_invSi (av := [.int (l2 >>> ((5 : Int32) &&& 31)), .int 0, .int 9]) (st := []) 278 hX ms_yL_between mi_yL_between ml_L_43 (CDL_between (l2 >>> ((5 : Int32) &&& 31)) 0 9 gx7) rfl (by decide) (Nat.le_of_ble_eq_true rfl) (d_le h).1 (d_le h).2 dL_texts_278 ?_
      refine w_istore_n (lv' := [(3, .int x7), (0, .ref 0), (1, .ref l1), (2, .int l2), (4, .ref l4), (5, .int l5)]) 281 hX rfl dL_texts_281 (by decide) rfl ?_
      obtain ⟨x8, wx8, gx8, h⟩ := d_bind h
      refine x_new 282 hX CI_14 gx8 dvW_14 cl_L_49 insW_14 izW_14 (d_le h) dL_texts_282 ?_
      refine w_dup 285 hX rfl dL_texts_285 ?_
      obtain ⟨x9, gx9, h⟩ := d_rd h
      obtain ⟨x10, wx10, gx10, h⟩ := d_bind h
      refine w_invIv (av := []) (st := [.ref x8]) 286 hX CI_14 (isC_ok gx9) mo_yJ4_init_da8c8 rfl mi_yJ4_init_da8c8 ml_L_51 (CDJ4_init_da8c8 x8 gx10) rfl (by decide) (Nat.le_of_ble_eq_true rfl) (d_le h).1 (d_le h).2 dL_texts_286 ?_
      refine w_astore (lv' := [(4, .ref x8), (3, .int x7), (0, .ref 0), (1, .ref l1), (2, .int l2), (5, .int l5)]) 289 hX dL_texts_289 (by decide) rfl ?_
      refine w_aload_n 3 291 hX rfl rfl dL_texts_291 ?_
      refine w_bipush 8 292 hX ib_8 dL_texts_292 ?_
      obtain ⟨x11, wx11, gx11, h⟩ := d_bind h
      refine x_newI 294 hX gx11 aw_int (d_le h) dL_texts_294 ?_
      refine w_dup 296 hX rfl dL_texts_296 ?_
      refine w_iconst 0 297 hX ic_0 dL_texts_297 ?_
      refine w_iconst 1 298 hX ic_1 dL_texts_298 ?_
      obtain ⟨x12, wx12, gx12, h⟩ := d_bind h
      refine x_iast 299 hX gx12 dL_texts_299 ?_
      refine w_dup 300 hX rfl dL_texts_300 ?_
      refine w_iconst 1 301 hX ic_1 dL_texts_301 ?_
      refine w_iconst 1 302 hX ic_1 dL_texts_302 ?_
      obtain ⟨x13, wx13, gx13, h⟩ := d_bind h
      refine x_iast 303 hX gx13 dL_texts_303 ?_
      refine w_dup 304 hX rfl dL_texts_304 ?_
      refine w_iconst 2 305 hX ic_2 dL_texts_305 ?_
      refine w_iconst 1 306 hX ic_1 dL_texts_306 ?_
      obtain ⟨x14, wx14, gx14, h⟩ := d_bind h
      refine x_iast 307 hX gx14 dL_texts_307 ?_
      refine w_dup 308 hX rfl dL_texts_308 ?_
      refine w_iconst 3 309 hX ic_3 dL_texts_309 ?_
      refine w_iconst 1 310 hX ic_1 dL_texts_310 ?_
      obtain ⟨x15, wx15, gx15, h⟩ := d_bind h
      refine x_iast 311 hX gx15 dL_texts_311 ?_
      refine w_dup 312 hX rfl dL_texts_312 ?_
      refine w_iconst 4 313 hX ic_4 dL_texts_313 ?_
      refine w_iconst 1 314 hX ic_1 dL_texts_314 ?_
      obtain ⟨x16, wx16, gx16, h⟩ := d_bind h
      refine x_iast 315 hX gx16 dL_texts_315 ?_
      refine w_dup 316 hX rfl dL_texts_316 ?_
      refine w_iconst 5 317 hX ic_5 dL_texts_317 ?_
      refine w_iconst 1 318 hX ic_1 dL_texts_318 ?_
      obtain ⟨x17, wx17, gx17, h⟩ := d_bind h
      refine x_iast 319 hX gx17 dL_texts_319 ?_
      refine w_dup 320 hX rfl dL_texts_320 ?_
      refine w_bipush 6 321 hX ib_6 dL_texts_321 ?_
      refine w_iconst 1 323 hX ic_1 dL_texts_323 ?_
      obtain ⟨x18, wx18, gx18, h⟩ := d_bind h
      refine x_iast 324 hX gx18 dL_texts_324 ?_
      refine w_dup 325 hX rfl dL_texts_325 ?_
      refine w_bipush 7 326 hX ib_7 dL_texts_326 ?_
      refine w_iconst 1 328 hX ic_1 dL_texts_328 ?_
      obtain ⟨x19, wx19, gx19, h⟩ := d_bind h
      refine x_iast 329 hX gx19 dL_texts_329 ?_
      obtain ⟨x20, wx20, gx20, h⟩ := d_bind h
      refine x_putON (some x11) 330 hX CI_12 gx20 rfl fl_L_86 rfl rfl (fun o => by cases o <;> rfl) (fun o => by cases o <;> rfl) dL_texts_330 ?_
      refine w_iconst 0 333 hX ic_0 dL_texts_333 ?_
      refine w_istore (lv' := [(5, .int 0), (4, .ref x8), (3, .int x7), (0, .ref 0), (1, .ref l1), (2, .int l2)]) 334 hX dL_texts_334 (by decide) rfl ?_
      exact w_sub [3, 4, 5, 2, 1, 0] rfl (lDL_texts_336 hX hR FU l1 l2 x7 x8 0 _ h)
    · have h := die h c6
      refine w_iconst 0 270 hX ic_0 dL_texts_270 ?_
      obtain ⟨rfl, rfl⟩ := d_ret h
      exact w_zret 271 hX hR (by decide) dL_texts_271 rfl
  · have h := die h c1
    refine w_iload_n 2 53 hX rfl rfl dL_texts_53 ?_
    refine w_iload 5 54 hX rfl dL_texts_54 ?_
    refine w_iconst 3 56 hX ic_3 dL_texts_56 ?_
    refine w_iadd 57 hX dL_texts_57 ?_
    refine w_imul 58 hX dL_texts_58 ?_
    refine w_sipush 239 59 hX isp_239 dL_texts_59 ?_
    refine w_iload 5 62 hX rfl dL_texts_62 ?_
    refine w_imul 64 hX dL_texts_64 ?_
    refine w_iadd 65 hX dL_texts_65 ?_
    refine w_istore (lv' := [(6, .int ((l2 * (l5 + 3)) + (239 * l5))), (0, .ref 0), (1, .ref l1), (2, .int l2), (3, .int l3), (4, .ref l4), (5, .int l5)]) 66 hX dL_texts_66 (by decide) rfl ?_
    refine w_iload 0 68 hX rfl dL_texts_68 ?_
    refine w_iconst 0 70 hX ic_0 dL_texts_70 ?_
    refine w_aload_n 2 71 hX rfl rfl dL_texts_71 ?_
    obtain ⟨x21, gx21, h⟩ := d_rd h
    refine x_getIN 72 hX CI_12 gx21 rfl fl_L_37 rfl dL_texts_72 ?_
    refine w_iconst 1 75 hX ic_1 dL_texts_75 ?_
    refine w_isub 76 hX dL_texts_76 ?_
    obtain ⟨x22, wx22, gx22, h⟩ := d_bind h
    refine w_invSi (av := [.int ((l2 * (l5 + 3)) + (239 * l5)), .int 0, .int (x21 - 1)]) (st := []) 77 hX ms_yL_between mi_yL_between ml_L_43 (CDL_between ((l2 * (l5 + 3)) + (239 * l5)) 0 (x21 - 1) gx22) rfl (by decide) (Nat.le_of_ble_eq_true rfl) (d_le h).1 (d_le h).2 dL_texts_77 ?_
    refine w_istore (lv' := [(7, .int x22), (6, .int ((l2 * (l5 + 3)) + (239 * l5))), (0, .ref 0), (1, .ref l1), (2, .int l2), (3, .int l3), (4, .ref l4), (5, .int l5)]) 80 hX dL_texts_80 (by decide) rfl ?_
    refine w_iload 0 82 hX rfl dL_texts_82 ?_
    refine w_iload 1 84 hX rfl dL_texts_84 ?_
    refine w_iconst 4 86 hX ic_4 dL_texts_86 ?_
    refine w_ishr 87 hX dL_texts_87 ?_
    refine w_iconst 1 88 hX ic_1 dL_texts_88 ?_
    refine w_aload_n 3 89 hX rfl rfl dL_texts_89 ?_
    obtain ⟨x23, gx23, h⟩ := d_rd h
    refine x_getIN 90 hX CI_12 gx23 rfl fl_L_37 rfl dL_texts_90 ?_
    refine w_iconst 1 93 hX ic_1 dL_texts_93 ?_
    refine w_isub 94 hX dL_texts_94 ?_
    obtain ⟨x24, wx24, gx24, h⟩ := d_bind h
    refine w_invSi (av := [.int (((l2 * (l5 + 3)) + (239 * l5)) >>> ((4 : Int32) &&& 31)), .int 1, .int (x23 - 1)]) (st := [.int x22]) 95 hX ms_yL_between mi_yL_between ml_L_43 (CDL_between (((l2 * (l5 + 3)) + (239 * l5)) >>> ((4 : Int32) &&& 31)) 1 (x23 - 1) gx24) rfl (by decide) (Nat.le_of_ble_eq_true rfl) (d_le h).1 (d_le h).2 dL_texts_95 ?_
    refine w_iadd 98 hX dL_texts_98 ?_
    refine w_aload_n 3 99 hX rfl rfl dL_texts_99 ?_
    obtain ⟨x25, gx25, h⟩ := d_rd h
    refine x_getIN 100 hX CI_12 gx25 rfl fl_L_37 rfl dL_texts_100 ?_
    obtain ⟨x26, gx26, h⟩ := d_lf h
    obtain ⟨qx26, jx26⟩ := rmI_ok gx26
    refine w_irem 103 hX qx26 dL_texts_103 ?_
    rw [jx26]
    refine w_istore (lv' := [(8, .int x26), (7, .int x22), (6, .int ((l2 * (l5 + 3)) + (239 * l5))), (0, .ref 0), (1, .ref l1), (2, .int l2), (3, .int l3), (4, .ref l4), (5, .int l5)]) 104 hX dL_texts_104 (by decide) rfl ?_
    refine w_iload 1 106 hX rfl dL_texts_106 ?_
    refine w_iload 2 108 hX rfl dL_texts_108 ?_
    refine w_bipush 6 110 hX ib_6 dL_texts_110 ?_
    refine w_ishr 112 hX dL_texts_112 ?_
    refine w_iconst 1 113 hX ic_1 dL_texts_113 ?_
    refine w_aload_n 4 114 hX rfl rfl dL_texts_114 ?_
    obtain ⟨x27, gx27, h⟩ := d_rd h
    refine x_getIN 115 hX CI_12 gx27 rfl fl_L_37 rfl dL_texts_115 ?_
    refine w_iconst 1 118 hX ic_1 dL_texts_118 ?_
    refine w_isub 119 hX dL_texts_119 ?_
    obtain ⟨x28, wx28, gx28, h⟩ := d_bind h
    refine w_invSi (av := [.int (((l2 * (l5 + 3)) + (239 * l5)) >>> ((6 : Int32) &&& 31)), .int 1, .int (x27 - 1)]) (st := [.int x22]) 120 hX ms_yL_between mi_yL_between ml_L_43 (CDL_between (((l2 * (l5 + 3)) + (239 * l5)) >>> ((6 : Int32) &&& 31)) 1 (x27 - 1) gx28) rfl (by decide) (Nat.le_of_ble_eq_true rfl) (d_le h).1 (d_le h).2 dL_texts_120 ?_
    refine w_iadd 123 hX dL_texts_123 ?_
    refine w_aload_n 4 124 hX rfl rfl dL_texts_124 ?_
    obtain ⟨x29, gx29, h⟩ := d_rd h
    refine x_getIN 125 hX CI_12 gx29 rfl fl_L_37 rfl dL_texts_125 ?_
    obtain ⟨x30, gx30, h⟩ := d_lf h
    obtain ⟨qx30, jx30⟩ := rmI_ok gx30
    refine w_irem 128 hX qx30 dL_texts_128 ?_
    rw [jx30]
    refine w_istore (lv' := [(9, .int x30), (8, .int x26), (7, .int x22), (6, .int ((l2 * (l5 + 3)) + (239 * l5))), (0, .ref 0), (1, .ref l1), (2, .int l2), (3, .int l3), (4, .ref l4), (5, .int l5)]) 129 hX dL_texts_129 (by decide) rfl ?_
    refine w_iload 3 131 hX rfl dL_texts_131 ?_
    refine w_bipush 9 133 hX ib_9 dL_texts_133 ?_
    refine w_ishr 135 hX dL_texts_135 ?_
    refine w_iconst 1 136 hX ic_1 dL_texts_136 ?_
    refine w_iand 137 hX dL_texts_137 ?_
    refine w_iconst 1 138 hX ic_1 dL_texts_138 ?_
    refine w_icmp_ne (tgt := 146) 139 hX dL_texts_139 (by decide) (fun c31 => ?_) (fun c31 => ?_)
    · have h := die h c31
      refine w_iconst 0 146 hX ic_0 dL_texts_146 ?_
      exact w_sub [4, 5, 6, 7, 8, 9, 2, 1, 0] rfl (bDL_texts_147 hX hR hk47 l1 l2 l3 l4 l5 x22 x26 x30 0 _ h)
    · have h := dit h c31
      refine w_iconst 1 142 hX ic_1 dL_texts_142 ?_
      refine w_goto (tgt := 147) 143 hX (by decide) dL_texts_143 ?_
      exact w_sub [4, 5, 6, 7, 8, 9, 2, 1, 0] rfl (bDL_texts_147 hX hR hk47 l1 l2 l3 l4 l5 x22 x26 x30 1 _ h)
noncomputable def DL_texts_L47 : Nat → Nat → Int32 → Int32 → Nat → Int32 → Dm Int32
  | 0, _, _, _, _, _ => dno
  | n + 1, l1, l2, l3, l4, l5 => DL_texts_b47 (DL_texts_L47 n) l1 l2 l3 l4 l5
theorem lDL_texts_47 {G : Gt} {X : Xt} {w' : Wd} {v : Int32} (hX : CxOk G X cL_texts 11 RL (some (.int v), w'.1, w'.2.1, w'.2.2) 94) (hR : CxRet G X (some .boolean) (some (.int v), w'.1, w'.2.1, w'.2.2)) : ∀ (n : Nat) (l1 : Nat) (l2 : Int32) (l3 : Int32) (l4 : Nat) (l5 : Int32) (w : Wd), (DL_texts_L47 n l1 l2 l3 l4 l5).1 w = some (v, w') → WM G X 47 [(0, .ref 0), (1, .ref l1), (2, .int l2), (3, .int l3), (4, .ref l4), (5, .int l5)] [] w.1 w.2.1 w.2.2 := by
  intro n
  induction n with
  | zero =>
    intro l1 l2 l3 l4 l5 w h
    exact dn_ h
  | succ n ih =>
    intro l1 l2 l3 l4 l5 w h
    exact bDL_texts_47 hX hR ih l1 l2 l3 l4 l5 w h
noncomputable def DL_texts_b21 (l1 : Nat) (l2 : Int32) (t0 : Int32) : Dm Int32 :=
  dbind (dnew (nwO 14)) fun x1 => dbind (dread (isC x1 14)) fun x2 => dbind (DJ4_init_da8c8 x1) fun _ => dbind (dnew (nwI 12)) fun x4 => dbind (dput (pfO l1 12 14 (some x4))) fun _ => dbind (dput (pfI l1 12 9 t0)) fun _ => DL_texts_L47 FU l1 l2 t0 x1 0
theorem bDL_texts_21 {G : Gt} {X : Xt} {w' : Wd} {v : Int32} (hX : CxOk G X cL_texts 11 RL (some (.int v), w'.1, w'.2.1, w'.2.2) 94) (hR : CxRet G X (some .boolean) (some (.int v), w'.1, w'.2.1, w'.2.2)) (l1 : Nat) (l2 : Int32) (t0 : Int32) (w : Wd) (h : (DL_texts_b21 l1 l2 t0).1 w = some (v, w')) : WM G X 21 [(0, .ref 0), (1, .ref l1), (2, .int l2)] [.int t0] w.1 w.2.1 w.2.2 := by
  unfold DL_texts_b21 at h
  refine w_istore_n (lv' := [(3, .int t0), (0, .ref 0), (1, .ref l1), (2, .int l2)]) 21 hX rfl dL_texts_21 (by decide) rfl ?_
  obtain ⟨x1, wx1, gx1, h⟩ := d_bind h
  refine x_new 22 hX CI_14 gx1 dvW_14 cl_L_49 insW_14 izW_14 (d_le h) dL_texts_22 ?_
  refine w_dup 25 hX rfl dL_texts_25 ?_
  obtain ⟨x2, gx2, h⟩ := d_rd h
  obtain ⟨x3, wx3, gx3, h⟩ := d_bind h
  refine w_invIv (av := []) (st := [.ref x1]) 26 hX CI_14 (isC_ok gx2) mo_yJ4_init_da8c8 rfl mi_yJ4_init_da8c8 ml_L_51 (CDJ4_init_da8c8 x1 gx3) rfl (by decide) (Nat.le_of_ble_eq_true rfl) (d_le h).1 (d_le h).2 dL_texts_26 ?_
  refine w_astore (lv' := [(4, .ref x1), (3, .int t0), (0, .ref 0), (1, .ref l1), (2, .int l2)]) 29 hX dL_texts_29 (by decide) rfl ?_
  refine w_aload_n 3 31 hX rfl rfl dL_texts_31 ?_
  refine w_bipush 12 32 hX ib_12 dL_texts_32 ?_
  obtain ⟨x4, wx4, gx4, h⟩ := d_bind h
  refine x_newI 34 hX gx4 aw_int (d_le h) dL_texts_34 ?_
  obtain ⟨x5, wx5, gx5, h⟩ := d_bind h
  refine x_putON (some x4) 36 hX CI_12 gx5 rfl fl_L_52 rfl rfl (fun o => by cases o <;> rfl) (fun o => by cases o <;> rfl) dL_texts_36 ?_
  refine w_aload_n 3 39 hX rfl rfl dL_texts_39 ?_
  refine w_iload_n 1 40 hX rfl rfl dL_texts_40 ?_
  obtain ⟨x6, wx6, gx6, h⟩ := d_bind h
  refine x_putIN 41 hX CI_12 gx6 rfl fl_L_56 rfl rfl rfl rfl dL_texts_41 ?_
  refine w_iconst 0 44 hX ic_0 dL_texts_44 ?_
  refine w_istore (lv' := [(5, .int 0), (4, .ref x1), (3, .int t0), (0, .ref 0), (1, .ref l1), (2, .int l2)]) 45 hX dL_texts_45 (by decide) rfl ?_
  exact w_sub [3, 4, 5, 2, 1, 0] rfl (lDL_texts_47 hX hR FU l1 l2 t0 x1 0 _ h)
noncomputable def DL_texts (p1 : Nat) (p2 : Int32) : Dm Int32 :=
  dbind (dread (gfI p1 12 6)) fun x1 => (if 2 ≤ x1 then (dbind (DL_between (p2 >>> ((3 : Int32) &&& 31)) 0 9) fun x3 => DL_texts_b21 p1 p2 x3) else (DL_texts_b21 p1 p2 0))
theorem CDL_texts {G : Gt} (p1 : Nat) (p2 : Int32) {w w' : Wd} {v : Int32} (h : (DL_texts p1 p2).1 w = some (v, w')) : CN G yL_texts cL_texts 11 (some .boolean) 94 [.ref 0, .ref p1, .int p2] w (some (.int v)) w' :=
  cn_of (by decide) rfl (Nat.le_of_ble_eq_true rfl) (d_le h) (fun X hX _ hR => by
  unfold DL_texts at h
  refine w_aload_n 1 0 hX rfl rfl dL_texts_0 ?_
  obtain ⟨x1, gx1, h⟩ := d_rd h
  refine x_getIN 1 hX CI_12 gx1 rfl fl_L_37 rfl dL_texts_1 ?_
  refine w_iconst 2 4 hX ic_2 dL_texts_4 ?_
  refine w_icmp_ge (tgt := 12) 5 hX dL_texts_5 (by decide) (fun c2 => ?_) (fun c2 => ?_)
  · have h := dit h c2
    refine w_iload_n 2 12 hX rfl rfl dL_texts_12 ?_
    refine w_iconst 3 13 hX ic_3 dL_texts_13 ?_
    refine w_ishr 14 hX dL_texts_14 ?_
    refine w_iconst 0 15 hX ic_0 dL_texts_15 ?_
    refine w_bipush 9 16 hX ib_9 dL_texts_16 ?_
    obtain ⟨x3, wx3, gx3, h⟩ := d_bind h
    refine w_invSi (av := [.int (p2 >>> ((3 : Int32) &&& 31)), .int 0, .int 9]) (st := []) 18 hX ms_yL_between mi_yL_between ml_L_43 (CDL_between (p2 >>> ((3 : Int32) &&& 31)) 0 9 gx3) rfl (by decide) (Nat.le_of_ble_eq_true rfl) (d_le h).1 (d_le h).2 dL_texts_18 ?_
    exact bDL_texts_21 hX hR p1 p2 x3 _ h
  · have h := die h c2
    refine w_iconst 0 8 hX ic_0 dL_texts_8 ?_
    refine w_goto (tgt := 21) 9 hX (by decide) dL_texts_9 ?_
    exact bDL_texts_21 hX hR p1 p2 0 _ h)
noncomputable def DX12_init (p0 : Nat) : Dm Unit :=
  dbind (dput (pfI p0 12 2 1)) fun _ => dbind (dput (pfI p0 12 3 1)) fun _ => dbind (dput (pfI p0 12 5 3)) fun _ => dbind (dnew (nwI 2)) fun x4 => dbind (dput (iast x4 0 2)) fun _ => dbind (dput (iast x4 1 2)) fun _ => dbind (dput (pfO p0 12 13 (some x4))) fun _ => dbind (dnew (nwI 12)) fun x8 => dbind (dput (pfO p0 12 14 (some x8))) fun _ => dbind (dnew (nwI 8)) fun x10 => dbind (dput (iast x10 0 1)) fun _ => dbind (dput (iast x10 1 1)) fun _ => dbind (dput (iast x10 2 1)) fun _ => dbind (dput (iast x10 3 1)) fun _ => dbind (dput (iast x10 4 1)) fun _ => dbind (dput (iast x10 5 1)) fun _ => dbind (dput (iast x10 6 1)) fun _ => dbind (dput (iast x10 7 1)) fun _ => dbind (dput (pfO p0 12 15 (some x10))) fun _ => dbind (dnew (nwA 2 12)) fun x20 => dbind (dput (pfO p0 12 16 (some x20))) fun _ => dbind (dnew (nwA 2 150)) fun x22 => dbind (dput (pfO p0 12 17 (some x22))) fun _ => dbind (dnew (nwA 2 0)) fun x24 => dbind (dput (pfO p0 12 18 (some x24))) fun _ => dret ()
theorem CDX12_init {G : Gt} (p0 : Nat) {w w' : Wd} {v : Unit} (h : (DX12_init p0).1 w = some (v, w')) : CN G yX12_init cX12_init 1 none 2 [.ref p0] w (none) w' :=
  cn_of (by decide) rfl (Nat.le_of_ble_eq_true rfl) (d_le h) (fun X hX hNm hR => by
  unfold DX12_init at h
  refine w_aload_n 0 0 hX rfl rfl dX12_init_0 ?_
  refine w_objInit 1 hX ml_X12_1 oi_i oi_c (by decide) (Nat.le_of_ble_eq_true rfl) dX12_init_1 ?_
  refine w_aload_n 0 4 hX rfl rfl dX12_init_4 ?_
  refine w_iconst 1 5 hX ic_1 dX12_init_5 ?_
  obtain ⟨x1, wx1, gx1, h⟩ := d_bind h
  refine x_putI 6 hX CI_12 gx1 rfl fl_X12_7 rfl rfl rfl rfl dX12_init_6 ?_
  refine w_aload_n 0 9 hX rfl rfl dX12_init_9 ?_
  refine w_iconst 1 10 hX ic_1 dX12_init_10 ?_
  obtain ⟨x2, wx2, gx2, h⟩ := d_bind h
  refine x_putI 11 hX CI_12 gx2 rfl fl_X12_13 rfl rfl rfl rfl dX12_init_11 ?_
  refine w_aload_n 0 14 hX rfl rfl dX12_init_14 ?_
  refine w_iconst 3 15 hX ic_3 dX12_init_15 ?_
  obtain ⟨x3, wx3, gx3, h⟩ := d_bind h
  refine x_putI 16 hX CI_12 gx3 rfl fl_X12_16 rfl rfl rfl rfl dX12_init_16 ?_
  refine w_aload_n 0 19 hX rfl rfl dX12_init_19 ?_
  refine w_iconst 2 20 hX ic_2 dX12_init_20 ?_
  obtain ⟨x4, wx4, gx4, h⟩ := d_bind h
  refine x_newI 21 hX gx4 aw_int (d_le h) dX12_init_21 ?_
  refine w_dup 23 hX rfl dX12_init_23 ?_
  refine w_iconst 0 24 hX ic_0 dX12_init_24 ?_
  refine w_iconst 2 25 hX ic_2 dX12_init_25 ?_
  obtain ⟨x5, wx5, gx5, h⟩ := d_bind h
  refine x_iast 26 hX gx5 dX12_init_26 ?_
  refine w_dup 27 hX rfl dX12_init_27 ?_
  refine w_iconst 1 28 hX ic_1 dX12_init_28 ?_
  refine w_iconst 2 29 hX ic_2 dX12_init_29 ?_
  obtain ⟨x6, wx6, gx6, h⟩ := d_bind h
  refine x_iast 30 hX gx6 dX12_init_30 ?_
  obtain ⟨x7, wx7, gx7, h⟩ := d_bind h
  refine x_putO (some x4) 31 hX CI_12 gx7 rfl fl_X12_19 rfl rfl (fun o => by cases o <;> rfl) (fun o => by cases o <;> rfl) dX12_init_31 ?_
  refine w_aload_n 0 34 hX rfl rfl dX12_init_34 ?_
  refine w_bipush 12 35 hX ib_12 dX12_init_35 ?_
  obtain ⟨x8, wx8, gx8, h⟩ := d_bind h
  refine x_newI 37 hX gx8 aw_int (d_le h) dX12_init_37 ?_
  obtain ⟨x9, wx9, gx9, h⟩ := d_bind h
  refine x_putO (some x8) 39 hX CI_12 gx9 rfl fl_X12_23 rfl rfl (fun o => by cases o <;> rfl) (fun o => by cases o <;> rfl) dX12_init_39 ?_
  refine w_aload_n 0 42 hX rfl rfl dX12_init_42 ?_
  refine w_bipush 8 43 hX ib_8 dX12_init_43 ?_
  obtain ⟨x10, wx10, gx10, h⟩ := d_bind h
  refine x_newI 45 hX gx10 aw_int (d_le h) dX12_init_45 ?_
  refine w_dup 47 hX rfl dX12_init_47 ?_
  refine w_iconst 0 48 hX ic_0 dX12_init_48 ?_
  refine w_iconst 1 49 hX ic_1 dX12_init_49 ?_
  obtain ⟨x11, wx11, gx11, h⟩ := d_bind h
  refine x_iast 50 hX gx11 dX12_init_50 ?_
  refine w_dup 51 hX rfl dX12_init_51 ?_
  refine w_iconst 1 52 hX ic_1 dX12_init_52 ?_
  refine w_iconst 1 53 hX ic_1 dX12_init_53 ?_
  obtain ⟨x12, wx12, gx12, h⟩ := d_bind h
  refine x_iast 54 hX gx12 dX12_init_54 ?_
  refine w_dup 55 hX rfl dX12_init_55 ?_
  refine w_iconst 2 56 hX ic_2 dX12_init_56 ?_
  refine w_iconst 1 57 hX ic_1 dX12_init_57 ?_
  obtain ⟨x13, wx13, gx13, h⟩ := d_bind h
  refine x_iast 58 hX gx13 dX12_init_58 ?_
  refine w_dup 59 hX rfl dX12_init_59 ?_
  refine w_iconst 3 60 hX ic_3 dX12_init_60 ?_
  refine w_iconst 1 61 hX ic_1 dX12_init_61 ?_
  obtain ⟨x14, wx14, gx14, h⟩ := d_bind h
  refine x_iast 62 hX gx14 dX12_init_62 ?_
  refine w_dup 63 hX rfl dX12_init_63 ?_
  refine w_iconst 4 64 hX ic_4 dX12_init_64 ?_
  refine w_iconst 1 65 hX ic_1 dX12_init_65 ?_
  obtain ⟨x15, wx15, gx15, h⟩ := d_bind h
  refine x_iast 66 hX gx15 dX12_init_66 ?_
  refine w_dup 67 hX rfl dX12_init_67 ?_
  refine w_iconst 5 68 hX ic_5 dX12_init_68 ?_
  refine w_iconst 1 69 hX ic_1 dX12_init_69 ?_
  obtain ⟨x16, wx16, gx16, h⟩ := d_bind h
  refine x_iast 70 hX gx16 dX12_init_70 ?_
  refine w_dup 71 hX rfl dX12_init_71 ?_
  refine w_bipush 6 72 hX ib_6 dX12_init_72 ?_
  refine w_iconst 1 74 hX ic_1 dX12_init_74 ?_
  obtain ⟨x17, wx17, gx17, h⟩ := d_bind h
  refine x_iast 75 hX gx17 dX12_init_75 ?_
  refine w_dup 76 hX rfl dX12_init_76 ?_
  refine w_bipush 7 77 hX ib_7 dX12_init_77 ?_
  refine w_iconst 1 79 hX ic_1 dX12_init_79 ?_
  obtain ⟨x18, wx18, gx18, h⟩ := d_bind h
  refine x_iast 80 hX gx18 dX12_init_80 ?_
  obtain ⟨x19, wx19, gx19, h⟩ := d_bind h
  refine x_putO (some x10) 81 hX CI_12 gx19 rfl fl_X12_26 rfl rfl (fun o => by cases o <;> rfl) (fun o => by cases o <;> rfl) dX12_init_81 ?_
  refine w_aload_n 0 84 hX rfl rfl dX12_init_84 ?_
  refine w_bipush 12 85 hX ib_12 dX12_init_85 ?_
  obtain ⟨x20, wx20, gx20, h⟩ := d_bind h
  refine x_newR 87 hX gx20 cl_X12_29 (d_le h) dX12_init_87 ?_
  obtain ⟨x21, wx21, gx21, h⟩ := d_bind h
  refine x_putO (some x20) 90 hX CI_12 gx21 rfl fl_X12_30 rfl rfl (fun o => by cases o <;> rfl) (fun o => by cases o <;> rfl) dX12_init_90 ?_
  refine w_aload_n 0 93 hX rfl rfl dX12_init_93 ?_
  refine w_sipush 150 94 hX isp_150 dX12_init_94 ?_
  obtain ⟨x22, wx22, gx22, h⟩ := d_bind h
  refine x_newR 97 hX gx22 cl_X12_29 (d_le h) dX12_init_97 ?_
  obtain ⟨x23, wx23, gx23, h⟩ := d_bind h
  refine x_putO (some x22) 100 hX CI_12 gx23 rfl fl_X12_34 rfl rfl (fun o => by cases o <;> rfl) (fun o => by cases o <;> rfl) dX12_init_100 ?_
  refine w_aload_n 0 103 hX rfl rfl dX12_init_103 ?_
  refine w_iconst 0 104 hX ic_0 dX12_init_104 ?_
  obtain ⟨x24, wx24, gx24, h⟩ := d_bind h
  refine x_newR 105 hX gx24 cl_X12_29 (d_le h) dX12_init_105 ?_
  obtain ⟨x25, wx25, gx25, h⟩ := d_bind h
  refine x_putO (some x24) 108 hX CI_12 gx25 rfl fl_X12_37 rfl rfl (fun o => by cases o <;> rfl) (fun o => by cases o <;> rfl) dX12_init_108 ?_
  obtain ⟨rfl, rfl⟩ := d_ret h
  exact w_vret 111 hX hR dX12_init_111 rfl)
noncomputable def DL_war_b754 (sl : Nat) (sv : Nat → Int32) (k721 : Int32 → Nat → Int32 → Dm (Option Nat)) (l2 : Int32) (l3 : Nat) (l8 : Int32) : Dm (Option Nat) :=
  k721 l2 l3 (l8 + 1)
theorem bDL_war_754 {G : Gt} {X : Xt} {w' : Wd} {v : Option Nat} (hX : CxOk G X cL_war 11 RL (some (ov v), w'.1, w'.2.1, w'.2.2) 95) (hR : CxRet G X (some (.object "OldestDownLaw$War")) (some (ov v), w'.1, w'.2.1, w'.2.2)) {k721 : Int32 → Nat → Int32 → Dm (Option Nat)} (hk721 : ∀ (l2 : Int32) (l3 : Nat) (l8 : Int32) (w : Wd), (k721 l2 l3 l8).1 w = some (v, w') → WM G X 721 [(0, .ref 0), (1, .ref 1999999), (2, .int l2), (3, .ref l3), (8, .int l8)] [] w.1 w.2.1 w.2.2) (l2 : Int32) (l3 : Nat) (l8 : Int32) (w : Wd) (h : (DL_war_b754 (gS G).2.1 (gS G).2.2 k721 l2 l3 l8).1 w = some (v, w')) : WM G X 754 [(0, .ref 0), (1, .ref 1999999), (2, .int l2), (3, .ref l3), (8, .int l8)] [] w.1 w.2.1 w.2.2 := by
  unfold DL_war_b754 at h
  refine w_iinc (lv' := [(8, .int (l8 + 1)), (0, .ref 0), (1, .ref 1999999), (2, .int l2), (3, .ref l3)]) 754 4 hX dL_war_754 rfl (inc_1 _) (by decide) rfl ?_
  refine w_goto (tgt := 721) 757 hX (by decide) dL_war_757 ?_
  exact w_sub [1, 2, 3, 4, 0] rfl (hk721 l2 l3 (l8 + 1) _ h)
noncomputable def DL_war_b721 (sl : Nat) (sv : Nat → Int32) (k721 : Int32 → Nat → Int32 → Dm (Option Nat)) (l2 : Int32) (l3 : Nat) (l8 : Int32) : Dm (Option Nat) :=
  (if 16 ≤ l8 then (dbind (DL_cell sl sv (l2 + 6)) fun x2 => dbind (DL_texts l3 x2) fun x3 => (if x3 = 0 then (dret none) else (dbind (DL_cell sl sv (l2 + 7)) fun x5 => dbind (dput (pfI l3 12 0 x5)) fun _ => dbind (dread (gfI l3 12 0)) fun x7 => dbind (dclW (fun u => FX11_state_0 x7 u)) fun x8 => dret (some l3)))) else (dbind (dread (gfI l3 12 8)) fun x9 => (if ((x9 >>> (l8 &&& 31)) &&& 1) = 1 then (dbind (dclW (fun u => FX11_set_0 4 l8 1 u)) fun x11 => (if x11 = 0 then (dret none) else (DL_war_b754 sl sv k721 l2 l3 l8))) else (DL_war_b754 sl sv k721 l2 l3 l8))))
theorem bDL_war_721 {G : Gt} {X : Xt} {w' : Wd} {v : Option Nat} (hX : CxOk G X cL_war 11 RL (some (ov v), w'.1, w'.2.1, w'.2.2) 95) (hR : CxRet G X (some (.object "OldestDownLaw$War")) (some (ov v), w'.1, w'.2.1, w'.2.2)) {k721 : Int32 → Nat → Int32 → Dm (Option Nat)} (hk721 : ∀ (l2 : Int32) (l3 : Nat) (l8 : Int32) (w : Wd), (k721 l2 l3 l8).1 w = some (v, w') → WM G X 721 [(0, .ref 0), (1, .ref 1999999), (2, .int l2), (3, .ref l3), (8, .int l8)] [] w.1 w.2.1 w.2.2) (l2 : Int32) (l3 : Nat) (l8 : Int32) (w : Wd) (h : (DL_war_b721 (gS G).2.1 (gS G).2.2 k721 l2 l3 l8).1 w = some (v, w')) : WM G X 721 [(0, .ref 0), (1, .ref 1999999), (2, .int l2), (3, .ref l3), (8, .int l8)] [] w.1 w.2.1 w.2.2 := by
  unfold DL_war_b721 at h
  refine w_iload 4 721 hX rfl dL_war_721 ?_
  refine w_bipush 16 723 hX ib_16 dL_war_723 ?_
  refine w_icmp_ge (tgt := 760) 725 hX dL_war_725 (by decide) (fun c1 => ?_) (fun c1 => ?_)
  · have h := dit h c1
    refine w_aload_n 0 760 hX rfl rfl dL_war_760 ?_
    refine w_aload_n 3 761 hX rfl rfl dL_war_761 ?_
    refine w_aload_n 1 762 hX rfl rfl dL_war_762 ?_
    refine w_iload_n 2 763 hX rfl rfl dL_war_763 ?_
    refine w_bipush 6 764 hX ib_6 dL_war_764 ?_
    refine w_iadd 766 hX dL_war_766 ?_
    obtain ⟨x2, wx2, gx2, h⟩ := d_bind h
    refine w_invSi (av := [.ref 1999999, .int (l2 + 6)]) (st := [.ref l3, .ref 0]) 767 hX ms_yL_cell mi_yL_cell ml_L_111 (CDL_cell (l2 + 6) gx2) rfl (by decide) (Nat.le_of_ble_eq_true rfl) (d_le h).1 (d_le h).2 dL_war_767 ?_
    obtain ⟨x3, wx3, gx3, h⟩ := d_bind h
    refine w_invSi (av := [.ref 0, .ref l3, .int x2]) (st := []) 770 hX ms_yL_texts mi_yL_texts ml_L_168 (CDL_texts l3 x2 gx3) rfl (by decide) (Nat.le_of_ble_eq_true rfl) (d_le h).1 (d_le h).2 dL_war_770 ?_
    refine w_if_ne (tgt := 778) 773 hX dL_war_773 (by decide) (fun c4 => ?_) (fun c4 => ?_)
    · have h := die h c4
      refine w_aload_n 3 778 hX rfl rfl dL_war_778 ?_
      refine w_aload_n 1 779 hX rfl rfl dL_war_779 ?_
      refine w_iload_n 2 780 hX rfl rfl dL_war_780 ?_
      refine w_bipush 7 781 hX ib_7 dL_war_781 ?_
      refine w_iadd 783 hX dL_war_783 ?_
      obtain ⟨x5, wx5, gx5, h⟩ := d_bind h
      refine w_invSi (av := [.ref 1999999, .int (l2 + 7)]) (st := [.ref l3]) 784 hX ms_yL_cell mi_yL_cell ml_L_111 (CDL_cell (l2 + 7) gx5) rfl (by decide) (Nat.le_of_ble_eq_true rfl) (d_le h).1 (d_le h).2 dL_war_784 ?_
      obtain ⟨x6, wx6, gx6, h⟩ := d_bind h
      refine x_putIN 787 hX CI_12 gx6 rfl fl_L_172 rfl rfl rfl rfl dL_war_787 ?_
      refine w_aload_n 0 790 hX rfl rfl dL_war_790 ?_
      refine w_aload_n 3 791 hX rfl rfl dL_war_791 ?_
      obtain ⟨x7, gx7, h⟩ := d_rd h
      refine x_getIN 792 hX CI_12 gx7 rfl fl_L_172 rfl dL_war_792 ?_
      obtain ⟨x8, wx8, gx8, h⟩ := d_bind h
      refine w_invVi (av := [.int x7]) (st := []) 795 hX CI_11 (oks_0 (dcl_ok gx8).1) rfl mv_yX11_state mi_yX11_state ml_L_175 (cs_W (fun G u g => CX11_state_0 (G := G) x7 _ g) gx8) rfl (by decide) (Nat.le_of_ble_eq_true rfl) (d_le h).1 (d_le h).2 dL_war_795 ?_
      refine w_pop 798 hX rfl dL_war_798 ?_
      refine w_aload_n 3 799 hX rfl rfl dL_war_799 ?_
      obtain ⟨rfl, rfl⟩ := d_ret h
      exact w_aret 800 hX hR (Or.inl ⟨_, rfl⟩) dL_war_800 rfl
    · have h := dit h c4
      refine w_null 776 hX dL_war_776 ?_
      obtain ⟨rfl, rfl⟩ := d_ret h
      exact w_anret 777 hX hR (Or.inl ⟨_, rfl⟩) dL_war_777 rfl
  · have h := die h c1
    refine w_aload_n 3 728 hX rfl rfl dL_war_728 ?_
    obtain ⟨x9, gx9, h⟩ := d_rd h
    refine x_getIN 729 hX CI_12 gx9 rfl fl_L_162 rfl dL_war_729 ?_
    refine w_iload 4 732 hX rfl dL_war_732 ?_
    refine w_ishr 734 hX dL_war_734 ?_
    refine w_iconst 1 735 hX ic_1 dL_war_735 ?_
    refine w_iand 736 hX dL_war_736 ?_
    refine w_iconst 1 737 hX ic_1 dL_war_737 ?_
    refine w_icmp_ne (tgt := 754) 738 hX dL_war_738 (by decide) (fun c10 => ?_) (fun c10 => ?_)
    · have h := die h c10
      exact bDL_war_754 hX hR hk721 l2 l3 l8 _ h
    · have h := dit h c10
      refine w_aload_n 0 741 hX rfl rfl dL_war_741 ?_
      refine w_iconst 4 742 hX ic_4 dL_war_742 ?_
      refine w_iload 4 743 hX rfl dL_war_743 ?_
      refine w_iconst 1 745 hX ic_1 dL_war_745 ?_
      obtain ⟨x11, wx11, gx11, h⟩ := d_bind h
      refine w_invVi (av := [.int 4, .int l8, .int 1]) (st := []) 746 hX CI_11 (oks_0 (dcl_ok gx11).1) rfl mv_yX11_set mi_yX11_set ml_L_148 (cs_W (fun G u g => CX11_set_0 (G := G) 4 l8 1 _ g) gx11) rfl (by decide) (Nat.le_of_ble_eq_true rfl) (d_le h).1 (d_le h).2 dL_war_746 ?_
      refine w_if_ne (tgt := 754) 749 hX dL_war_749 (by decide) (fun c12 => ?_) (fun c12 => ?_)
      · have h := die h c12
        exact bDL_war_754 hX hR hk721 l2 l3 l8 _ h
      · have h := dit h c12
        refine w_null 752 hX dL_war_752 ?_
        obtain ⟨rfl, rfl⟩ := d_ret h
        exact w_anret 753 hX hR (Or.inl ⟨_, rfl⟩) dL_war_753 rfl
noncomputable def DL_war_L721 (sl : Nat) (sv : Nat → Int32) : Nat → Int32 → Nat → Int32 → Dm (Option Nat)
  | 0, _, _, _ => dno
  | n + 1, l2, l3, l8 => DL_war_b721 sl sv (DL_war_L721 sl sv n) l2 l3 l8
theorem lDL_war_721 {G : Gt} {X : Xt} {w' : Wd} {v : Option Nat} (hX : CxOk G X cL_war 11 RL (some (ov v), w'.1, w'.2.1, w'.2.2) 95) (hR : CxRet G X (some (.object "OldestDownLaw$War")) (some (ov v), w'.1, w'.2.1, w'.2.2)) : ∀ (n : Nat) (l2 : Int32) (l3 : Nat) (l8 : Int32) (w : Wd), (DL_war_L721 (gS G).2.1 (gS G).2.2 n l2 l3 l8).1 w = some (v, w') → WM G X 721 [(0, .ref 0), (1, .ref 1999999), (2, .int l2), (3, .ref l3), (8, .int l8)] [] w.1 w.2.1 w.2.2 := by
  intro n
  induction n with
  | zero =>
    intro l2 l3 l8 w h
    exact dn_ h
  | succ n ih =>
    intro l2 l3 l8 w h
    exact bDL_war_721 hX hR ih l2 l3 l8 w h
noncomputable def DL_war_b716 (sl : Nat) (sv : Nat → Int32) : Dm (Option Nat) :=
  dret none
theorem bDL_war_716 {G : Gt} {X : Xt} {w' : Wd} {v : Option Nat} (hX : CxOk G X cL_war 11 RL (some (ov v), w'.1, w'.2.1, w'.2.2) 95) (hR : CxRet G X (some (.object "OldestDownLaw$War")) (some (ov v), w'.1, w'.2.1, w'.2.2)) (w : Wd) (h : (DL_war_b716 (gS G).2.1 (gS G).2.2 ).1 w = some (v, w')) : WM G X 716 [] [] w.1 w.2.1 w.2.2 := by
  unfold DL_war_b716 at h
  refine w_null 716 hX dL_war_716 ?_
  obtain ⟨rfl, rfl⟩ := d_ret h
  exact w_anret 717 hX hR (Or.inl ⟨_, rfl⟩) dL_war_717 rfl
noncomputable def DL_war_b615 (sl : Nat) (sv : Nat → Int32) (k615 : Int32 → Nat → Int32 → Int32 → Dm (Option Nat)) (l2 : Int32) (l3 : Nat) (l4 : Int32) (l8 : Int32) : Dm (Option Nat) :=
  (if 2 ≤ l8 then (dbind (dread (gfI l3 12 3)) fun x2 => dbind (dclW (fun u => FX11_set_0 0 0 x2 u)) fun x3 => (if x3 = 0 then (DL_war_b716 sl sv) else (dbind (dread (gfI l3 12 4)) fun x5 => dbind (dclW (fun u => FX11_set_0 1 0 x5 u)) fun x6 => (if x6 = 0 then (DL_war_b716 sl sv) else (dbind (dread (gfI l3 12 5)) fun x8 => dbind (dclW (fun u => FX11_set_0 2 0 x8 u)) fun x9 => (if x9 = 0 then (DL_war_b716 sl sv) else (dbind (dread (gfR l3 12 13)) fun x11 => dbind (dread (iald x11 0)) fun x12 => dbind (dclW (fun u => FX11_set_0 3 0 x12 u)) fun x13 => (if x13 = 0 then (DL_war_b716 sl sv) else (dbind (dread (gfR l3 12 13)) fun x15 => dbind (dread (iald x15 1)) fun x16 => dbind (dclW (fun u => FX11_set_0 3 1 x16 u)) fun x17 => (if x17 = 0 then (DL_war_b716 sl sv) else (DL_war_L721 sl sv FU l2 l3 0))))))))))) else (dbind (dread (gfR l3 12 13)) fun x19 => dbind (DL_between (l4 >>> ((8 + l8) &&& 31)) 0 4) fun x20 => dbind (dput (iast x19 l8 x20)) fun _ => k615 l2 l3 l4 (l8 + 1)))
theorem bDL_war_615 {G : Gt} {X : Xt} {w' : Wd} {v : Option Nat} (hX : CxOk G X cL_war 11 RL (some (ov v), w'.1, w'.2.1, w'.2.2) 95) (hR : CxRet G X (some (.object "OldestDownLaw$War")) (some (ov v), w'.1, w'.2.1, w'.2.2)) {k615 : Int32 → Nat → Int32 → Int32 → Dm (Option Nat)} (hk615 : ∀ (l2 : Int32) (l3 : Nat) (l4 : Int32) (l8 : Int32) (w : Wd), (k615 l2 l3 l4 l8).1 w = some (v, w') → WM G X 615 [(0, .ref 0), (1, .ref 1999999), (2, .int l2), (3, .ref l3), (4, .int l4), (8, .int l8)] [] w.1 w.2.1 w.2.2) (l2 : Int32) (l3 : Nat) (l4 : Int32) (l8 : Int32) (w : Wd) (h : (DL_war_b615 (gS G).2.1 (gS G).2.2 k615 l2 l3 l4 l8).1 w = some (v, w')) : WM G X 615 [(0, .ref 0), (1, .ref 1999999), (2, .int l2), (3, .ref l3), (4, .int l4), (8, .int l8)] [] w.1 w.2.1 w.2.2 := by
  unfold DL_war_b615 at h
  refine w_iload 5 615 hX rfl dL_war_615 ?_
  refine w_iconst 2 617 hX ic_2 dL_war_617 ?_
  refine w_icmp_ge (tgt := 647) 618 hX dL_war_618 (by decide) (fun c1 => ?_) (fun c1 => ?_)
  · have h := dit h c1
    refine w_aload_n 0 647 hX rfl rfl dL_war_647 ?_
    refine w_iconst 0 648 hX ic_0 dL_war_648 ?_
    refine w_iconst 0 649 hX ic_0 dL_war_649 ?_
    refine w_aload_n 3 650 hX rfl rfl dL_war_650 ?_
    obtain ⟨x2, gx2, h⟩ := d_rd h
    refine x_getIN 651 hX CI_12 gx2 rfl fl_L_152 rfl dL_war_651 ?_
    obtain ⟨x3, wx3, gx3, h⟩ := d_bind h
    refine w_invVi (av := [.int 0, .int 0, .int x2]) (st := []) 654 hX CI_11 (oks_0 (dcl_ok gx3).1) rfl mv_yX11_set mi_yX11_set ml_L_148 (cs_W (fun G u g => CX11_set_0 (G := G) 0 0 x2 _ g) gx3) rfl (by decide) (Nat.le_of_ble_eq_true rfl) (d_le h).1 (d_le h).2 dL_war_654 ?_
    refine w_if_eq (tgt := 716) 657 hX dL_war_657 (by decide) (fun c4 => ?_) (fun c4 => ?_)
    · have h := dit h c4
      exact w_sub [] rfl (bDL_war_716 hX hR  _ h)
    · have h := die h c4
      refine w_aload_n 0 660 hX rfl rfl dL_war_660 ?_
      refine w_iconst 1 661 hX ic_1 dL_war_661 ?_
      refine w_iconst 0 662 hX ic_0 dL_war_662 ?_
      refine w_aload_n 3 663 hX rfl rfl dL_war_663 ?_
      obtain ⟨x5, gx5, h⟩ := d_rd h
      refine x_getIN 664 hX CI_12 gx5 rfl fl_L_155 rfl dL_war_664 ?_
      obtain ⟨x6, wx6, gx6, h⟩ := d_bind h
      refine w_invVi (av := [.int 1, .int 0, .int x5]) (st := []) 667 hX CI_11 (oks_0 (dcl_ok gx6).1) rfl mv_yX11_set mi_yX11_set ml_L_148 (cs_W (fun G u g => CX11_set_0 (G := G) 1 0 x5 _ g) gx6) rfl (by decide) (Nat.le_of_ble_eq_true rfl) (d_le h).1 (d_le h).2 dL_war_667 ?_
      refine w_if_eq (tgt := 716) 670 hX dL_war_670 (by decide) (fun c7 => ?_) (fun c7 => ?_)
      · have h := dit h c7
        exact w_sub [] rfl (bDL_war_716 hX hR  _ h)
      · have h := die h c7
        refine w_aload_n 0 673 hX rfl rfl dL_war_673 ?_
        refine w_iconst 2 674 hX ic_2 dL_war_674 ?_
        refine w_iconst 0 675 hX ic_0 dL_war_675 ?_
        refine w_aload_n 3 676 hX rfl rfl dL_war_676 ?_
        obtain ⟨x8, gx8, h⟩ := d_rd h
        refine x_getIN 677 hX CI_12 gx8 rfl fl_L_158 rfl dL_war_677 ?_
        obtain ⟨x9, wx9, gx9, h⟩ := d_bind h
        refine w_invVi (av := [.int 2, .int 0, .int x8]) (st := []) 680 hX CI_11 (oks_0 (dcl_ok gx9).1) rfl mv_yX11_set mi_yX11_set ml_L_148 (cs_W (fun G u g => CX11_set_0 (G := G) 2 0 x8 _ g) gx9) rfl (by decide) (Nat.le_of_ble_eq_true rfl) (d_le h).1 (d_le h).2 dL_war_680 ?_
        refine w_if_eq (tgt := 716) 683 hX dL_war_683 (by decide) (fun c10 => ?_) (fun c10 => ?_)
        · have h := dit h c10
          exact w_sub [] rfl (bDL_war_716 hX hR  _ h)
        · have h := die h c10
          refine w_aload_n 0 686 hX rfl rfl dL_war_686 ?_
          refine w_iconst 3 687 hX ic_3 dL_war_687 ?_
          refine w_iconst 0 688 hX ic_0 dL_war_688 ?_
          refine w_aload_n 3 689 hX rfl rfl dL_war_689 ?_
          obtain ⟨x11, gx11, h⟩ := d_rd h
          refine x_getRN 690 hX CI_12 gx11 rfl fl_L_165 rfl dL_war_690 ?_
          refine w_iconst 0 693 hX ic_0 dL_war_693 ?_
          obtain ⟨x12, gx12, h⟩ := d_rd h
          refine x_iald 694 hX gx12 dL_war_694 ?_
          obtain ⟨x13, wx13, gx13, h⟩ := d_bind h
          refine w_invVi (av := [.int 3, .int 0, .int x12]) (st := []) 695 hX CI_11 (oks_0 (dcl_ok gx13).1) rfl mv_yX11_set mi_yX11_set ml_L_148 (cs_W (fun G u g => CX11_set_0 (G := G) 3 0 x12 _ g) gx13) rfl (by decide) (Nat.le_of_ble_eq_true rfl) (d_le h).1 (d_le h).2 dL_war_695 ?_
          refine w_if_eq (tgt := 716) 698 hX dL_war_698 (by decide) (fun c14 => ?_) (fun c14 => ?_)
          · have h := dit h c14
            exact w_sub [] rfl (bDL_war_716 hX hR  _ h)
          · have h := die h c14
            refine w_aload_n 0 701 hX rfl rfl dL_war_701 ?_
            refine w_iconst 3 702 hX ic_3 dL_war_702 ?_
            refine w_iconst 1 703 hX ic_1 dL_war_703 ?_
            refine w_aload_n 3 704 hX rfl rfl dL_war_704 ?_
            obtain ⟨x15, gx15, h⟩ := d_rd h
            refine x_getRN 705 hX CI_12 gx15 rfl fl_L_165 rfl dL_war_705 ?_
            refine w_iconst 1 708 hX ic_1 dL_war_708 ?_
            obtain ⟨x16, gx16, h⟩ := d_rd h
            refine x_iald 709 hX gx16 dL_war_709 ?_
            obtain ⟨x17, wx17, gx17, h⟩ := d_bind h
            refine w_invVi (av := [.int 3, .int 1, .int x16]) (st := []) 710 hX CI_11 (oks_0 (dcl_ok gx17).1) rfl mv_yX11_set mi_yX11_set ml_L_148 (cs_W (fun G u g => CX11_set_0 (G := G) 3 1 x16 _ g) gx17) rfl (by decide) (Nat.le_of_ble_eq_true rfl) (d_le h).1 (d_le h).2 dL_war_710 ?_
            refine w_if_ne (tgt := 718) 713 hX dL_war_713 (by decide) (fun c18 => ?_) (fun c18 => ?_)
            · have h := die h c18
              refine w_iconst 0 718 hX ic_0 dL_war_718 ?_
              refine w_istore (lv' := [(8, .int 0), (0, .ref 0), (1, .ref 1999999), (2, .int l2), (3, .ref l3), (4, .int l4)]) 719 hX dL_war_719 (by decide) rfl ?_
              exact w_sub [1, 2, 3, 4, 0] rfl (lDL_war_721 hX hR FU l2 l3 0 _ h)
            · have h := dit h c18
              exact w_sub [] rfl (bDL_war_716 hX hR  _ h)
  · have h := die h c1
    refine w_aload_n 3 621 hX rfl rfl dL_war_621 ?_
    obtain ⟨x19, gx19, h⟩ := d_rd h
    refine x_getRN 622 hX CI_12 gx19 rfl fl_L_165 rfl dL_war_622 ?_
    refine w_iload 5 625 hX rfl dL_war_625 ?_
    refine w_iload 4 627 hX rfl dL_war_627 ?_
    refine w_bipush 8 629 hX ib_8 dL_war_629 ?_
    refine w_iload 5 631 hX rfl dL_war_631 ?_
    refine w_iadd 633 hX dL_war_633 ?_
    refine w_ishr 634 hX dL_war_634 ?_
    refine w_iconst 0 635 hX ic_0 dL_war_635 ?_
    refine w_iconst 4 636 hX ic_4 dL_war_636 ?_
    obtain ⟨x20, wx20, gx20, h⟩ := d_bind h
    refine w_invSi (av := [.int (l4 >>> ((8 + l8) &&& 31)), .int 0, .int 4]) (st := [.int l8, .ref x19]) 637 hX ms_yL_between mi_yL_between ml_L_43 (CDL_between (l4 >>> ((8 + l8) &&& 31)) 0 4 gx20) rfl (by decide) (Nat.le_of_ble_eq_true rfl) (d_le h).1 (d_le h).2 dL_war_637 ?_
    obtain ⟨x21, wx21, gx21, h⟩ := d_bind h
    refine x_iast 640 hX gx21 dL_war_640 ?_
    refine w_iinc (lv' := [(8, .int (l8 + 1)), (0, .ref 0), (1, .ref 1999999), (2, .int l2), (3, .ref l3), (4, .int l4)]) 641 5 hX dL_war_641 rfl (inc_1 _) (by decide) rfl ?_
    refine w_goto (tgt := 615) 644 hX (by decide) dL_war_644 ?_
    exact w_sub [1, 2, 3, 4, 5, 0] rfl (hk615 l2 l3 l4 (l8 + 1) _ h)
noncomputable def DL_war_L615 (sl : Nat) (sv : Nat → Int32) : Nat → Int32 → Nat → Int32 → Int32 → Dm (Option Nat)
  | 0, _, _, _, _ => dno
  | n + 1, l2, l3, l4, l8 => DL_war_b615 sl sv (DL_war_L615 sl sv n) l2 l3 l4 l8
theorem lDL_war_615 {G : Gt} {X : Xt} {w' : Wd} {v : Option Nat} (hX : CxOk G X cL_war 11 RL (some (ov v), w'.1, w'.2.1, w'.2.2) 95) (hR : CxRet G X (some (.object "OldestDownLaw$War")) (some (ov v), w'.1, w'.2.1, w'.2.2)) : ∀ (n : Nat) (l2 : Int32) (l3 : Nat) (l4 : Int32) (l8 : Int32) (w : Wd), (DL_war_L615 (gS G).2.1 (gS G).2.2 n l2 l3 l4 l8).1 w = some (v, w') → WM G X 615 [(0, .ref 0), (1, .ref 1999999), (2, .int l2), (3, .ref l3), (4, .int l4), (8, .int l8)] [] w.1 w.2.1 w.2.2 := by
  intro n
  induction n with
  | zero =>
    intro l2 l3 l4 l8 w h
    exact dn_ h
  | succ n ih =>
    intro l2 l3 l4 l8 w h
    exact bDL_war_615 hX hR ih l2 l3 l4 l8 w h
noncomputable def DL_war_b535 (sl : Nat) (sv : Nat → Int32) : Dm (Option Nat) :=
  dret none
theorem bDL_war_535 {G : Gt} {X : Xt} {w' : Wd} {v : Option Nat} (hX : CxOk G X cL_war 11 RL (some (ov v), w'.1, w'.2.1, w'.2.2) 95) (hR : CxRet G X (some (.object "OldestDownLaw$War")) (some (ov v), w'.1, w'.2.1, w'.2.2)) (w : Wd) (h : (DL_war_b535 (gS G).2.1 (gS G).2.2 ).1 w = some (v, w')) : WM G X 535 [] [] w.1 w.2.1 w.2.2 := by
  unfold DL_war_b535 at h
  refine w_null 535 hX dL_war_535 ?_
  obtain ⟨rfl, rfl⟩ := d_ret h
  exact w_anret 536 hX hR (Or.inl ⟨_, rfl⟩) dL_war_536 rfl
noncomputable def DL_war_b500 (sl : Nat) (sv : Nat → Int32) (k467 : Int32 → Nat → Int32 → Int32 → Int32 → Nat → Int32 → Dm (Option Nat)) (l2 : Int32) (l3 : Nat) (l4 : Int32) (l7 : Int32) (l8 : Int32) (l9 : Nat) (l10 : Int32) : Dm (Option Nat) :=
  k467 l2 l3 l4 l7 l8 l9 (l10 + 1)
theorem bDL_war_500 {G : Gt} {X : Xt} {w' : Wd} {v : Option Nat} (hX : CxOk G X cL_war 11 RL (some (ov v), w'.1, w'.2.1, w'.2.2) 95) (hR : CxRet G X (some (.object "OldestDownLaw$War")) (some (ov v), w'.1, w'.2.1, w'.2.2)) {k467 : Int32 → Nat → Int32 → Int32 → Int32 → Nat → Int32 → Dm (Option Nat)} (hk467 : ∀ (l2 : Int32) (l3 : Nat) (l4 : Int32) (l7 : Int32) (l8 : Int32) (l9 : Nat) (l10 : Int32) (w : Wd), (k467 l2 l3 l4 l7 l8 l9 l10).1 w = some (v, w') → WM G X 467 [(0, .ref 0), (1, .ref 1999999), (2, .int l2), (3, .ref l3), (4, .int l4), (7, .int l7), (8, .int l8), (9, .ref l9), (10, .int l10)] [] w.1 w.2.1 w.2.2) (l2 : Int32) (l3 : Nat) (l4 : Int32) (l7 : Int32) (l8 : Int32) (l9 : Nat) (l10 : Int32) (w : Wd) (h : (DL_war_b500 (gS G).2.1 (gS G).2.2 k467 l2 l3 l4 l7 l8 l9 l10).1 w = some (v, w')) : WM G X 500 [(0, .ref 0), (1, .ref 1999999), (2, .int l2), (3, .ref l3), (4, .int l4), (7, .int l7), (8, .int l8), (9, .ref l9), (10, .int l10)] [] w.1 w.2.1 w.2.2 := by
  unfold DL_war_b500 at h
  refine w_iinc (lv' := [(10, .int (l10 + 1)), (0, .ref 0), (1, .ref 1999999), (2, .int l2), (3, .ref l3), (4, .int l4), (7, .int l7), (8, .int l8), (9, .ref l9)]) 500 8 hX dL_war_500 rfl (inc_1 _) (by decide) rfl ?_
  refine w_goto (tgt := 467) 503 hX (by decide) dL_war_503 ?_
  exact w_sub [1, 2, 3, 4, 5, 6, 7, 8, 0] rfl (hk467 l2 l3 l4 l7 l8 l9 (l10 + 1) _ h)
noncomputable def DL_war_b467 (sl : Nat) (sv : Nat → Int32) (k281 : Int32 → Nat → Int32 → Int32 → Int32 → Dm (Option Nat)) (k467 : Int32 → Nat → Int32 → Int32 → Int32 → Nat → Int32 → Dm (Option Nat)) (l2 : Int32) (l3 : Nat) (l4 : Int32) (l7 : Int32) (l8 : Int32) (l9 : Nat) (l10 : Int32) : Dm (Option Nat) :=
  (if 8 ≤ l10 then (dbind (dread (iald l9 3)) fun x2 => dbind (dclW (fun u => FX11_set_0 5 l8 x2 u)) fun x3 => (if x3 = 0 then (DL_war_b535 sl sv) else (dbind (dread (iald l9 5)) fun x5 => dbind (dclW (fun u => FX11_set_0 6 l8 x5 u)) fun x6 => (if x6 = 0 then (DL_war_b535 sl sv) else (k281 l2 l3 l4 l7 (l8 + 1)))))) else (dbind (dread (iald l9 4)) fun x8 => (if ((x8 >>> (l10 &&& 31)) &&& 1) = 1 then (dbind (dclW (fun u => FX11_teach_0 l8 l10 u)) fun x10 => (if x10 = 0 then (dret none) else (DL_war_b500 sl sv k467 l2 l3 l4 l7 l8 l9 l10))) else (DL_war_b500 sl sv k467 l2 l3 l4 l7 l8 l9 l10))))
theorem bDL_war_467 {G : Gt} {X : Xt} {w' : Wd} {v : Option Nat} (hX : CxOk G X cL_war 11 RL (some (ov v), w'.1, w'.2.1, w'.2.2) 95) (hR : CxRet G X (some (.object "OldestDownLaw$War")) (some (ov v), w'.1, w'.2.1, w'.2.2)) {k281 : Int32 → Nat → Int32 → Int32 → Int32 → Dm (Option Nat)} (hk281 : ∀ (l2 : Int32) (l3 : Nat) (l4 : Int32) (l7 : Int32) (l8 : Int32) (w : Wd), (k281 l2 l3 l4 l7 l8).1 w = some (v, w') → WM G X 281 [(0, .ref 0), (1, .ref 1999999), (2, .int l2), (3, .ref l3), (4, .int l4), (7, .int l7), (8, .int l8)] [] w.1 w.2.1 w.2.2) {k467 : Int32 → Nat → Int32 → Int32 → Int32 → Nat → Int32 → Dm (Option Nat)} (hk467 : ∀ (l2 : Int32) (l3 : Nat) (l4 : Int32) (l7 : Int32) (l8 : Int32) (l9 : Nat) (l10 : Int32) (w : Wd), (k467 l2 l3 l4 l7 l8 l9 l10).1 w = some (v, w') → WM G X 467 [(0, .ref 0), (1, .ref 1999999), (2, .int l2), (3, .ref l3), (4, .int l4), (7, .int l7), (8, .int l8), (9, .ref l9), (10, .int l10)] [] w.1 w.2.1 w.2.2) (l2 : Int32) (l3 : Nat) (l4 : Int32) (l7 : Int32) (l8 : Int32) (l9 : Nat) (l10 : Int32) (w : Wd) (h : (DL_war_b467 (gS G).2.1 (gS G).2.2 k281 k467 l2 l3 l4 l7 l8 l9 l10).1 w = some (v, w')) : WM G X 467 [(0, .ref 0), (1, .ref 1999999), (2, .int l2), (3, .ref l3), (4, .int l4), (7, .int l7), (8, .int l8), (9, .ref l9), (10, .int l10)] [] w.1 w.2.1 w.2.2 := by
  unfold DL_war_b467 at h
  refine w_iload 8 467 hX rfl dL_war_467 ?_
  refine w_bipush 8 469 hX ib_8 dL_war_469 ?_
  refine w_icmp_ge (tgt := 506) 471 hX dL_war_471 (by decide) (fun c1 => ?_) (fun c1 => ?_)
  · have h := dit h c1
    refine w_aload_n 0 506 hX rfl rfl dL_war_506 ?_
    refine w_iconst 5 507 hX ic_5 dL_war_507 ?_
    refine w_iload 6 508 hX rfl dL_war_508 ?_
    refine w_aload 7 510 hX rfl dL_war_510 ?_
    refine w_iconst 3 512 hX ic_3 dL_war_512 ?_
    obtain ⟨x2, gx2, h⟩ := d_rd h
    refine x_iald 513 hX gx2 dL_war_513 ?_
    obtain ⟨x3, wx3, gx3, h⟩ := d_bind h
    refine w_invVi (av := [.int 5, .int l8, .int x2]) (st := []) 514 hX CI_11 (oks_0 (dcl_ok gx3).1) rfl mv_yX11_set mi_yX11_set ml_L_148 (cs_W (fun G u g => CX11_set_0 (G := G) 5 l8 x2 _ g) gx3) rfl (by decide) (Nat.le_of_ble_eq_true rfl) (d_le h).1 (d_le h).2 dL_war_514 ?_
    refine w_if_eq (tgt := 535) 517 hX dL_war_517 (by decide) (fun c4 => ?_) (fun c4 => ?_)
    · have h := dit h c4
      exact w_sub [] rfl (bDL_war_535 hX hR  _ h)
    · have h := die h c4
      refine w_aload_n 0 520 hX rfl rfl dL_war_520 ?_
      refine w_bipush 6 521 hX ib_6 dL_war_521 ?_
      refine w_iload 6 523 hX rfl dL_war_523 ?_
      refine w_aload 7 525 hX rfl dL_war_525 ?_
      refine w_iconst 5 527 hX ic_5 dL_war_527 ?_
      obtain ⟨x5, gx5, h⟩ := d_rd h
      refine x_iald 528 hX gx5 dL_war_528 ?_
      obtain ⟨x6, wx6, gx6, h⟩ := d_bind h
      refine w_invVi (av := [.int 6, .int l8, .int x5]) (st := []) 529 hX CI_11 (oks_0 (dcl_ok gx6).1) rfl mv_yX11_set mi_yX11_set ml_L_148 (cs_W (fun G u g => CX11_set_0 (G := G) 6 l8 x5 _ g) gx6) rfl (by decide) (Nat.le_of_ble_eq_true rfl) (d_le h).1 (d_le h).2 dL_war_529 ?_
      refine w_if_ne (tgt := 537) 532 hX dL_war_532 (by decide) (fun c7 => ?_) (fun c7 => ?_)
      · have h := die h c7
        refine w_iinc (lv' := [(8, .int (l8 + 1)), (0, .ref 0), (1, .ref 1999999), (2, .int l2), (3, .ref l3), (4, .int l4), (7, .int l7), (9, .ref l9), (10, .int l10)]) 537 6 hX dL_war_537 rfl (inc_1 _) (by decide) rfl ?_
        refine w_goto (tgt := 281) 540 hX (by decide) dL_war_540 ?_
        exact w_sub [1, 2, 3, 4, 5, 6, 0] rfl (hk281 l2 l3 l4 l7 (l8 + 1) _ h)
      · have h := dit h c7
        exact w_sub [] rfl (bDL_war_535 hX hR  _ h)
  · have h := die h c1
    refine w_aload 7 474 hX rfl dL_war_474 ?_
    refine w_iconst 4 476 hX ic_4 dL_war_476 ?_
    obtain ⟨x8, gx8, h⟩ := d_rd h
    refine x_iald 477 hX gx8 dL_war_477 ?_
    refine w_iload 8 478 hX rfl dL_war_478 ?_
    refine w_ishr 480 hX dL_war_480 ?_
    refine w_iconst 1 481 hX ic_1 dL_war_481 ?_
    refine w_iand 482 hX dL_war_482 ?_
    refine w_iconst 1 483 hX ic_1 dL_war_483 ?_
    refine w_icmp_ne (tgt := 500) 484 hX dL_war_484 (by decide) (fun c9 => ?_) (fun c9 => ?_)
    · have h := die h c9
      exact bDL_war_500 hX hR hk467 l2 l3 l4 l7 l8 l9 l10 _ h
    · have h := dit h c9
      refine w_aload_n 0 487 hX rfl rfl dL_war_487 ?_
      refine w_iload 6 488 hX rfl dL_war_488 ?_
      refine w_iload 8 490 hX rfl dL_war_490 ?_
      obtain ⟨x10, wx10, gx10, h⟩ := d_bind h
      refine w_invVi (av := [.int l8, .int l10]) (st := []) 492 hX CI_11 (oks_0 (dcl_ok gx10).1) rfl mv_yX11_teach mi_yX11_teach ml_L_144 (cs_W (fun G u g => CX11_teach_0 (G := G) l8 l10 _ g) gx10) rfl (by decide) (Nat.le_of_ble_eq_true rfl) (d_le h).1 (d_le h).2 dL_war_492 ?_
      refine w_if_ne (tgt := 500) 495 hX dL_war_495 (by decide) (fun c11 => ?_) (fun c11 => ?_)
      · have h := die h c11
        exact bDL_war_500 hX hR hk467 l2 l3 l4 l7 l8 l9 l10 _ h
      · have h := dit h c11
        refine w_null 498 hX dL_war_498 ?_
        obtain ⟨rfl, rfl⟩ := d_ret h
        exact w_anret 499 hX hR (Or.inl ⟨_, rfl⟩) dL_war_499 rfl
noncomputable def DL_war_L467 (sl : Nat) (sv : Nat → Int32) (k281 : Int32 → Nat → Int32 → Int32 → Int32 → Dm (Option Nat)) : Nat → Int32 → Nat → Int32 → Int32 → Int32 → Nat → Int32 → Dm (Option Nat)
  | 0, _, _, _, _, _, _, _ => dno
  | n + 1, l2, l3, l4, l7, l8, l9, l10 => DL_war_b467 sl sv k281 (DL_war_L467 sl sv k281 n) l2 l3 l4 l7 l8 l9 l10
theorem lDL_war_467 {G : Gt} {X : Xt} {w' : Wd} {v : Option Nat} (hX : CxOk G X cL_war 11 RL (some (ov v), w'.1, w'.2.1, w'.2.2) 95) (hR : CxRet G X (some (.object "OldestDownLaw$War")) (some (ov v), w'.1, w'.2.1, w'.2.2)) {k281 : Int32 → Nat → Int32 → Int32 → Int32 → Dm (Option Nat)} (hk281 : ∀ (l2 : Int32) (l3 : Nat) (l4 : Int32) (l7 : Int32) (l8 : Int32) (w : Wd), (k281 l2 l3 l4 l7 l8).1 w = some (v, w') → WM G X 281 [(0, .ref 0), (1, .ref 1999999), (2, .int l2), (3, .ref l3), (4, .int l4), (7, .int l7), (8, .int l8)] [] w.1 w.2.1 w.2.2) : ∀ (n : Nat) (l2 : Int32) (l3 : Nat) (l4 : Int32) (l7 : Int32) (l8 : Int32) (l9 : Nat) (l10 : Int32) (w : Wd), (DL_war_L467 (gS G).2.1 (gS G).2.2 k281 n l2 l3 l4 l7 l8 l9 l10).1 w = some (v, w') → WM G X 467 [(0, .ref 0), (1, .ref 1999999), (2, .int l2), (3, .ref l3), (4, .int l4), (7, .int l7), (8, .int l8), (9, .ref l9), (10, .int l10)] [] w.1 w.2.1 w.2.2 := by
  intro n
  induction n with
  | zero =>
    intro l2 l3 l4 l7 l8 l9 l10 w h
    exact dn_ h
  | succ n ih =>
    intro l2 l3 l4 l7 l8 l9 l10 w h
    exact bDL_war_467 hX hR hk281 ih l2 l3 l4 l7 l8 l9 l10 w h
noncomputable def DL_war_b452 (sl : Nat) (sv : Nat → Int32) : Dm (Option Nat) :=
  dret none
theorem bDL_war_452 {G : Gt} {X : Xt} {w' : Wd} {v : Option Nat} (hX : CxOk G X cL_war 11 RL (some (ov v), w'.1, w'.2.1, w'.2.2) 95) (hR : CxRet G X (some (.object "OldestDownLaw$War")) (some (ov v), w'.1, w'.2.1, w'.2.2)) (w : Wd) (h : (DL_war_b452 (gS G).2.1 (gS G).2.2 ).1 w = some (v, w')) : WM G X 452 [] [] w.1 w.2.1 w.2.2 := by
  unfold DL_war_b452 at h
  refine w_null 452 hX dL_war_452 ?_
  obtain ⟨rfl, rfl⟩ := d_ret h
  exact w_anret 453 hX hR (Or.inl ⟨_, rfl⟩) dL_war_453 rfl
noncomputable def DL_war_b281 (sl : Nat) (sv : Nat → Int32) (k281 : Int32 → Nat → Int32 → Int32 → Int32 → Dm (Option Nat)) (l2 : Int32) (l3 : Nat) (l4 : Int32) (l7 : Int32) (l8 : Int32) : Dm (Option Nat) :=
  (if l7 ≤ l8 then (dbind (DL_between (l4 >>> ((6 : Int32) &&& 31)) 0 9) fun x2 => dbind (dput (pfI l3 12 3 x2)) fun _ => dbind (DL_between (l4 >>> ((4 : Int32) &&& 31)) 0 9) fun x4 => dbind (dput (pfI l3 12 4 x4)) fun _ => dbind (DL_between (l4 >>> ((7 : Int32) &&& 31)) 0 6) fun x6 => dbind (dput (pfI l3 12 5 x6)) fun _ => dbind (DL_cell sl sv (l2 + 5)) fun x8 => dbind (DL_cell sl sv (l2 + 5)) fun x9 => dbind (dput (pfI l3 12 8 ((x8 &&& 65535) &&& (x9 >>> ((7 : Int32) &&& 31))))) fun _ => DL_war_L615 sl sv FU l2 l3 l4 0) else (dbind (dlift (rmI l8 3)) fun x11 => dbind (DL_cell sl sv ((l2 + 2) + x11)) fun x12 => dbind (dread (gfR l3 12 16)) fun x13 => dbind (dnew (nwI 9)) fun x14 => dbind (dput (iast x14 0 (((x12 + (257 * l8)) >>> ((3 : Int32) &&& 31)) &&& 1))) fun _ => dbind (DL_between ((x12 + (257 * l8)) >>> ((4 : Int32) &&& 31)) 0 120) fun x16 => dbind (dput (iast x14 1 x16)) fun _ => dbind (DL_between ((x12 + (257 * l8)) >>> ((6 : Int32) &&& 31)) 1 9) fun x18 => dbind (dput (iast x14 2 x18)) fun _ => dbind (DL_between ((x12 + (257 * l8)) >>> ((5 : Int32) &&& 31)) 0 99) fun x20 => dbind (dput (iast x14 3 x20)) fun _ => dbind (dput (iast x14 4 (((x12 + (257 * l8)) >>> ((2 : Int32) &&& 31)) &&& 255))) fun _ => dbind (DL_between ((x12 + (257 * l8)) >>> ((7 : Int32) &&& 31)) 0 300) fun x23 => dbind (dput (iast x14 5 x23)) fun _ => dbind (dput (iast x14 6 0)) fun _ => dbind (dput (iast x14 7 0)) fun _ => dbind (dput (iast x14 8 0)) fun _ => dbind (dput (aast x13 l8 x14)) fun _ => dbind (dread (gfR l3 12 16)) fun x29 => dbind (dread (aald x29 l8)) fun x30 => dbind (dread (iald x30 0)) fun x31 => dbind (dread (iald x30 1)) fun x32 => dbind (dread (iald x30 2)) fun x33 => dbind (dclW (fun u => FX11_man_0 x31 x32 x33 u)) fun x34 => (if x34 = l8 then (dbind (dclW (fun u => FX11_of_0 l8 3 u)) fun x36 => (if x36 = 50 then (dbind (dread (gfI l3 12 6)) fun x38 => dbind (dput (pfI l3 12 6 (x38 + 1))) fun _ => DL_war_L467 sl sv k281 FU l2 l3 l4 l7 l8 x30 0) else (DL_war_b452 sl sv))) else (DL_war_b452 sl sv))))
theorem bDL_war_281 {G : Gt} {X : Xt} {w' : Wd} {v : Option Nat} (hX : CxOk G X cL_war 11 RL (some (ov v), w'.1, w'.2.1, w'.2.2) 95) (hR : CxRet G X (some (.object "OldestDownLaw$War")) (some (ov v), w'.1, w'.2.1, w'.2.2)) {k281 : Int32 → Nat → Int32 → Int32 → Int32 → Dm (Option Nat)} (hk281 : ∀ (l2 : Int32) (l3 : Nat) (l4 : Int32) (l7 : Int32) (l8 : Int32) (w : Wd), (k281 l2 l3 l4 l7 l8).1 w = some (v, w') → WM G X 281 [(0, .ref 0), (1, .ref 1999999), (2, .int l2), (3, .ref l3), (4, .int l4), (7, .int l7), (8, .int l8)] [] w.1 w.2.1 w.2.2) (l2 : Int32) (l3 : Nat) (l4 : Int32) (l7 : Int32) (l8 : Int32) (w : Wd) (h : (DL_war_b281 (gS G).2.1 (gS G).2.2 k281 l2 l3 l4 l7 l8).1 w = some (v, w')) : WM G X 281 [(0, .ref 0), (1, .ref 1999999), (2, .int l2), (3, .ref l3), (4, .int l4), (7, .int l7), (8, .int l8)] [] w.1 w.2.1 w.2.2 := by
  unfold DL_war_b281 at h
  refine w_iload 6 281 hX rfl dL_war_281 ?_
  refine w_iload 5 283 hX rfl dL_war_283 ?_
  refine w_icmp_ge (tgt := 543) 285 hX dL_war_285 (by decide) (fun c1 => ?_) (fun c1 => ?_)
  · have h := dit h c1
    refine w_aload_n 3 543 hX rfl rfl dL_war_543 ?_
    refine w_iload 4 544 hX rfl dL_war_544 ?_
    refine w_bipush 6 546 hX ib_6 dL_war_546 ?_
    refine w_ishr 548 hX dL_war_548 ?_
    refine w_iconst 0 549 hX ic_0 dL_war_549 ?_
    refine w_bipush 9 550 hX ib_9 dL_war_550 ?_
    obtain ⟨x2, wx2, gx2, h⟩ := d_bind h
    refine w_invSi (av := [.int (l4 >>> ((6 : Int32) &&& 31)), .int 0, .int 9]) (st := [.ref l3]) 552 hX ms_yL_between mi_yL_between ml_L_43 (CDL_between (l4 >>> ((6 : Int32) &&& 31)) 0 9 gx2) rfl (by decide) (Nat.le_of_ble_eq_true rfl) (d_le h).1 (d_le h).2 dL_war_552 ?_
    obtain ⟨x3, wx3, gx3, h⟩ := d_bind h
    refine x_putIN 555 hX CI_12 gx3 rfl fl_L_152 rfl rfl rfl rfl dL_war_555 ?_
    refine w_aload_n 3 558 hX rfl rfl dL_war_558 ?_
    refine w_iload 4 559 hX rfl dL_war_559 ?_
    refine w_iconst 4 561 hX ic_4 dL_war_561 ?_
    refine w_ishr 562 hX dL_war_562 ?_
    refine w_iconst 0 563 hX ic_0 dL_war_563 ?_
    refine w_bipush 9 564 hX ib_9 dL_war_564 ?_
    obtain ⟨x4, wx4, gx4, h⟩ := d_bind h
    refine w_invSi (av := [.int (l4 >>> ((4 : Int32) &&& 31)), .int 0, .int 9]) (st := [.ref l3]) 566 hX ms_yL_between mi_yL_between ml_L_43 (CDL_between (l4 >>> ((4 : Int32) &&& 31)) 0 9 gx4) rfl (by decide) (Nat.le_of_ble_eq_true rfl) (d_le h).1 (d_le h).2 dL_war_566 ?_
    obtain ⟨x5, wx5, gx5, h⟩ := d_bind h
    refine x_putIN 569 hX CI_12 gx5 rfl fl_L_155 rfl rfl rfl rfl dL_war_569 ?_
    refine w_aload_n 3 572 hX rfl rfl dL_war_572 ?_
    refine w_iload 4 573 hX rfl dL_war_573 ?_
    refine w_bipush 7 575 hX ib_7 dL_war_575 ?_
    refine w_ishr 577 hX dL_war_577 ?_
    refine w_iconst 0 578 hX ic_0 dL_war_578 ?_
    refine w_bipush 6 579 hX ib_6 dL_war_579 ?_
    obtain ⟨x6, wx6, gx6, h⟩ := d_bind h
    refine w_invSi (av := [.int (l4 >>> ((7 : Int32) &&& 31)), .int 0, .int 6]) (st := [.ref l3]) 581 hX ms_yL_between mi_yL_between ml_L_43 (CDL_between (l4 >>> ((7 : Int32) &&& 31)) 0 6 gx6) rfl (by decide) (Nat.le_of_ble_eq_true rfl) (d_le h).1 (d_le h).2 dL_war_581 ?_
    obtain ⟨x7, wx7, gx7, h⟩ := d_bind h
    refine x_putIN 584 hX CI_12 gx7 rfl fl_L_158 rfl rfl rfl rfl dL_war_584 ?_
    refine w_aload_n 3 587 hX rfl rfl dL_war_587 ?_
    refine w_aload_n 1 588 hX rfl rfl dL_war_588 ?_
    refine w_iload_n 2 589 hX rfl rfl dL_war_589 ?_
    refine w_iconst 5 590 hX ic_5 dL_war_590 ?_
    refine w_iadd 591 hX dL_war_591 ?_
    obtain ⟨x8, wx8, gx8, h⟩ := d_bind h
    refine w_invSi (av := [.ref 1999999, .int (l2 + 5)]) (st := [.ref l3]) 592 hX ms_yL_cell mi_yL_cell ml_L_111 (CDL_cell (l2 + 5) gx8) rfl (by decide) (Nat.le_of_ble_eq_true rfl) (d_le h).1 (d_le h).2 dL_war_592 ?_
    refine w_ldc 65535 595 hX cs_L_161 dL_war_595 ?_
    refine w_iand 597 hX dL_war_597 ?_
    refine w_aload_n 1 598 hX rfl rfl dL_war_598 ?_
    refine w_iload_n 2 599 hX rfl rfl dL_war_599 ?_
    refine w_iconst 5 600 hX ic_5 dL_war_600 ?_
    refine w_iadd 601 hX dL_war_601 ?_
    obtain ⟨x9, wx9, gx9, h⟩ := d_bind h
    refine w_invSi (av := [.ref 1999999, .int (l2 + 5)]) (st := [.int (x8 &&& 65535), .ref l3]) 602 hX ms_yL_cell mi_yL_cell ml_L_111 (CDL_cell (l2 + 5) gx9) rfl (by decide) (Nat.le_of_ble_eq_true rfl) (d_le h).1 (d_le h).2 dL_war_602 ?_
    refine w_bipush 7 605 hX ib_7 dL_war_605 ?_
    refine w_ishr 607 hX dL_war_607 ?_
    refine w_iand 608 hX dL_war_608 ?_
    obtain ⟨x10, wx10, gx10, h⟩ := d_bind h
    refine x_putIN 609 hX CI_12 gx10 rfl fl_L_162 rfl rfl rfl rfl dL_war_609 ?_
    refine w_iconst 0 612 hX ic_0 dL_war_612 ?_
    refine w_istore (lv' := [(8, .int 0), (0, .ref 0), (1, .ref 1999999), (2, .int l2), (3, .ref l3), (4, .int l4), (7, .int l7)]) 613 hX dL_war_613 (by decide) rfl ?_
    exact w_sub [1, 2, 3, 4, 5, 0] rfl (lDL_war_615 hX hR FU l2 l3 l4 0 _ h)
  · have h := die h c1
    refine w_aload_n 1 288 hX rfl rfl dL_war_288 ?_
    refine w_iload_n 2 289 hX rfl rfl dL_war_289 ?_
    refine w_iconst 2 290 hX ic_2 dL_war_290 ?_
    refine w_iadd 291 hX dL_war_291 ?_
    refine w_iload 6 292 hX rfl dL_war_292 ?_
    refine w_iconst 3 294 hX ic_3 dL_war_294 ?_
    obtain ⟨x11, gx11, h⟩ := d_lf h
    obtain ⟨qx11, jx11⟩ := rmI_ok gx11
    refine w_irem 295 hX qx11 dL_war_295 ?_
    rw [jx11]
    refine w_iadd 296 hX dL_war_296 ?_
    obtain ⟨x12, wx12, gx12, h⟩ := d_bind h
    refine w_invSi (av := [.ref 1999999, .int ((l2 + 2) + x11)]) (st := []) 297 hX ms_yL_cell mi_yL_cell ml_L_111 (CDL_cell ((l2 + 2) + x11) gx12) rfl (by decide) (Nat.le_of_ble_eq_true rfl) (d_le h).1 (d_le h).2 dL_war_297 ?_
    refine w_sipush 257 300 hX isp_257 dL_war_300 ?_
    refine w_iload 6 303 hX rfl dL_war_303 ?_
    refine w_imul 305 hX dL_war_305 ?_
    refine w_iadd 306 hX dL_war_306 ?_
    refine w_istore (lv' := [(5, .int (x12 + (257 * l8))), (0, .ref 0), (1, .ref 1999999), (2, .int l2), (3, .ref l3), (4, .int l4), (7, .int l7), (8, .int l8)]) 307 hX dL_war_307 (by decide) rfl ?_
    refine w_aload_n 4 309 hX rfl rfl dL_war_309 ?_
    obtain ⟨x13, gx13, h⟩ := d_rd h
    refine x_getRN 310 hX CI_12 gx13 rfl fl_L_136 rfl dL_war_310 ?_
    refine w_iload 7 313 hX rfl dL_war_313 ?_
    refine w_bipush 9 315 hX ib_9 dL_war_315 ?_
    obtain ⟨x14, wx14, gx14, h⟩ := d_bind h
    refine x_newI 317 hX gx14 aw_int (d_le h) dL_war_317 ?_
    refine w_dup 319 hX rfl dL_war_319 ?_
    refine w_iconst 0 320 hX ic_0 dL_war_320 ?_
    refine w_iload 0 321 hX rfl dL_war_321 ?_
    refine w_iconst 3 323 hX ic_3 dL_war_323 ?_
    refine w_ishr 324 hX dL_war_324 ?_
    refine w_iconst 1 325 hX ic_1 dL_war_325 ?_
    refine w_iand 326 hX dL_war_326 ?_
    obtain ⟨x15, wx15, gx15, h⟩ := d_bind h
    refine x_iast 327 hX gx15 dL_war_327 ?_
    refine w_dup 328 hX rfl dL_war_328 ?_
    refine w_iconst 1 329 hX ic_1 dL_war_329 ?_
    refine w_iload 0 330 hX rfl dL_war_330 ?_
    refine w_iconst 4 332 hX ic_4 dL_war_332 ?_
    refine w_ishr 333 hX dL_war_333 ?_
    refine w_iconst 0 334 hX ic_0 dL_war_334 ?_
    refine w_bipush 120 335 hX ib_120 dL_war_335 ?_
    obtain ⟨x16, wx16, gx16, h⟩ := d_bind h
    refine w_invSi (av := [.int ((x12 + (257 * l8)) >>> ((4 : Int32) &&& 31)), .int 0, .int 120]) (st := [.int 1, .ref x14, .ref x14, .int l8, .ref x13]) 337 hX ms_yL_between mi_yL_between ml_L_43 (CDL_between ((x12 + (257 * l8)) >>> ((4 : Int32) &&& 31)) 0 120 gx16) rfl (by decide) (Nat.le_of_ble_eq_true rfl) (d_le h).1 (d_le h).2 dL_war_337 ?_
    obtain ⟨x17, wx17, gx17, h⟩ := d_bind h
    refine x_iast 340 hX gx17 dL_war_340 ?_
    refine w_dup 341 hX rfl dL_war_341 ?_
    refine w_iconst 2 342 hX ic_2 dL_war_342 ?_
    refine w_iload 0 343 hX rfl dL_war_343 ?_
    refine w_bipush 6 345 hX ib_6 dL_war_345 ?_
    refine w_ishr 347 hX dL_war_347 ?_
    refine w_iconst 1 348 hX ic_1 dL_war_348 ?_
    refine w_bipush 9 349 hX ib_9 dL_war_349 ?_
    obtain ⟨x18, wx18, gx18, h⟩ := d_bind h
    refine w_invSi (av := [.int ((x12 + (257 * l8)) >>> ((6 : Int32) &&& 31)), .int 1, .int 9]) (st := [.int 2, .ref x14, .ref x14, .int l8, .ref x13]) 351 hX ms_yL_between mi_yL_between ml_L_43 (CDL_between ((x12 + (257 * l8)) >>> ((6 : Int32) &&& 31)) 1 9 gx18) rfl (by decide) (Nat.le_of_ble_eq_true rfl) (d_le h).1 (d_le h).2 dL_war_351 ?_
    obtain ⟨x19, wx19, gx19, h⟩ := d_bind h
    refine x_iast 354 hX gx19 dL_war_354 ?_
    refine w_dup 355 hX rfl dL_war_355 ?_
    refine w_iconst 3 356 hX ic_3 dL_war_356 ?_
    refine w_iload 0 357 hX rfl dL_war_357 ?_
    refine w_iconst 5 359 hX ic_5 dL_war_359 ?_
    refine w_ishr 360 hX dL_war_360 ?_
    refine w_iconst 0 361 hX ic_0 dL_war_361 ?_
    refine w_bipush 99 362 hX ib_99 dL_war_362 ?_
    obtain ⟨x20, wx20, gx20, h⟩ := d_bind h
    refine w_invSi (av := [.int ((x12 + (257 * l8)) >>> ((5 : Int32) &&& 31)), .int 0, .int 99]) (st := [.int 3, .ref x14, .ref x14, .int l8, .ref x13]) 364 hX ms_yL_between mi_yL_between ml_L_43 (CDL_between ((x12 + (257 * l8)) >>> ((5 : Int32) &&& 31)) 0 99 gx20) rfl (by decide) (Nat.le_of_ble_eq_true rfl) (d_le h).1 (d_le h).2 dL_war_364 ?_
    obtain ⟨x21, wx21, gx21, h⟩ := d_bind h
    refine x_iast 367 hX gx21 dL_war_367 ?_
    refine w_dup 368 hX rfl dL_war_368 ?_
    refine w_iconst 4 369 hX ic_4 dL_war_369 ?_
    refine w_iload 0 370 hX rfl dL_war_370 ?_
    refine w_iconst 2 372 hX ic_2 dL_war_372 ?_
    refine w_ishr 373 hX dL_war_373 ?_
    refine w_sipush 255 374 hX isp_255 dL_war_374 ?_
    refine w_iand 377 hX dL_war_377 ?_
    obtain ⟨x22, wx22, gx22, h⟩ := d_bind h
    refine x_iast 378 hX gx22 dL_war_378 ?_
    refine w_dup 379 hX rfl dL_war_379 ?_
    refine w_iconst 5 380 hX ic_5 dL_war_380 ?_
    refine w_iload 0 381 hX rfl dL_war_381 ?_
    refine w_bipush 7 383 hX ib_7 dL_war_383 ?_
    refine w_ishr 385 hX dL_war_385 ?_
    refine w_iconst 0 386 hX ic_0 dL_war_386 ?_
    refine w_sipush 300 387 hX isp_300 dL_war_387 ?_
    obtain ⟨x23, wx23, gx23, h⟩ := d_bind h
    refine w_invSi (av := [.int ((x12 + (257 * l8)) >>> ((7 : Int32) &&& 31)), .int 0, .int 300]) (st := [.int 5, .ref x14, .ref x14, .int l8, .ref x13]) 390 hX ms_yL_between mi_yL_between ml_L_43 (CDL_between ((x12 + (257 * l8)) >>> ((7 : Int32) &&& 31)) 0 300 gx23) rfl (by decide) (Nat.le_of_ble_eq_true rfl) (d_le h).1 (d_le h).2 dL_war_390 ?_
    obtain ⟨x24, wx24, gx24, h⟩ := d_bind h
    refine x_iast 393 hX gx24 dL_war_393 ?_
    refine w_dup 394 hX rfl dL_war_394 ?_
    refine w_bipush 6 395 hX ib_6 dL_war_395 ?_
    refine w_iconst 0 397 hX ic_0 dL_war_397 ?_
    obtain ⟨x25, wx25, gx25, h⟩ := d_bind h
    refine x_iast 398 hX gx25 dL_war_398 ?_
    refine w_dup 399 hX rfl dL_war_399 ?_
    refine w_bipush 7 400 hX ib_7 dL_war_400 ?_
    refine w_iconst 0 402 hX ic_0 dL_war_402 ?_
    obtain ⟨x26, wx26, gx26, h⟩ := d_bind h
    refine x_iast 403 hX gx26 dL_war_403 ?_
    refine w_dup 404 hX rfl dL_war_404 ?_
    refine w_bipush 8 405 hX ib_8 dL_war_405 ?_
    refine w_iconst 0 407 hX ic_0 dL_war_407 ?_
    obtain ⟨x27, wx27, gx27, h⟩ := d_bind h
    refine x_iast 408 hX gx27 dL_war_408 ?_
    obtain ⟨x28, wx28, gx28, h⟩ := d_bind h
    refine x_aast 409 hX gx28 dL_war_409 ?_
    refine w_aload_n 4 410 hX rfl rfl dL_war_410 ?_
    obtain ⟨x29, gx29, h⟩ := d_rd h
    refine x_getRN 411 hX CI_12 gx29 rfl fl_L_136 rfl dL_war_411 ?_
    refine w_iload 7 414 hX rfl dL_war_414 ?_
    obtain ⟨x30, gx30, h⟩ := d_rd h
    refine x_aald 416 hX gx30 dL_war_416 ?_
    refine w_astore (lv' := [(9, .ref x30), (5, .int (x12 + (257 * l8))), (0, .ref 0), (1, .ref 1999999), (2, .int l2), (3, .ref l3), (4, .int l4), (7, .int l7), (8, .int l8)]) 417 hX dL_war_417 (by decide) rfl ?_
    refine w_aload_n 2 419 hX rfl rfl dL_war_419 ?_
    refine w_aload 0 420 hX rfl dL_war_420 ?_
    refine w_iconst 0 422 hX ic_0 dL_war_422 ?_
    obtain ⟨x31, gx31, h⟩ := d_rd h
    refine x_iald 423 hX gx31 dL_war_423 ?_
    refine w_aload 0 424 hX rfl dL_war_424 ?_
    refine w_iconst 1 426 hX ic_1 dL_war_426 ?_
    obtain ⟨x32, gx32, h⟩ := d_rd h
    refine x_iald 427 hX gx32 dL_war_427 ?_
    refine w_aload 0 428 hX rfl dL_war_428 ?_
    refine w_iconst 2 430 hX ic_2 dL_war_430 ?_
    obtain ⟨x33, gx33, h⟩ := d_rd h
    refine x_iald 431 hX gx33 dL_war_431 ?_
    obtain ⟨x34, wx34, gx34, h⟩ := d_bind h
    refine w_invVi (av := [.int x31, .int x32, .int x33]) (st := []) 432 hX CI_11 (oks_0 (dcl_ok gx34).1) rfl mv_yX11_man mi_yX11_man ml_L_139 (cs_W (fun G u g => CX11_man_0 (G := G) x31 x32 x33 _ g) gx34) rfl (by decide) (Nat.le_of_ble_eq_true rfl) (d_le h).1 (d_le h).2 dL_war_432 ?_
    refine w_iload 8 435 hX rfl dL_war_435 ?_
    refine w_icmp_ne (tgt := 452) 437 hX dL_war_437 (by decide) (fun c35 => ?_) (fun c35 => ?_)
    · have h := die h c35
      exact w_sub [] rfl (bDL_war_452 hX hR  _ h)
    · have h := dit h c35
      refine w_aload_n 2 440 hX rfl rfl dL_war_440 ?_
      refine w_iload 8 441 hX rfl dL_war_441 ?_
      refine w_iconst 3 443 hX ic_3 dL_war_443 ?_
      obtain ⟨x36, wx36, gx36, h⟩ := d_bind h
      refine w_invVi (av := [.int l8, .int 3]) (st := []) 444 hX CI_11 (oks_0 (dcl_ok gx36).1) rfl mv_yX11_of mi_yX11_of ml_L_141 (cs_W (fun G u g => CX11_of_0 (G := G) l8 3 _ g) gx36) rfl (by decide) (Nat.le_of_ble_eq_true rfl) (d_le h).1 (d_le h).2 dL_war_444 ?_
      refine w_bipush 50 447 hX ib_50 dL_war_447 ?_
      refine w_icmp_eq (tgt := 454) 449 hX dL_war_449 (by decide) (fun c37 => ?_) (fun c37 => ?_)
      · have h := dit h c37
        refine w_aload_n 5 454 hX rfl rfl dL_war_454 ?_
        refine w_dup 455 hX rfl dL_war_455 ?_
        obtain ⟨x38, gx38, h⟩ := d_rd h
        refine x_getIN 456 hX CI_12 gx38 rfl fl_L_37 rfl dL_war_456 ?_
        refine w_iconst 1 459 hX ic_1 dL_war_459 ?_
        refine w_iadd 460 hX dL_war_460 ?_
        obtain ⟨x39, wx39, gx39, h⟩ := d_bind h
        refine x_putIN 461 hX CI_12 gx39 rfl fl_L_37 rfl rfl rfl rfl dL_war_461 ?_
        refine w_iconst 0 464 hX ic_0 dL_war_464 ?_
        refine w_istore (lv' := [(10, .int 0), (9, .ref x30), (5, .int (x12 + (257 * l8))), (0, .ref 0), (1, .ref 1999999), (2, .int l2), (3, .ref l3), (4, .int l4), (7, .int l7), (8, .int l8)]) 465 hX dL_war_465 (by decide) rfl ?_
        exact w_sub [3, 4, 5, 6, 7, 8, 9, 1, 0] rfl (lDL_war_467 hX hR hk281 FU l2 l3 l4 l7 l8 x30 0 _ h)
      · have h := die h c37
        exact w_sub [] rfl (bDL_war_452 hX hR  _ h)
noncomputable def DL_war_L281 (sl : Nat) (sv : Nat → Int32) : Nat → Int32 → Nat → Int32 → Int32 → Int32 → Dm (Option Nat)
  | 0, _, _, _, _, _ => dno
  | n + 1, l2, l3, l4, l7, l8 => DL_war_b281 sl sv (DL_war_L281 sl sv n) l2 l3 l4 l7 l8
theorem lDL_war_281 {G : Gt} {X : Xt} {w' : Wd} {v : Option Nat} (hX : CxOk G X cL_war 11 RL (some (ov v), w'.1, w'.2.1, w'.2.2) 95) (hR : CxRet G X (some (.object "OldestDownLaw$War")) (some (ov v), w'.1, w'.2.1, w'.2.2)) : ∀ (n : Nat) (l2 : Int32) (l3 : Nat) (l4 : Int32) (l7 : Int32) (l8 : Int32) (w : Wd), (DL_war_L281 (gS G).2.1 (gS G).2.2 n l2 l3 l4 l7 l8).1 w = some (v, w') → WM G X 281 [(0, .ref 0), (1, .ref 1999999), (2, .int l2), (3, .ref l3), (4, .int l4), (7, .int l7), (8, .int l8)] [] w.1 w.2.1 w.2.2 := by
  intro n
  induction n with
  | zero =>
    intro l2 l3 l4 l7 l8 w h
    exact dn_ h
  | succ n ih =>
    intro l2 l3 l4 l7 l8 w h
    exact bDL_war_281 hX hR ih l2 l3 l4 l7 l8 w h
noncomputable def DL_war_b266 (sl : Nat) (sv : Nat → Int32) (l2 : Int32) (l3 : Nat) (l4 : Int32) : Dm (Option Nat) :=
  dbind (DL_between (l4 >>> ((5 : Int32) &&& 31)) 0 12) fun x1 => DL_war_L281 sl sv FU l2 l3 l4 x1 0
theorem bDL_war_266 {G : Gt} {X : Xt} {w' : Wd} {v : Option Nat} (hX : CxOk G X cL_war 11 RL (some (ov v), w'.1, w'.2.1, w'.2.2) 95) (hR : CxRet G X (some (.object "OldestDownLaw$War")) (some (ov v), w'.1, w'.2.1, w'.2.2)) (l2 : Int32) (l3 : Nat) (l4 : Int32) (w : Wd) (h : (DL_war_b266 (gS G).2.1 (gS G).2.2 l2 l3 l4).1 w = some (v, w')) : WM G X 266 [(0, .ref 0), (1, .ref 1999999), (2, .int l2), (3, .ref l3), (4, .int l4)] [] w.1 w.2.1 w.2.2 := by
  unfold DL_war_b266 at h
  refine w_iload 4 266 hX rfl dL_war_266 ?_
  refine w_iconst 5 268 hX ic_5 dL_war_268 ?_
  refine w_ishr 269 hX dL_war_269 ?_
  refine w_iconst 0 270 hX ic_0 dL_war_270 ?_
  refine w_bipush 12 271 hX ib_12 dL_war_271 ?_
  obtain ⟨x1, wx1, gx1, h⟩ := d_bind h
  refine w_invSi (av := [.int (l4 >>> ((5 : Int32) &&& 31)), .int 0, .int 12]) (st := []) 273 hX ms_yL_between mi_yL_between ml_L_43 (CDL_between (l4 >>> ((5 : Int32) &&& 31)) 0 12 gx1) rfl (by decide) (Nat.le_of_ble_eq_true rfl) (d_le h).1 (d_le h).2 dL_war_273 ?_
  refine w_istore (lv' := [(7, .int x1), (0, .ref 0), (1, .ref 1999999), (2, .int l2), (3, .ref l3), (4, .int l4)]) 276 hX dL_war_276 (by decide) rfl ?_
  refine w_iconst 0 278 hX ic_0 dL_war_278 ?_
  refine w_istore (lv' := [(8, .int 0), (7, .int x1), (0, .ref 0), (1, .ref 1999999), (2, .int l2), (3, .ref l3), (4, .int l4)]) 279 hX dL_war_279 (by decide) rfl ?_
  exact w_sub [2, 3, 4, 5, 6, 1, 0] rfl (lDL_war_281 hX hR FU l2 l3 l4 x1 0 _ h)
noncomputable def DL_war (sl : Nat) (sv : Nat → Int32) (p2 : Int32) : Dm (Option Nat) :=
  dbind (dnew (nwO 12)) fun x1 => dbind (dread (isC x1 12)) fun x2 => dbind (DX12_init x1) fun _ => dbind (DL_cell sl sv p2) fun x4 => dbind (DL_cell sl sv (p2 + 1)) fun x5 => dbind (dnew (nwI 7)) fun x6 => dbind (DL_between x5 0 80) fun x7 => dbind (dput (iast x6 0 x7)) fun _ => dbind (DL_between (x5 >>> ((3 : Int32) &&& 31)) 0 9) fun x9 => dbind (dput (iast x6 1 x9)) fun _ => dbind (DL_between (x5 >>> ((5 : Int32) &&& 31)) 0 9) fun x11 => dbind (dput (iast x6 2 x11)) fun _ => dbind (DL_between (x5 >>> ((6 : Int32) &&& 31)) 0 4) fun x13 => dbind (dput (iast x6 3 x13)) fun _ => dbind (DL_between (x5 >>> ((4 : Int32) &&& 31)) 0 60) fun x15 => dbind (dput (iast x6 4 x15)) fun _ => dbind (DL_between (x5 >>> ((7 : Int32) &&& 31)) 0 20) fun x17 => dbind (dput (iast x6 5 x17)) fun _ => dbind (DL_between (x5 >>> ((2 : Int32) &&& 31)) 0 400) fun x19 => dbind (dput (iast x6 6 x19)) fun _ => (if ((x4 >>> ((3 : Int32) &&& 31)) &&& 7) ≤ 0 then (DL_war_b266 sl sv p2 x1 x4) else (dbind (dput (pfO x1 12 19 (some x6))) fun _ => dbind (dnew (nwO 14)) fun x23 => dbind (dread (isC x23 14)) fun x24 => dbind (DJ4_init_da8c8 x23) fun _ => dbind (dread (isC x23 14)) fun x26 => dbind (DJ4_append_15ec4 x23 2000014) fun x27 => dbind (dread (iald x6 0)) fun x28 => dbind (dread (isC x27 14)) fun x29 => dbind (DJ4_append_bf812 x27 x28) fun x30 => dbind (dread (isC x30 14)) fun x31 => dbind (DJ4_append_15ec4 x30 2000015) fun x32 => dbind (dread (iald x6 0)) fun x33 => dbind (dread (isC x32 14)) fun x34 => dbind (DJ4_append_bf812 x32 x33) fun x35 => dbind (dread (isC x35 14)) fun x36 => dbind (DJ4_append_15ec4 x35 2000016) fun x37 => dbind (dread (iald x6 1)) fun x38 => dbind (dread (isC x37 14)) fun x39 => dbind (DJ4_append_bf812 x37 x38) fun x40 => dbind (dread (isC x40 14)) fun x41 => dbind (DJ4_append_15ec4 x40 2000017) fun x42 => dbind (dread (iald x6 2)) fun x43 => dbind (dread (isC x42 14)) fun x44 => dbind (DJ4_append_bf812 x42 x43) fun x45 => dbind (dread (isC x45 14)) fun x46 => dbind (DJ4_append_15ec4 x45 2000018) fun x47 => dbind (dread (iald x6 3)) fun x48 => dbind (dread (isC x47 14)) fun x49 => dbind (DJ4_append_bf812 x47 x48) fun x50 => dbind (dread (isC x50 14)) fun x51 => dbind (DJ4_append_15ec4 x50 2000019) fun x52 => dbind (dread (iald x6 5)) fun x53 => dbind (dread (isC x52 14)) fun x54 => dbind (DJ4_append_bf812 x52 x53) fun x55 => dbind (dread (isC x55 14)) fun x56 => dbind (DJ4_append_15ec4 x55 2000020) fun x57 => dbind (dread (iald x6 4)) fun x58 => dbind (dread (isC x57 14)) fun x59 => dbind (DJ4_append_bf812 x57 x58) fun x60 => dbind (dread (isC x60 14)) fun x61 => dbind (DJ4_append_15ec4 x60 2000021) fun x62 => dbind (dread (iald x6 6)) fun x63 => dbind (dread (isC x62 14)) fun x64 => dbind (DJ4_append_bf812 x62 x63) fun x65 => dbind (dread (isC x65 14)) fun x66 => dbind (DJ4_append_15ec4 x65 2000022) fun x67 => dbind (dread (isC x67 14)) fun x68 => dbind (DJ4_toString_0e30d x67) fun x69 => dbind (DL_say x69) fun _ => dbind (dclW (fun u => FX11_text_0 0 u)) fun x71 => (if x71 = 6 then (DL_war_b266 sl sv p2 x1 x4) else (dret none))))
theorem CDL_war {G : Gt} (p2 : Int32) {w w' : Wd} {v : Option Nat} (h : (DL_war (gS G).2.1 (gS G).2.2 p2).1 w = some (v, w')) : CN G yL_war cL_war 11 (some (.object "OldestDownLaw$War")) 95 [.ref 0, .ref 1999999, .int p2] w (some (ov v)) w' :=
  cn_of (by decide) rfl (Nat.le_of_ble_eq_true rfl) (d_le h) (fun X hX _ hR => by
  unfold DL_war at h
  obtain ⟨x1, wx1, gx1, h⟩ := d_bind h
  refine x_new 0 hX CI_12 gx1 dvW_12 cl_L_38 insW_12 izW_12 (d_le h) dL_war_0 ?_
  refine w_dup 3 hX rfl dL_war_3 ?_
  obtain ⟨x2, gx2, h⟩ := d_rd h
  obtain ⟨x3, wx3, gx3, h⟩ := d_bind h
  refine w_invINv (av := []) (st := [.ref x1]) 4 hX CI_12 (isC_ok gx2) mo_yX12_init rfl mi_yX12_init ml_L_110 (CDX12_init x1 gx3) rfl (by decide) (Nat.le_of_ble_eq_true rfl) (d_le h).1 (d_le h).2 dL_war_4 ?_
  refine w_astore_n (lv' := [(3, .ref x1), (0, .ref 0), (1, .ref 1999999), (2, .int p2)]) 7 hX rfl dL_war_7 (by decide) rfl ?_
  refine w_aload_n 2 8 hX rfl rfl dL_war_8 ?_
  refine w_iload_n 3 9 hX rfl rfl dL_war_9 ?_
  obtain ⟨x4, wx4, gx4, h⟩ := d_bind h
  refine w_invSi (av := [.ref 1999999, .int p2]) (st := []) 10 hX ms_yL_cell mi_yL_cell ml_L_111 (CDL_cell p2 gx4) rfl (by decide) (Nat.le_of_ble_eq_true rfl) (d_le h).1 (d_le h).2 dL_war_10 ?_
  refine w_istore (lv' := [(4, .int x4), (3, .ref x1), (0, .ref 0), (1, .ref 1999999), (2, .int p2)]) 13 hX dL_war_13 (by decide) rfl ?_
  refine w_aload_n 3 15 hX rfl rfl dL_war_15 ?_
  refine w_iload_n 4 16 hX rfl rfl dL_war_16 ?_
  refine w_iconst 1 17 hX ic_1 dL_war_17 ?_
  refine w_iadd 18 hX dL_war_18 ?_
  obtain ⟨x5, wx5, gx5, h⟩ := d_bind h
  refine w_invSi (av := [.ref 1999999, .int (p2 + 1)]) (st := []) 19 hX ms_yL_cell mi_yL_cell ml_L_111 (CDL_cell (p2 + 1) gx5) rfl (by decide) (Nat.le_of_ble_eq_true rfl) (d_le h).1 (d_le h).2 dL_war_19 ?_
  refine w_istore (lv' := [(5, .int x5), (4, .int x4), (3, .ref x1), (0, .ref 0), (1, .ref 1999999), (2, .int p2)]) 22 hX dL_war_22 (by decide) rfl ?_
  refine w_bipush 7 24 hX ib_7 dL_war_24 ?_
  obtain ⟨x6, wx6, gx6, h⟩ := d_bind h
  refine x_newI 26 hX gx6 aw_int (d_le h) dL_war_26 ?_
  refine w_dup 28 hX rfl dL_war_28 ?_
  refine w_iconst 0 29 hX ic_0 dL_war_29 ?_
  refine w_iload 0 30 hX rfl dL_war_30 ?_
  refine w_iconst 0 32 hX ic_0 dL_war_32 ?_
  refine w_bipush 80 33 hX ib_80 dL_war_33 ?_
  obtain ⟨x7, wx7, gx7, h⟩ := d_bind h
  refine w_invSi (av := [.int x5, .int 0, .int 80]) (st := [.int 0, .ref x6, .ref x6]) 35 hX ms_yL_between mi_yL_between ml_L_43 (CDL_between x5 0 80 gx7) rfl (by decide) (Nat.le_of_ble_eq_true rfl) (d_le h).1 (d_le h).2 dL_war_35 ?_
  obtain ⟨x8, wx8, gx8, h⟩ := d_bind h
  refine x_iast 38 hX gx8 dL_war_38 ?_
  refine w_dup 39 hX rfl dL_war_39 ?_
  refine w_iconst 1 40 hX ic_1 dL_war_40 ?_
  refine w_iload 0 41 hX rfl dL_war_41 ?_
  refine w_iconst 3 43 hX ic_3 dL_war_43 ?_
  refine w_ishr 44 hX dL_war_44 ?_
  refine w_iconst 0 45 hX ic_0 dL_war_45 ?_
  refine w_bipush 9 46 hX ib_9 dL_war_46 ?_
  obtain ⟨x9, wx9, gx9, h⟩ := d_bind h
  refine w_invSi (av := [.int (x5 >>> ((3 : Int32) &&& 31)), .int 0, .int 9]) (st := [.int 1, .ref x6, .ref x6]) 48 hX ms_yL_between mi_yL_between ml_L_43 (CDL_between (x5 >>> ((3 : Int32) &&& 31)) 0 9 gx9) rfl (by decide) (Nat.le_of_ble_eq_true rfl) (d_le h).1 (d_le h).2 dL_war_48 ?_
  obtain ⟨x10, wx10, gx10, h⟩ := d_bind h
  refine x_iast 51 hX gx10 dL_war_51 ?_
  refine w_dup 52 hX rfl dL_war_52 ?_
  refine w_iconst 2 53 hX ic_2 dL_war_53 ?_
  refine w_iload 0 54 hX rfl dL_war_54 ?_
  refine w_iconst 5 56 hX ic_5 dL_war_56 ?_
  refine w_ishr 57 hX dL_war_57 ?_
  refine w_iconst 0 58 hX ic_0 dL_war_58 ?_
  refine w_bipush 9 59 hX ib_9 dL_war_59 ?_
  obtain ⟨x11, wx11, gx11, h⟩ := d_bind h
  refine w_invSi (av := [.int (x5 >>> ((5 : Int32) &&& 31)), .int 0, .int 9]) (st := [.int 2, .ref x6, .ref x6]) 61 hX ms_yL_between mi_yL_between ml_L_43 (CDL_between (x5 >>> ((5 : Int32) &&& 31)) 0 9 gx11) rfl (by decide) (Nat.le_of_ble_eq_true rfl) (d_le h).1 (d_le h).2 dL_war_61 ?_
  obtain ⟨x12, wx12, gx12, h⟩ := d_bind h
  refine x_iast 64 hX gx12 dL_war_64 ?_
  refine w_dup 65 hX rfl dL_war_65 ?_
  refine w_iconst 3 66 hX ic_3 dL_war_66 ?_
  refine w_iload 0 67 hX rfl dL_war_67 ?_
  refine w_bipush 6 69 hX ib_6 dL_war_69 ?_
  refine w_ishr 71 hX dL_war_71 ?_
  refine w_iconst 0 72 hX ic_0 dL_war_72 ?_
  refine w_iconst 4 73 hX ic_4 dL_war_73 ?_
  obtain ⟨x13, wx13, gx13, h⟩ := d_bind h
  refine w_invSi (av := [.int (x5 >>> ((6 : Int32) &&& 31)), .int 0, .int 4]) (st := [.int 3, .ref x6, .ref x6]) 74 hX ms_yL_between mi_yL_between ml_L_43 (CDL_between (x5 >>> ((6 : Int32) &&& 31)) 0 4 gx13) rfl (by decide) (Nat.le_of_ble_eq_true rfl) (d_le h).1 (d_le h).2 dL_war_74 ?_
  obtain ⟨x14, wx14, gx14, h⟩ := d_bind h
  refine x_iast 77 hX gx14 dL_war_77 ?_
  refine w_dup 78 hX rfl dL_war_78 ?_
  refine w_iconst 4 79 hX ic_4 dL_war_79 ?_
  refine w_iload 0 80 hX rfl dL_war_80 ?_
  refine w_iconst 4 82 hX ic_4 dL_war_82 ?_
  refine w_ishr 83 hX dL_war_83 ?_
  refine w_iconst 0 84 hX ic_0 dL_war_84 ?_
  refine w_bipush 60 85 hX ib_60 dL_war_85 ?_
  obtain ⟨x15, wx15, gx15, h⟩ := d_bind h
  refine w_invSi (av := [.int (x5 >>> ((4 : Int32) &&& 31)), .int 0, .int 60]) (st := [.int 4, .ref x6, .ref x6]) 87 hX ms_yL_between mi_yL_between ml_L_43 (CDL_between (x5 >>> ((4 : Int32) &&& 31)) 0 60 gx15) rfl (by decide) (Nat.le_of_ble_eq_true rfl) (d_le h).1 (d_le h).2 dL_war_87 ?_
  obtain ⟨x16, wx16, gx16, h⟩ := d_bind h
  refine x_iast 90 hX gx16 dL_war_90 ?_
  refine w_dup 91 hX rfl dL_war_91 ?_
  refine w_iconst 5 92 hX ic_5 dL_war_92 ?_
  refine w_iload 0 93 hX rfl dL_war_93 ?_
  refine w_bipush 7 95 hX ib_7 dL_war_95 ?_
  refine w_ishr 97 hX dL_war_97 ?_
  refine w_iconst 0 98 hX ic_0 dL_war_98 ?_
  refine w_bipush 20 99 hX ib_20 dL_war_99 ?_
  obtain ⟨x17, wx17, gx17, h⟩ := d_bind h
  refine w_invSi (av := [.int (x5 >>> ((7 : Int32) &&& 31)), .int 0, .int 20]) (st := [.int 5, .ref x6, .ref x6]) 101 hX ms_yL_between mi_yL_between ml_L_43 (CDL_between (x5 >>> ((7 : Int32) &&& 31)) 0 20 gx17) rfl (by decide) (Nat.le_of_ble_eq_true rfl) (d_le h).1 (d_le h).2 dL_war_101 ?_
  obtain ⟨x18, wx18, gx18, h⟩ := d_bind h
  refine x_iast 104 hX gx18 dL_war_104 ?_
  refine w_dup 105 hX rfl dL_war_105 ?_
  refine w_bipush 6 106 hX ib_6 dL_war_106 ?_
  refine w_iload 0 108 hX rfl dL_war_108 ?_
  refine w_iconst 2 110 hX ic_2 dL_war_110 ?_
  refine w_ishr 111 hX dL_war_111 ?_
  refine w_iconst 0 112 hX ic_0 dL_war_112 ?_
  refine w_sipush 400 113 hX isp_400 dL_war_113 ?_
  obtain ⟨x19, wx19, gx19, h⟩ := d_bind h
  refine w_invSi (av := [.int (x5 >>> ((2 : Int32) &&& 31)), .int 0, .int 400]) (st := [.int 6, .ref x6, .ref x6]) 116 hX ms_yL_between mi_yL_between ml_L_43 (CDL_between (x5 >>> ((2 : Int32) &&& 31)) 0 400 gx19) rfl (by decide) (Nat.le_of_ble_eq_true rfl) (d_le h).1 (d_le h).2 dL_war_116 ?_
  obtain ⟨x20, wx20, gx20, h⟩ := d_bind h
  refine x_iast 119 hX gx20 dL_war_119 ?_
  refine w_astore (lv' := [(6, .ref x6), (5, .int x5), (4, .int x4), (3, .ref x1), (0, .ref 0), (1, .ref 1999999), (2, .int p2)]) 120 hX dL_war_120 (by decide) rfl ?_
  refine w_iload 2 122 hX rfl dL_war_122 ?_
  refine w_iconst 3 124 hX ic_3 dL_war_124 ?_
  refine w_ishr 125 hX dL_war_125 ?_
  refine w_bipush 7 126 hX ib_7 dL_war_126 ?_
  refine w_iand 128 hX dL_war_128 ?_
  refine w_if_le (tgt := 266) 129 hX dL_war_129 (by decide) (fun c21 => ?_) (fun c21 => ?_)
  · have h := dit h c21
    exact w_sub [4, 5, 6, 3, 2] rfl (bDL_war_266 hX hR p2 x1 x4 _ h)
  · have h := die h c21
    refine w_aload_n 3 132 hX rfl rfl dL_war_132 ?_
    refine w_aload 0 133 hX rfl dL_war_133 ?_
    obtain ⟨x22, wx22, gx22, h⟩ := d_bind h
    refine x_putON (some x6) 135 hX CI_12 gx22 rfl fl_L_115 rfl rfl (fun o => by cases o <;> rfl) (fun o => by cases o <;> rfl) dL_war_135 ?_
    refine w_aload_n 4 138 hX rfl rfl dL_war_138 ?_
    obtain ⟨x23, wx23, gx23, h⟩ := d_bind h
    refine x_new 139 hX CI_14 gx23 dvW_14 cl_L_49 insW_14 izW_14 (d_le h) dL_war_139 ?_
    refine w_dup 142 hX rfl dL_war_142 ?_
    obtain ⟨x24, gx24, h⟩ := d_rd h
    obtain ⟨x25, wx25, gx25, h⟩ := d_bind h
    refine w_invIv (av := []) (st := [.ref x23, .ref 0]) 143 hX CI_14 (isC_ok gx24) mo_yJ4_init_da8c8 rfl mi_yJ4_init_da8c8 ml_L_51 (CDJ4_init_da8c8 x23 gx25) rfl (by decide) (Nat.le_of_ble_eq_true rfl) (d_le h).1 (d_le h).2 dL_war_143 ?_
    refine w_ldcs 14 146 hX (by decide) rfl rfl dL_war_146 ?_
    obtain ⟨x26, gx26, h⟩ := d_rd h
    obtain ⟨x27, wx27, gx27, h⟩ := d_bind h
    refine w_invVr (av := [.ref 2000014]) (st := [.ref 0]) 148 hX CI_14 (isC_ok gx26) rfl mv_yJ4_append_15ec4 mi_yJ4_append_15ec4 ml_L_65 (CDJ4_append_15ec4 x23 2000014 gx27) rfl (by decide) (Nat.le_of_ble_eq_true rfl) (d_le h).1 (d_le h).2 dL_war_148 ?_
    refine w_aload 0 151 hX rfl dL_war_151 ?_
    refine w_iconst 0 153 hX ic_0 dL_war_153 ?_
    obtain ⟨x28, gx28, h⟩ := d_rd h
    refine x_iald 154 hX gx28 dL_war_154 ?_
    obtain ⟨x29, gx29, h⟩ := d_rd h
    obtain ⟨x30, wx30, gx30, h⟩ := d_bind h
    refine w_invVr (av := [.int x28]) (st := [.ref 0]) 155 hX CI_14 (isC_ok gx29) rfl mv_yJ4_append_bf812 mi_yJ4_append_bf812 ml_L_59 (CDJ4_append_bf812 x27 x28 gx30) rfl (by decide) (Nat.le_of_ble_eq_true rfl) (d_le h).1 (d_le h).2 dL_war_155 ?_
    refine w_ldcs 15 158 hX (by decide) rfl rfl dL_war_158 ?_
    obtain ⟨x31, gx31, h⟩ := d_rd h
    obtain ⟨x32, wx32, gx32, h⟩ := d_bind h
    refine w_invVr (av := [.ref 2000015]) (st := [.ref 0]) 160 hX CI_14 (isC_ok gx31) rfl mv_yJ4_append_15ec4 mi_yJ4_append_15ec4 ml_L_65 (CDJ4_append_15ec4 x30 2000015 gx32) rfl (by decide) (Nat.le_of_ble_eq_true rfl) (d_le h).1 (d_le h).2 dL_war_160 ?_
    refine w_aload 0 163 hX rfl dL_war_163 ?_
    refine w_iconst 0 165 hX ic_0 dL_war_165 ?_
    obtain ⟨x33, gx33, h⟩ := d_rd h
    refine x_iald 166 hX gx33 dL_war_166 ?_
    obtain ⟨x34, gx34, h⟩ := d_rd h
    obtain ⟨x35, wx35, gx35, h⟩ := d_bind h
    refine w_invVr (av := [.int x33]) (st := [.ref 0]) 167 hX CI_14 (isC_ok gx34) rfl mv_yJ4_append_bf812 mi_yJ4_append_bf812 ml_L_59 (CDJ4_append_bf812 x32 x33 gx35) rfl (by decide) (Nat.le_of_ble_eq_true rfl) (d_le h).1 (d_le h).2 dL_war_167 ?_
    refine w_ldcs 16 170 hX (by decide) rfl rfl dL_war_170 ?_
    obtain ⟨x36, gx36, h⟩ := d_rd h
    obtain ⟨x37, wx37, gx37, h⟩ := d_bind h
    refine w_invVr (av := [.ref 2000016]) (st := [.ref 0]) 172 hX CI_14 (isC_ok gx36) rfl mv_yJ4_append_15ec4 mi_yJ4_append_15ec4 ml_L_65 (CDJ4_append_15ec4 x35 2000016 gx37) rfl (by decide) (Nat.le_of_ble_eq_true rfl) (d_le h).1 (d_le h).2 dL_war_172 ?_
    refine w_aload 0 175 hX rfl dL_war_175 ?_
    refine w_iconst 1 177 hX ic_1 dL_war_177 ?_
    obtain ⟨x38, gx38, h⟩ := d_rd h
    refine x_iald 178 hX gx38 dL_war_178 ?_
    obtain ⟨x39, gx39, h⟩ := d_rd h
    obtain ⟨x40, wx40, gx40, h⟩ := d_bind h
    refine w_invVr (av := [.int x38]) (st := [.ref 0]) 179 hX CI_14 (isC_ok gx39) rfl mv_yJ4_append_bf812 mi_yJ4_append_bf812 ml_L_59 (CDJ4_append_bf812 x37 x38 gx40) rfl (by decide) (Nat.le_of_ble_eq_true rfl) (d_le h).1 (d_le h).2 dL_war_179 ?_
    refine w_ldcs 17 182 hX (by decide) rfl rfl dL_war_182 ?_
    obtain ⟨x41, gx41, h⟩ := d_rd h
    obtain ⟨x42, wx42, gx42, h⟩ := d_bind h
    refine w_invVr (av := [.ref 2000017]) (st := [.ref 0]) 184 hX CI_14 (isC_ok gx41) rfl mv_yJ4_append_15ec4 mi_yJ4_append_15ec4 ml_L_65 (CDJ4_append_15ec4 x40 2000017 gx42) rfl (by decide) (Nat.le_of_ble_eq_true rfl) (d_le h).1 (d_le h).2 dL_war_184 ?_
    refine w_aload 0 187 hX rfl dL_war_187 ?_
    refine w_iconst 2 189 hX ic_2 dL_war_189 ?_
    obtain ⟨x43, gx43, h⟩ := d_rd h
    refine x_iald 190 hX gx43 dL_war_190 ?_
    obtain ⟨x44, gx44, h⟩ := d_rd h
    obtain ⟨x45, wx45, gx45, h⟩ := d_bind h
    refine w_invVr (av := [.int x43]) (st := [.ref 0]) 191 hX CI_14 (isC_ok gx44) rfl mv_yJ4_append_bf812 mi_yJ4_append_bf812 ml_L_59 (CDJ4_append_bf812 x42 x43 gx45) rfl (by decide) (Nat.le_of_ble_eq_true rfl) (d_le h).1 (d_le h).2 dL_war_191 ?_
    refine w_ldcs 18 194 hX (by decide) rfl rfl dL_war_194 ?_
    obtain ⟨x46, gx46, h⟩ := d_rd h
    obtain ⟨x47, wx47, gx47, h⟩ := d_bind h
    refine w_invVr (av := [.ref 2000018]) (st := [.ref 0]) 196 hX CI_14 (isC_ok gx46) rfl mv_yJ4_append_15ec4 mi_yJ4_append_15ec4 ml_L_65 (CDJ4_append_15ec4 x45 2000018 gx47) rfl (by decide) (Nat.le_of_ble_eq_true rfl) (d_le h).1 (d_le h).2 dL_war_196 ?_
    refine w_aload 0 199 hX rfl dL_war_199 ?_
    refine w_iconst 3 201 hX ic_3 dL_war_201 ?_
    obtain ⟨x48, gx48, h⟩ := d_rd h
    refine x_iald 202 hX gx48 dL_war_202 ?_
    obtain ⟨x49, gx49, h⟩ := d_rd h
    obtain ⟨x50, wx50, gx50, h⟩ := d_bind h
    refine w_invVr (av := [.int x48]) (st := [.ref 0]) 203 hX CI_14 (isC_ok gx49) rfl mv_yJ4_append_bf812 mi_yJ4_append_bf812 ml_L_59 (CDJ4_append_bf812 x47 x48 gx50) rfl (by decide) (Nat.le_of_ble_eq_true rfl) (d_le h).1 (d_le h).2 dL_war_203 ?_
    refine w_ldcs 19 206 hX (by decide) rfl rfl dL_war_206 ?_
    obtain ⟨x51, gx51, h⟩ := d_rd h
    obtain ⟨x52, wx52, gx52, h⟩ := d_bind h
    refine w_invVr (av := [.ref 2000019]) (st := [.ref 0]) 208 hX CI_14 (isC_ok gx51) rfl mv_yJ4_append_15ec4 mi_yJ4_append_15ec4 ml_L_65 (CDJ4_append_15ec4 x50 2000019 gx52) rfl (by decide) (Nat.le_of_ble_eq_true rfl) (d_le h).1 (d_le h).2 dL_war_208 ?_
    refine w_aload 0 211 hX rfl dL_war_211 ?_
    refine w_iconst 5 213 hX ic_5 dL_war_213 ?_
    obtain ⟨x53, gx53, h⟩ := d_rd h
    refine x_iald 214 hX gx53 dL_war_214 ?_
    obtain ⟨x54, gx54, h⟩ := d_rd h
    obtain ⟨x55, wx55, gx55, h⟩ := d_bind h
    refine w_invVr (av := [.int x53]) (st := [.ref 0]) 215 hX CI_14 (isC_ok gx54) rfl mv_yJ4_append_bf812 mi_yJ4_append_bf812 ml_L_59 (CDJ4_append_bf812 x52 x53 gx55) rfl (by decide) (Nat.le_of_ble_eq_true rfl) (d_le h).1 (d_le h).2 dL_war_215 ?_
    refine w_ldcs 20 218 hX (by decide) rfl rfl dL_war_218 ?_
    obtain ⟨x56, gx56, h⟩ := d_rd h
    obtain ⟨x57, wx57, gx57, h⟩ := d_bind h
    refine w_invVr (av := [.ref 2000020]) (st := [.ref 0]) 220 hX CI_14 (isC_ok gx56) rfl mv_yJ4_append_15ec4 mi_yJ4_append_15ec4 ml_L_65 (CDJ4_append_15ec4 x55 2000020 gx57) rfl (by decide) (Nat.le_of_ble_eq_true rfl) (d_le h).1 (d_le h).2 dL_war_220 ?_
    refine w_aload 0 223 hX rfl dL_war_223 ?_
    refine w_iconst 4 225 hX ic_4 dL_war_225 ?_
    obtain ⟨x58, gx58, h⟩ := d_rd h
    refine x_iald 226 hX gx58 dL_war_226 ?_
    obtain ⟨x59, gx59, h⟩ := d_rd h
    obtain ⟨x60, wx60, gx60, h⟩ := d_bind h
    refine w_invVr (av := [.int x58]) (st := [.ref 0]) 227 hX CI_14 (isC_ok gx59) rfl mv_yJ4_append_bf812 mi_yJ4_append_bf812 ml_L_59 (CDJ4_append_bf812 x57 x58 gx60) rfl (by decide) (Nat.le_of_ble_eq_true rfl) (d_le h).1 (d_le h).2 dL_war_227 ?_
    refine w_ldcs 21 230 hX (by decide) rfl rfl dL_war_230 ?_
    obtain ⟨x61, gx61, h⟩ := d_rd h
    obtain ⟨x62, wx62, gx62, h⟩ := d_bind h
    refine w_invVr (av := [.ref 2000021]) (st := [.ref 0]) 232 hX CI_14 (isC_ok gx61) rfl mv_yJ4_append_15ec4 mi_yJ4_append_15ec4 ml_L_65 (CDJ4_append_15ec4 x60 2000021 gx62) rfl (by decide) (Nat.le_of_ble_eq_true rfl) (d_le h).1 (d_le h).2 dL_war_232 ?_
    refine w_aload 0 235 hX rfl dL_war_235 ?_
    refine w_bipush 6 237 hX ib_6 dL_war_237 ?_
    obtain ⟨x63, gx63, h⟩ := d_rd h
    refine x_iald 239 hX gx63 dL_war_239 ?_
    obtain ⟨x64, gx64, h⟩ := d_rd h
    obtain ⟨x65, wx65, gx65, h⟩ := d_bind h
    refine w_invVr (av := [.int x63]) (st := [.ref 0]) 240 hX CI_14 (isC_ok gx64) rfl mv_yJ4_append_bf812 mi_yJ4_append_bf812 ml_L_59 (CDJ4_append_bf812 x62 x63 gx65) rfl (by decide) (Nat.le_of_ble_eq_true rfl) (d_le h).1 (d_le h).2 dL_war_240 ?_
    refine w_ldcs 22 243 hX (by decide) rfl rfl dL_war_243 ?_
    obtain ⟨x66, gx66, h⟩ := d_rd h
    obtain ⟨x67, wx67, gx67, h⟩ := d_bind h
    refine w_invVr (av := [.ref 2000022]) (st := [.ref 0]) 245 hX CI_14 (isC_ok gx66) rfl mv_yJ4_append_15ec4 mi_yJ4_append_15ec4 ml_L_65 (CDJ4_append_15ec4 x65 2000022 gx67) rfl (by decide) (Nat.le_of_ble_eq_true rfl) (d_le h).1 (d_le h).2 dL_war_245 ?_
    obtain ⟨x68, gx68, h⟩ := d_rd h
    obtain ⟨x69, wx69, gx69, h⟩ := d_bind h
    refine w_invVr (av := []) (st := [.ref 0]) 248 hX CI_14 (isC_ok gx68) rfl mv_yJ4_toString_0e30d mi_yJ4_toString_0e30d ml_L_70 (CDJ4_toString_0e30d x67 gx69) rfl (by decide) (Nat.le_of_ble_eq_true rfl) (d_le h).1 (d_le h).2 dL_war_248 ?_
    obtain ⟨x70, wx70, gx70, h⟩ := d_bind h
    refine w_invSv (av := [.ref 0, .ref x69]) (st := []) 251 hX ms_yL_say mi_yL_say ml_L_78 (CDL_say x69 gx70) rfl (by decide) (Nat.le_of_ble_eq_true rfl) (d_le h).1 (d_le h).2 dL_war_251 ?_
    refine w_aload_n 4 254 hX rfl rfl dL_war_254 ?_
    refine w_iconst 0 255 hX ic_0 dL_war_255 ?_
    obtain ⟨x71, wx71, gx71, h⟩ := d_bind h
    refine w_invVi (av := [.int 0]) (st := []) 256 hX CI_11 (oks_0 (dcl_ok gx71).1) rfl mv_yX11_text mi_yX11_text ml_L_82 (cs_W (fun G u g => CX11_text_0 (G := G) 0 _ g) gx71) rfl (by decide) (Nat.le_of_ble_eq_true rfl) (d_le h).1 (d_le h).2 dL_war_256 ?_
    refine w_bipush 6 259 hX ib_6 dL_war_259 ?_
    refine w_icmp_eq (tgt := 266) 261 hX dL_war_261 (by decide) (fun c72 => ?_) (fun c72 => ?_)
    · have h := dit h c72
      exact w_sub [4, 5, 6, 3, 2] rfl (bDL_war_266 hX hR p2 x1 x4 _ h)
    · have h := die h c72
      refine w_null 264 hX dL_war_264 ?_
      obtain ⟨rfl, rfl⟩ := d_ret h
      exact w_anret 265 hX hR (Or.inl ⟨_, rfl⟩) dL_war_265 rfl)
