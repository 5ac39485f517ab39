noncomputable def DL_between (p0 : Int32) (p1 : Int32) (p2 : Int32) : Dm Int32 :=
  dbind (dlift (rmI (p0 &&& 1048575) ((p2 - p1) + 1))) fun x1 => dret (p1 + x1)
theorem CDL_between {G : Gt} (p0 : Int32) (p1 : Int32) (p2 : Int32) {w w' : Wd} {v : Int32} (h : (DL_between p0 p1 p2).1 w = some (v, w')) : CN G yL_between cL_between 3 (some .int) 1 [.int p0, .int p1, .int p2] w (some (.int v)) w' :=
  cn_of (by decide) rfl (Nat.le_of_ble_eq_true rfl) (d_le h) (fun X hX _ hR => by
  unfold DL_between at h
  refine w_iload_n 1 0 hX rfl rfl dL_between_0 ?_
  refine w_iload_n 0 1 hX rfl rfl dL_between_1 ?_
  refine w_ldc 1048575 2 hX cs_L_7 dL_between_2 ?_
  refine w_iand 4 hX dL_between_4 ?_
  refine w_iload_n 2 5 hX rfl rfl dL_between_5 ?_
  refine w_iload_n 1 6 hX rfl rfl dL_between_6 ?_
  refine w_isub 7 hX dL_between_7 ?_
  refine w_iconst 1 8 hX ic_1 dL_between_8 ?_
  refine w_iadd 9 hX dL_between_9 ?_
  obtain ⟨x1, gx1, h⟩ := d_lf h
  obtain ⟨qx1, jx1⟩ := rmI_ok gx1
  refine w_irem 10 hX qx1 dL_between_10 ?_
  rw [jx1]
  refine w_iadd 11 hX dL_between_11 ?_
  obtain ⟨rfl, rfl⟩ := d_ret h
  exact w_iret 12 hX hR dL_between_12 rfl)
noncomputable def DL_cell (sl : Nat) (sv : Nat → Int32) (p1 : Int32) : Dm Int32 :=
  (if (nI sl) ≤ p1 then (dret ((599 * p1) + 593)) else (dbind (dlift (rdS sl sv p1)) fun x2 => dret x2))
theorem CDL_cell {G : Gt} (p1 : Int32) {w w' : Wd} {v : Int32} (h : (DL_cell (gS G).2.1 (gS G).2.2 p1).1 w = some (v, w')) : CN G yL_cell cL_cell 2 (some .int) 1 [.ref 1999999, .int p1] w (some (.int v)) w' :=
  cn_of (by decide) rfl (Nat.le_of_ble_eq_true rfl) (d_le h) (fun X hX _ hR => by
  unfold DL_cell at h
  refine w_iload_n 1 0 hX rfl rfl dL_cell_0 ?_
  refine w_aload_n 0 1 hX rfl rfl dL_cell_1 ?_
  refine w_slen 2 hX dL_cell_2 ?_
  refine w_icmp_ge (tgt := 12) 3 hX dL_cell_3 (by decide) (fun c1 => ?_) (fun c1 => ?_)
  · have h := dit h c1
    refine w_sipush 599 12 hX isp_599 dL_cell_12 ?_
    refine w_iload_n 1 15 hX rfl rfl dL_cell_15 ?_
    refine w_imul 16 hX dL_cell_16 ?_
    refine w_sipush 593 17 hX isp_593 dL_cell_17 ?_
    refine w_iadd 20 hX dL_cell_20 ?_
    obtain ⟨rfl, rfl⟩ := d_ret h
    exact w_iret 21 hX hR dL_cell_21 rfl
  · have h := die h c1
    refine w_aload_n 0 6 hX rfl rfl dL_cell_6 ?_
    refine w_iload_n 1 7 hX rfl rfl dL_cell_7 ?_
    obtain ⟨x2, gx2, h⟩ := d_lf h
    refine w_sldx 8 hX gx2 dL_cell_8 ?_
    refine w_goto (tgt := 21) 9 hX (by decide) dL_cell_9 ?_
    obtain ⟨rfl, rfl⟩ := d_ret h
    exact w_iret 21 hX hR dL_cell_21 rfl)
noncomputable def DL_held (p0 : Int32) (p1 : Int32) (p2 : Int32) : Dm Int32 :=
  dret (if p1 < (if p0 < p2 then p0 else p2) then (if p0 < p2 then p0 else p2) else p1)
theorem CDL_held {G : Gt} (p0 : Int32) (p1 : Int32) (p2 : Int32) {w w' : Wd} {v : Int32} (h : (DL_held p0 p1 p2).1 w = some (v, w')) : CN G yL_held cL_held 3 (some .int) 2 [.int p0, .int p1, .int p2] w (some (.int v)) w' :=
  cn_of (by decide) rfl (Nat.le_of_ble_eq_true rfl) (d_le h) (fun X hX _ hR => by
  unfold DL_held at h
  refine w_iload_n 1 0 hX rfl rfl dL_held_0 ?_
  refine w_iload_n 2 1 hX rfl rfl dL_held_1 ?_
  refine w_iload_n 0 2 hX rfl rfl dL_held_2 ?_
  refine w_min 3 hX ml_L_8 jm_min_s jm_i jm_min_c (by decide) (Nat.le_of_ble_eq_true rfl) (d_le h).1 (d_le h).2 dL_held_3 ?_
  refine w_max 6 hX ml_L_14 jm_max_s jm_i jm_max_c (by decide) (Nat.le_of_ble_eq_true rfl) (d_le h).1 (d_le h).2 dL_held_6 ?_
  obtain ⟨rfl, rfl⟩ := d_ret h
  exact w_iret 9 hX hR dL_held_9 rfl)
noncomputable def DJ0_coder_7d493 (p0 : Nat) : Dm Int32 :=
  (if (1 : Int32) = 0 then (dbind (dlift (ychk 1)) fun x2 => dret x2) else (dbind (dread (sCod p0)) fun x3 => dbind (dlift (ychk x3)) fun x4 => dret x4))
theorem CDJ0_coder_7d493 {G : Gt} (p0 : Nat) {w w' : Wd} {v : Int32} (h : (DJ0_coder_7d493 p0).1 w = some (v, w')) : CN G yJ0_coder_7d493 cJ0_coder_7d493 1 (some .byte) 1 [.ref p0] w (some (.int v)) w' :=
  cn_of (by decide) rfl (Nat.le_of_ble_eq_true rfl) (d_le h) (fun X hX _ hR => by
  unfold DJ0_coder_7d493 at h
  refine w_gcs 0 hX (tw_of 1067 (by decide +kernel) rfl) dJ0_coder_7d493_0 ?_
  refine w_if_eq (tgt := 13) 3 hX dJ0_coder_7d493_3 (by decide) (fun c1 => ?_) (fun c1 => ?_)
  · have h := dit h c1
    refine w_iconst 1 13 hX ic_1 dJ0_coder_7d493_13 ?_
    obtain ⟨x2, gx2, h⟩ := d_lf h
    obtain ⟨jx2, nx2⟩ := ychk_ok gx2
    rw [jx2]
    obtain ⟨rfl, rfl⟩ := d_ret h
    exact w_nret 14 hX hR nx2 dJ0_coder_7d493_14 rfl
  · have h := die h c1
    refine w_aload_n 0 6 hX rfl rfl dJ0_coder_7d493_6 ?_
    obtain ⟨x3, gx3, h⟩ := d_rd h
    refine x_scod 7 hX gx3 fl_J0_15 dJ0_coder_7d493_7 ?_
    refine w_goto (tgt := 14) 10 hX (by decide) dJ0_coder_7d493_10 ?_
    obtain ⟨x4, gx4, h⟩ := d_lf h
    obtain ⟨jx4, nx4⟩ := ychk_ok gx4
    rw [jx4]
    obtain ⟨rfl, rfl⟩ := d_ret h
    exact w_nret 14 hX hR nx4 dJ0_coder_7d493_14 rfl)
noncomputable def DJ0_length_8abf5 (p0 : Nat) : Dm Int32 :=
  dbind (dread (sVal p0)) fun x1 => dbind (dread (blen x1)) fun x2 => dbind (dread (isS p0)) fun x3 => dbind (DJ0_coder_7d493 p0) fun x4 => dret (x2 >>> (x4 &&& 31))
theorem CDJ0_length_8abf5 {G : Gt} (p0 : Nat) {w w' : Wd} {v : Int32} (h : (DJ0_length_8abf5 p0).1 w = some (v, w')) : CN G yJ0_length_8abf5 cJ0_length_8abf5 1 (some .int) 2 [.ref p0] w (some (.int v)) w' :=
  cn_of (by decide) rfl (Nat.le_of_ble_eq_true rfl) (d_le h) (fun X hX _ hR => by
  unfold DJ0_length_8abf5 at h
  refine w_aload_n 0 0 hX rfl rfl dJ0_length_8abf5_0 ?_
  obtain ⟨x1, gx1, h⟩ := d_rd h
  refine x_sval 1 hX gx1 fl_J0_9 dJ0_length_8abf5_1 ?_
  obtain ⟨x2, gx2, h⟩ := d_rd h
  refine x_blen 4 hX gx2 dJ0_length_8abf5_4 ?_
  refine w_aload_n 0 5 hX rfl rfl dJ0_length_8abf5_5 ?_
  obtain ⟨x3, gx3, h⟩ := d_rd h
  obtain ⟨x4, wx4, gx4, h⟩ := d_bind h
  refine x_invS (av := []) (st := [.int x2]) 6 hX gx3 rfl mv_yJ0_coder_7d493 mi_yJ0_coder_7d493 ml_J0_335 (CDJ0_coder_7d493 p0 gx4) rfl (by decide) (Nat.le_of_ble_eq_true rfl) (d_le h).1 (d_le h).2 dJ0_length_8abf5_6 ?_
  refine w_ishr 9 hX dJ0_length_8abf5_9 ?_
  obtain ⟨rfl, rfl⟩ := d_ret h
  exact w_iret 10 hX hR dJ0_length_8abf5_10 rfl)
noncomputable def DJ0_isLatin1_aae02 (p0 : Nat) : Dm Int32 :=
  (if (1 : Int32) = 0 then (dret 0) else (dbind (dread (sCod p0)) fun x2 => (if x2 = 0 then (dret 1) else (dret 0))))
theorem CDJ0_isLatin1_aae02 {G : Gt} (p0 : Nat) {w w' : Wd} {v : Int32} (h : (DJ0_isLatin1_aae02 p0).1 w = some (v, w')) : CN G yJ0_isLatin1_aae02 cJ0_isLatin1_aae02 1 (some .boolean) 1 [.ref p0] w (some (.int v)) w' :=
  cn_of (by decide) rfl (Nat.le_of_ble_eq_true rfl) (d_le h) (fun X hX _ hR => by
  unfold DJ0_isLatin1_aae02 at h
  refine w_gcs 0 hX (tw_of 1067 (by decide +kernel) rfl) dJ0_isLatin1_aae02_0 ?_
  refine w_if_eq (tgt := 17) 3 hX dJ0_isLatin1_aae02_3 (by decide) (fun c1 => ?_) (fun c1 => ?_)
  · have h := dit h c1
    refine w_iconst 0 17 hX ic_0 dJ0_isLatin1_aae02_17 ?_
    obtain ⟨rfl, rfl⟩ := d_ret h
    exact w_zret 18 hX hR (by decide) dJ0_isLatin1_aae02_18 rfl
  · have h := die h c1
    refine w_aload_n 0 6 hX rfl rfl dJ0_isLatin1_aae02_6 ?_
    obtain ⟨x2, gx2, h⟩ := d_rd h
    refine x_scod 7 hX gx2 fl_J0_15 dJ0_isLatin1_aae02_7 ?_
    refine w_if_ne (tgt := 17) 10 hX dJ0_isLatin1_aae02_10 (by decide) (fun c3 => ?_) (fun c3 => ?_)
    · have h := die h c3
      refine w_iconst 0 17 hX ic_0 dJ0_isLatin1_aae02_17 ?_
      obtain ⟨rfl, rfl⟩ := d_ret h
      exact w_zret 18 hX hR (by decide) dJ0_isLatin1_aae02_18 rfl
    · have h := dit h c3
      refine w_iconst 1 13 hX ic_1 dJ0_isLatin1_aae02_13 ?_
      refine w_goto (tgt := 18) 14 hX (by decide) dJ0_isLatin1_aae02_14 ?_
      obtain ⟨rfl, rfl⟩ := d_ret h
      exact w_zret 18 hX hR (by decide) dJ0_isLatin1_aae02_18 rfl)
noncomputable def DJ3_checkIndex_8e157_b9 (l0 : Int32) (l1 : Int32) : Dm Int32 :=
  dno
theorem bDJ3_checkIndex_8e157_9 {G : Gt} {X : Xt} {w' : Wd} {v : Int32} (hX : CxOk G X cJ3_checkIndex_8e157 3 RJ3 (some (.int v), w'.1, w'.2.1, w'.2.2) 1) (hR : CxRet G X (some .int) (some (.int v), w'.1, w'.2.1, w'.2.2)) (l0 : Int32) (l1 : Int32) (l2 : Value) (hl2 : l2.category = 1) (w : Wd) (h : (DJ3_checkIndex_8e157_b9 l0 l1).1 w = some (v, w')) : WM G X 9 [(0, .int l0), (1, .int l1), (2, l2)] [] w.1 w.2.1 w.2.2 := by
  unfold DJ3_checkIndex_8e157_b9 at h
  exact dn_ h
noncomputable def DJ3_checkIndex_8e157 (p0 : Int32) (p1 : Int32) : Dm Int32 :=
  (if p0 < 0 then (DJ3_checkIndex_8e157_b9 p0 p1) else ((if p0 < p1 then (dret p0) else (DJ3_checkIndex_8e157_b9 p0 p1))))
theorem CDJ3_checkIndex_8e157 {G : Gt} (p0 : Int32) (p1 : Int32) (p2 : Value) (hp2 : p2.category = 1) {w w' : Wd} {v : Int32} (h : (DJ3_checkIndex_8e157 p0 p1).1 w = some (v, w')) : CN G yJ3_checkIndex_8e157 cJ3_checkIndex_8e157 3 (some .int) 1 [.int p0, .int p1, p2] w (some (.int v)) w' :=
  cn_of (by decide) (by simp only [cat1, List.all_cons, List.all_nil, hp2]; rfl) (Nat.le_of_ble_eq_true rfl) (d_le h) (fun X hX _ hR => by
  unfold DJ3_checkIndex_8e157 at h
  refine w_iload_n 0 0 hX rfl rfl dJ3_checkIndex_8e157_0 ?_
  refine w_if_lt (tgt := 9) 1 hX dJ3_checkIndex_8e157_1 (by decide) (fun c1 => ?_) (fun c1 => ?_)
  · have h := dit h c1
    exact bDJ3_checkIndex_8e157_9 hX hR p0 p1 p2 hp2 _ h
  · have h := die h c1
    refine w_iload_n 0 4 hX rfl rfl dJ3_checkIndex_8e157_4 ?_
    refine w_iload_n 1 5 hX rfl rfl dJ3_checkIndex_8e157_5 ?_
    refine w_icmp_lt (tgt := 16) 6 hX dJ3_checkIndex_8e157_6 (by decide) (fun c2 => ?_) (fun c2 => ?_)
    · have h := dit h c2
      refine w_iload_n 0 16 hX rfl rfl dJ3_checkIndex_8e157_16 ?_
      obtain ⟨rfl, rfl⟩ := d_ret h
      exact w_iret 17 hX hR dJ3_checkIndex_8e157_17 rfl
    · have h := die h c2
      exact bDJ3_checkIndex_8e157_9 hX hR p0 p1 p2 hp2 _ h)
noncomputable def DJ0_checkIndex_df160 (p0 : Int32) (p1 : Int32) : Dm Unit :=
  dbind (DJ3_checkIndex_8e157 p0 p1) fun x2 => dret ()
theorem CDJ0_checkIndex_df160 {G : Gt} (p0 : Int32) (p1 : Int32) {w w' : Wd} {v : Unit} (h : (DJ0_checkIndex_df160 p0 p1).1 w = some (v, w')) : CN G yJ0_checkIndex_df160 cJ0_checkIndex_df160 2 none 2 [.int p0, .int p1] w (none) w' :=
  cn_of (by decide) rfl (Nat.le_of_ble_eq_true rfl) (d_le h) (fun X hX _ hR => by
  unfold DJ0_checkIndex_df160 at h
  refine w_iload_n 0 0 hX rfl rfl dJ0_checkIndex_df160_0 ?_
  refine w_iload_n 1 1 hX rfl rfl dJ0_checkIndex_df160_1 ?_
  refine w_gsi 2 hX (tw_of 1025 (by decide +kernel) rfl) dJ0_checkIndex_df160_2 (fun v1 hv1 => ?_)
  obtain ⟨x2, wx2, gx2, h⟩ := d_bind h
  refine w_invSi (av := [.int p0, .int p1, v1]) (st := []) 5 hX ms_yJ3_checkIndex_8e157 mi_yJ3_checkIndex_8e157 ml_J0_1059 (CDJ3_checkIndex_8e157 p0 p1 v1 hv1 gx2) rfl (by decide) (Nat.le_of_ble_eq_true rfl) (d_le h).1 (d_le h).2 dJ0_checkIndex_df160_5 ?_
  refine w_pop 8 hX rfl dJ0_checkIndex_df160_8 ?_
  obtain ⟨rfl, rfl⟩ := d_ret h
  exact w_vret 9 hX hR dJ0_checkIndex_df160_9 rfl)
noncomputable def DJ1_charAt_3b067 (p0 : Nat) (p1 : Int32) : Dm Int32 :=
  dbind (dread (blen p0)) fun x1 => dbind (DJ0_checkIndex_df160 p1 x1) fun _ => dbind (dread (bald p0 p1)) fun x3 => dbind (dlift (cchk (((x3 &&& 255 : Int32).toUInt32 % 65536).toInt32))) fun x4 => dret x4
theorem CDJ1_charAt_3b067 {G : Gt} (p0 : Nat) (p1 : Int32) {w w' : Wd} {v : Int32} (h : (DJ1_charAt_3b067 p0 p1).1 w = some (v, w')) : CN G yJ1_charAt_3b067 cJ1_charAt_3b067 2 (some .char) 3 [.ref p0, .int p1] w (some (.int v)) w' :=
  cn_of (by decide) rfl (Nat.le_of_ble_eq_true rfl) (d_le h) (fun X hX _ hR => by
  unfold DJ1_charAt_3b067 at h
  refine w_iload_n 1 0 hX rfl rfl dJ1_charAt_3b067_0 ?_
  refine w_aload_n 0 1 hX rfl rfl dJ1_charAt_3b067_1 ?_
  obtain ⟨x1, gx1, h⟩ := d_rd h
  refine x_blen 2 hX gx1 dJ1_charAt_3b067_2 ?_
  obtain ⟨x2, wx2, gx2, h⟩ := d_bind h
  refine w_invSv (av := [.int p1, .int x1]) (st := []) 3 hX ms_yJ0_checkIndex_df160 mi_yJ0_checkIndex_df160 ml_J1_9 (CDJ0_checkIndex_df160 p1 x1 gx2) rfl (by decide) (Nat.le_of_ble_eq_true rfl) (d_le h).1 (d_le h).2 dJ1_charAt_3b067_3 ?_
  refine w_aload_n 0 6 hX rfl rfl dJ1_charAt_3b067_6 ?_
  refine w_iload_n 1 7 hX rfl rfl dJ1_charAt_3b067_7 ?_
  obtain ⟨x3, gx3, h⟩ := d_rd h
  refine x_bald 8 hX gx3 dJ1_charAt_3b067_8 ?_
  refine w_sipush 255 9 hX isp_255 dJ1_charAt_3b067_9 ?_
  refine w_iand 12 hX dJ1_charAt_3b067_12 ?_
  refine w_i2c 13 hX dJ1_charAt_3b067_13 ?_
  obtain ⟨x4, gx4, h⟩ := d_lf h
  obtain ⟨jx4, nx4⟩ := cchk_ok gx4
  rw [jx4]
  obtain ⟨rfl, rfl⟩ := d_ret h
  exact w_nret 14 hX hR nx4 dJ1_charAt_3b067_14 rfl)
noncomputable def DJ0_charAt_5068e (p0 : Nat) (p1 : Int32) : Dm Int32 :=
  dbind (dread (isS p0)) fun x1 => dbind (DJ0_isLatin1_aae02 p0) fun x2 => (if x2 = 0 then (dbind (dread (sVal p0)) fun x4 => dno) else (dbind (dread (sVal p0)) fun x5 => dbind (DJ1_charAt_3b067 x5 p1) fun x6 => dbind (dlift (cchk x6)) fun x7 => dret x7))
theorem CDJ0_charAt_5068e {G : Gt} (p0 : Nat) (p1 : Int32) {w w' : Wd} {v : Int32} (h : (DJ0_charAt_5068e p0 p1).1 w = some (v, w')) : CN G yJ0_charAt_5068e cJ0_charAt_5068e 2 (some .char) 4 [.ref p0, .int p1] w (some (.int v)) w' :=
  cn_of (by decide) rfl (Nat.le_of_ble_eq_true rfl) (d_le h) (fun X hX _ hR => by
  unfold DJ0_charAt_5068e at h
  refine w_aload_n 0 0 hX rfl rfl dJ0_charAt_5068e_0 ?_
  obtain ⟨x1, gx1, h⟩ := d_rd h
  obtain ⟨x2, wx2, gx2, h⟩ := d_bind h
  refine x_invS (av := []) (st := []) 1 hX gx1 rfl mv_yJ0_isLatin1_aae02 mi_yJ0_isLatin1_aae02 ml_J0_492 (CDJ0_isLatin1_aae02 p0 gx2) rfl (by decide) (Nat.le_of_ble_eq_true rfl) (d_le h).1 (d_le h).2 dJ0_charAt_5068e_1 ?_
  refine w_if_eq (tgt := 16) 4 hX dJ0_charAt_5068e_4 (by decide) (fun c3 => ?_) (fun c3 => ?_)
  · have h := dit h c3
    refine w_aload_n 0 16 hX rfl rfl dJ0_charAt_5068e_16 ?_
    obtain ⟨x4, gx4, h⟩ := d_rd h
    refine x_sval 17 hX gx4 fl_J0_9 dJ0_charAt_5068e_17 ?_
    refine w_iload_n 1 20 hX rfl rfl dJ0_charAt_5068e_20 ?_
    exact dn_ h
  · have h := die h c3
    refine w_aload_n 0 7 hX rfl rfl dJ0_charAt_5068e_7 ?_
    obtain ⟨x5, gx5, h⟩ := d_rd h
    refine x_sval 8 hX gx5 fl_J0_9 dJ0_charAt_5068e_8 ?_
    refine w_iload_n 1 11 hX rfl rfl dJ0_charAt_5068e_11 ?_
    obtain ⟨x6, wx6, gx6, h⟩ := d_bind h
    refine w_invSi (av := [.ref x5, .int p1]) (st := []) 12 hX ms_yJ1_charAt_3b067 mi_yJ1_charAt_3b067 ml_J0_495 (CDJ1_charAt_3b067 x5 p1 gx6) rfl (by decide) (Nat.le_of_ble_eq_true rfl) (d_le h).1 (d_le h).2 dJ0_charAt_5068e_12 ?_
    obtain ⟨x7, gx7, h⟩ := d_lf h
    obtain ⟨jx7, nx7⟩ := cchk_ok gx7
    rw [jx7]
    obtain ⟨rfl, rfl⟩ := d_ret h
    exact w_nret 15 hX hR nx7 dJ0_charAt_5068e_15 rfl)
noncomputable def DL_say_b62 (k17 : Nat → Int32 → Nat → Int32 → Dm Unit) (l1 : Nat) (l2 : Int32) (l3 : Nat) (l4 : Int32) (t0 : Nat) (t1 : Int32) (t2 : Int32) (t3 : Int32) : Dm Unit :=
  dbind (dput (iast t0 t1 (t2 ||| t3))) fun _ => k17 l1 l2 l3 (l4 + 1)
theorem bDL_say_62 {G : Gt} {X : Xt} {w' : Wd} {v : Unit} (hX : CxOk G X cL_say 5 RL (none, w'.1, w'.2.1, w'.2.2) 5) (hR : CxRet G X none (none, w'.1, w'.2.1, w'.2.2)) {k17 : Nat → Int32 → Nat → Int32 → Dm Unit} (hk17 : ∀ (l1 : Nat) (l2 : Int32) (l3 : Nat) (l4 : Int32) (w : Wd), (k17 l1 l2 l3 l4).1 w = some (v, w') → WM G X 17 [(0, .ref 0), (1, .ref l1), (2, .int l2), (3, .ref l3), (4, .int l4)] [] w.1 w.2.1 w.2.2) (l1 : Nat) (l2 : Int32) (l3 : Nat) (l4 : Int32) (t0 : Nat) (t1 : Int32) (t2 : Int32) (t3 : Int32) (w : Wd) (h : (DL_say_b62 k17 l1 l2 l3 l4 t0 t1 t2 t3).1 w = some (v, w')) : WM G X 62 [(0, .ref 0), (1, .ref l1), (2, .int l2), (3, .ref l3), (4, .int l4)] [.int t3, .int t2, .int t1, .ref t0] w.1 w.2.1 w.2.2 := by
  unfold DL_say_b62 at h
  refine w_ior 62 hX dL_say_62 ?_
  obtain ⟨x1, wx1, gx1, h⟩ := d_bind h
  refine x_iast 63 hX gx1 dL_say_63 ?_
  refine w_iinc (lv' := [(4, .int (l4 + 1)), (0, .ref 0), (1, .ref l1), (2, .int l2), (3, .ref l3)]) 64 4 hX dL_say_64 rfl (inc_1 _) (by decide) rfl ?_
  refine w_goto (tgt := 17) 67 hX (by decide) dL_say_67 ?_
  exact w_sub [1, 2, 3, 4, 0] rfl (hk17 l1 l2 l3 (l4 + 1) _ h)
noncomputable def DL_say_b17 (k2 : Nat → Int32 → Dm Unit) (k17 : Nat → Int32 → Nat → Int32 → Dm Unit) (l1 : Nat) (l2 : Int32) (l3 : Nat) (l4 : Int32) : Dm Unit :=
  (if 20 ≤ l4 then (dbind (dread (iald l3 0)) fun x2 => dbind (dread (iald l3 1)) fun x3 => dbind (dread (iald l3 2)) fun x4 => dbind (dread (iald l3 3)) fun x5 => dbind (dread (iald l3 4)) fun x6 => dbind (dclW (fun u => FX11_feed_0 x2 x3 x4 x5 x6 u)) fun x7 => k2 l1 (l2 + 20)) else (dbind (dlift (dvI l4 4)) fun x8 => dbind (dlift (dvI l4 4)) fun x9 => dbind (dread (iald l3 x9)) fun x10 => dbind (dread (isS l1)) fun x11 => dbind (DJ0_length_8abf5 l1) fun x12 => (if x12 ≤ (l2 + l4) then (DL_say_b62 k17 l1 l2 l3 l4 l3 x8 (x10 <<< ((8 : Int32) &&& 31)) 32) else (dbind (dread (isS l1)) fun x14 => dbind (DJ0_charAt_5068e l1 (l2 + l4)) fun x15 => DL_say_b62 k17 l1 l2 l3 l4 l3 x8 (x10 <<< ((8 : Int32) &&& 31)) x15))))
theorem bDL_say_17 {G : Gt} {X : Xt} {w' : Wd} {v : Unit} (hX : CxOk G X cL_say 5 RL (none, w'.1, w'.2.1, w'.2.2) 5) (hR : CxRet G X none (none, w'.1, w'.2.1, w'.2.2)) {k2 : Nat → Int32 → Dm Unit} (hk2 : ∀ (l1 : Nat) (l2 : Int32) (w : Wd), (k2 l1 l2).1 w = some (v, w') → WM G X 2 [(0, .ref 0), (1, .ref l1), (2, .int l2)] [] w.1 w.2.1 w.2.2) {k17 : Nat → Int32 → Nat → Int32 → Dm Unit} (hk17 : ∀ (l1 : Nat) (l2 : Int32) (l3 : Nat) (l4 : Int32) (w : Wd), (k17 l1 l2 l3 l4).1 w = some (v, w') → WM G X 17 [(0, .ref 0), (1, .ref l1), (2, .int l2), (3, .ref l3), (4, .int l4)] [] w.1 w.2.1 w.2.2) (l1 : Nat) (l2 : Int32) (l3 : Nat) (l4 : Int32) (w : Wd) (h : (DL_say_b17 k2 k17 l1 l2 l3 l4).1 w = some (v, w')) : WM G X 17 [(0, .ref 0), (1, .ref l1), (2, .int l2), (3, .ref l3), (4, .int l4)] [] w.1 w.2.1 w.2.2 := by
  unfold DL_say_b17 at h
  refine w_iload 4 17 hX rfl dL_say_17 ?_
  refine w_bipush 20 19 hX ib_20 dL_say_19 ?_
  refine w_icmp_ge (tgt := 70) 21 hX dL_say_21 (by decide) (fun c1 => ?_) (fun c1 => ?_)
  · have h := dit h c1
    refine w_aload_n 0 70 hX rfl rfl dL_say_70 ?_
    refine w_aload_n 3 71 hX rfl rfl dL_say_71 ?_
    refine w_iconst 0 72 hX ic_0 dL_say_72 ?_
    obtain ⟨x2, gx2, h⟩ := d_rd h
    refine x_iald 73 hX gx2 dL_say_73 ?_
    refine w_aload_n 3 74 hX rfl rfl dL_say_74 ?_
    refine w_iconst 1 75 hX ic_1 dL_say_75 ?_
    obtain ⟨x3, gx3, h⟩ := d_rd h
    refine x_iald 76 hX gx3 dL_say_76 ?_
    refine w_aload_n 3 77 hX rfl rfl dL_say_77 ?_
    refine w_iconst 2 78 hX ic_2 dL_say_78 ?_
    obtain ⟨x4, gx4, h⟩ := d_rd h
    refine x_iald 79 hX gx4 dL_say_79 ?_
    refine w_aload_n 3 80 hX rfl rfl dL_say_80 ?_
    refine w_iconst 3 81 hX ic_3 dL_say_81 ?_
    obtain ⟨x5, gx5, h⟩ := d_rd h
    refine x_iald 82 hX gx5 dL_say_82 ?_
    refine w_aload_n 3 83 hX rfl rfl dL_say_83 ?_
    refine w_iconst 4 84 hX ic_4 dL_say_84 ?_
    obtain ⟨x6, gx6, h⟩ := d_rd h
    refine x_iald 85 hX gx6 dL_say_85 ?_
    obtain ⟨x7, wx7, gx7, h⟩ := d_bind h
    refine w_invVi (av := [.int x2, .int x3, .int x4, .int x5, .int x6]) (st := []) 86 hX CI_11 (oks_0 (dcl_ok gx7).1) rfl mv_yX11_feed mi_yX11_feed ml_L_27 (cs_W (fun G u g => CX11_feed_0 (G := G) x2 x3 x4 x5 x6 _ g) gx7) rfl (by decide) (Nat.le_of_ble_eq_true rfl) (d_le h).1 (d_le h).2 dL_say_86 ?_
    refine w_pop 89 hX rfl dL_say_89 ?_
    refine w_iinc (lv' := [(2, .int (l2 + 20)), (0, .ref 0), (1, .ref l1), (3, .ref l3), (4, .int l4)]) 90 2 hX dL_say_90 rfl (inc_20 _) (by decide) rfl ?_
    refine w_goto (tgt := 2) 93 hX (by decide) dL_say_93 ?_
    exact w_sub [1, 2, 0] rfl (hk2 l1 (l2 + 20) _ h)
  · have h := die h c1
    refine w_aload_n 3 24 hX rfl rfl dL_say_24 ?_
    refine w_iload 4 25 hX rfl dL_say_25 ?_
    refine w_iconst 4 27 hX ic_4 dL_say_27 ?_
    obtain ⟨x8, gx8, h⟩ := d_lf h
    obtain ⟨qx8, jx8⟩ := dvI_ok gx8
    refine w_idiv 28 hX qx8 dL_say_28 ?_
    rw [jx8]
    refine w_aload_n 3 29 hX rfl rfl dL_say_29 ?_
    refine w_iload 4 30 hX rfl dL_say_30 ?_
    refine w_iconst 4 32 hX ic_4 dL_say_32 ?_
    obtain ⟨x9, gx9, h⟩ := d_lf h
    obtain ⟨qx9, jx9⟩ := dvI_ok gx9
    refine w_idiv 33 hX qx9 dL_say_33 ?_
    rw [jx9]
    obtain ⟨x10, gx10, h⟩ := d_rd h
    refine x_iald 34 hX gx10 dL_say_34 ?_
    refine w_bipush 8 35 hX ib_8 dL_say_35 ?_
    refine w_ishl 37 hX dL_say_37 ?_
    refine w_iload_n 2 38 hX rfl rfl dL_say_38 ?_
    refine w_iload 4 39 hX rfl dL_say_39 ?_
    refine w_iadd 41 hX dL_say_41 ?_
    refine w_aload_n 1 42 hX rfl rfl dL_say_42 ?_
    obtain ⟨x11, gx11, h⟩ := d_rd h
    obtain ⟨x12, wx12, gx12, h⟩ := d_bind h
    refine x_invS (av := []) (st := [.int (l2 + l4), .int (x10 <<< ((8 : Int32) &&& 31)), .int x8, .ref l3]) 43 hX gx11 rfl mv_yJ0_length_8abf5 mi_yJ0_length_8abf5 ml_L_17 (CDJ0_length_8abf5 l1 gx12) rfl (by decide) (Nat.le_of_ble_eq_true rfl) (d_le h).1 (d_le h).2 dL_say_43 ?_
    refine w_icmp_ge (tgt := 60) 46 hX dL_say_46 (by decide) (fun c13 => ?_) (fun c13 => ?_)
    · have h := dit h c13
      refine w_bipush 32 60 hX ib_32 dL_say_60 ?_
      exact bDL_say_62 hX hR hk17 l1 l2 l3 l4 l3 x8 (x10 <<< ((8 : Int32) &&& 31)) 32 _ h
    · have h := die h c13
      refine w_aload_n 1 49 hX rfl rfl dL_say_49 ?_
      refine w_iload_n 2 50 hX rfl rfl dL_say_50 ?_
      refine w_iload 4 51 hX rfl dL_say_51 ?_
      refine w_iadd 53 hX dL_say_53 ?_
      obtain ⟨x14, gx14, h⟩ := d_rd h
      obtain ⟨x15, wx15, gx15, h⟩ := d_bind h
      refine x_invS (av := [.int (l2 + l4)]) (st := [.int (x10 <<< ((8 : Int32) &&& 31)), .int x8, .ref l3]) 54 hX gx14 rfl mv_yJ0_charAt_5068e mi_yJ0_charAt_5068e ml_L_23 (CDJ0_charAt_5068e l1 (l2 + l4) gx15) rfl (by decide) (Nat.le_of_ble_eq_true rfl) (d_le h).1 (d_le h).2 dL_say_54 ?_
      refine w_goto (tgt := 62) 57 hX (by decide) dL_say_57 ?_
      exact bDL_say_62 hX hR hk17 l1 l2 l3 l4 l3 x8 (x10 <<< ((8 : Int32) &&& 31)) x15 _ h
noncomputable def DL_say_L17 (k2 : Nat → Int32 → Dm Unit) : Nat → Nat → Int32 → Nat → Int32 → Dm Unit
  | 0, _, _, _, _ => dno
  | n + 1, l1, l2, l3, l4 => DL_say_b17 k2 (DL_say_L17 k2 n) l1 l2 l3 l4
theorem lDL_say_17 {G : Gt} {X : Xt} {w' : Wd} {v : Unit} (hX : CxOk G X cL_say 5 RL (none, w'.1, w'.2.1, w'.2.2) 5) (hR : CxRet G X none (none, w'.1, w'.2.1, w'.2.2)) {k2 : Nat → Int32 → Dm Unit} (hk2 : ∀ (l1 : Nat) (l2 : Int32) (w : Wd), (k2 l1 l2).1 w = some (v, w') → WM G X 2 [(0, .ref 0), (1, .ref l1), (2, .int l2)] [] w.1 w.2.1 w.2.2) : ∀ (n : Nat) (l1 : Nat) (l2 : Int32) (l3 : Nat) (l4 : Int32) (w : Wd), (DL_say_L17 k2 n l1 l2 l3 l4).1 w = some (v, w') → WM G X 17 [(0, .ref 0), (1, .ref l1), (2, .int l2), (3, .ref l3), (4, .int l4)] [] w.1 w.2.1 w.2.2 := by
  intro n
  induction n with
  | zero =>
    intro l1 l2 l3 l4 w h
    exact dn_ h
  | succ n ih =>
    intro l1 l2 l3 l4 w h
    exact bDL_say_17 hX hR hk2 ih l1 l2 l3 l4 w h
noncomputable def DL_say_b2 (k2 : Nat → Int32 → Dm Unit) (l1 : Nat) (l2 : Int32) : Dm Unit :=
  dbind (dread (isS l1)) fun x1 => dbind (DJ0_length_8abf5 l1) fun x2 => (if x2 ≤ l2 then (dbind (dread (isS l1)) fun x4 => dbind (DJ0_length_8abf5 l1) fun x5 => (if x5 ≤ 0 then (dret ()) else (dbind (dread (isS l1)) fun x7 => dbind (DJ0_length_8abf5 l1) fun x8 => dbind (dclW (fun u => FX11_end_0 x8 u)) fun x9 => dret ()))) else (dbind (dnew (nwI 5)) fun x10 => DL_say_L17 k2 FU l1 l2 x10 0))
theorem bDL_say_2 {G : Gt} {X : Xt} {w' : Wd} {v : Unit} (hX : CxOk G X cL_say 5 RL (none, w'.1, w'.2.1, w'.2.2) 5) (hR : CxRet G X none (none, w'.1, w'.2.1, w'.2.2)) {k2 : Nat → Int32 → Dm Unit} (hk2 : ∀ (l1 : Nat) (l2 : Int32) (w : Wd), (k2 l1 l2).1 w = some (v, w') → WM G X 2 [(0, .ref 0), (1, .ref l1), (2, .int l2)] [] w.1 w.2.1 w.2.2) (l1 : Nat) (l2 : Int32) (w : Wd) (h : (DL_say_b2 k2 l1 l2).1 w = some (v, w')) : WM G X 2 [(0, .ref 0), (1, .ref l1), (2, .int l2)] [] w.1 w.2.1 w.2.2 := by
  unfold DL_say_b2 at h
  refine w_iload_n 2 2 hX rfl rfl dL_say_2 ?_
  refine w_aload_n 1 3 hX rfl rfl dL_say_3 ?_
  obtain ⟨x1, gx1, h⟩ := d_rd h
  obtain ⟨x2, wx2, gx2, h⟩ := d_bind h
  refine x_invS (av := []) (st := [.int l2]) 4 hX gx1 rfl mv_yJ0_length_8abf5 mi_yJ0_length_8abf5 ml_L_17 (CDJ0_length_8abf5 l1 gx2) rfl (by decide) (Nat.le_of_ble_eq_true rfl) (d_le h).1 (d_le h).2 dL_say_4 ?_
  refine w_icmp_ge (tgt := 96) 7 hX dL_say_7 (by decide) (fun c3 => ?_) (fun c3 => ?_)
  · have h := dit h c3
    refine w_aload_n 1 96 hX rfl rfl dL_say_96 ?_
    obtain ⟨x4, gx4, h⟩ := d_rd h
    obtain ⟨x5, wx5, gx5, h⟩ := d_bind h
    refine x_invS (av := []) (st := []) 97 hX gx4 rfl mv_yJ0_length_8abf5 mi_yJ0_length_8abf5 ml_L_17 (CDJ0_length_8abf5 l1 gx5) rfl (by decide) (Nat.le_of_ble_eq_true rfl) (d_le h).1 (d_le h).2 dL_say_97 ?_
    refine w_if_le (tgt := 112) 100 hX dL_say_100 (by decide) (fun c6 => ?_) (fun c6 => ?_)
    · have h := dit h c6
      obtain ⟨rfl, rfl⟩ := d_ret h
      exact w_vret 112 hX hR dL_say_112 rfl
    · have h := die h c6
      refine w_aload_n 0 103 hX rfl rfl dL_say_103 ?_
      refine w_aload_n 1 104 hX rfl rfl dL_say_104 ?_
      obtain ⟨x7, gx7, h⟩ := d_rd h
      obtain ⟨x8, wx8, gx8, h⟩ := d_bind h
      refine x_invS (av := []) (st := [.ref 0]) 105 hX gx7 rfl mv_yJ0_length_8abf5 mi_yJ0_length_8abf5 ml_L_17 (CDJ0_length_8abf5 l1 gx8) rfl (by decide) (Nat.le_of_ble_eq_true rfl) (d_le h).1 (d_le h).2 dL_say_105 ?_
      obtain ⟨x9, wx9, gx9, h⟩ := d_bind h
      refine w_invVi (av := [.int x8]) (st := []) 108 hX CI_11 (oks_0 (dcl_ok gx9).1) rfl mv_yX11_end mi_yX11_end ml_L_33 (cs_W (fun G u g => CX11_end_0 (G := G) x8 _ g) gx9) rfl (by decide) (Nat.le_of_ble_eq_true rfl) (d_le h).1 (d_le h).2 dL_say_108 ?_
      refine w_pop 111 hX rfl dL_say_111 ?_
      obtain ⟨rfl, rfl⟩ := d_ret h
      exact w_vret 112 hX hR dL_say_112 rfl
  · have h := die h c3
    refine w_iconst 5 10 hX ic_5 dL_say_10 ?_
    obtain ⟨x10, wx10, gx10, h⟩ := d_bind h
    refine x_newI 11 hX gx10 aw_int (d_le h) dL_say_11 ?_
    refine w_astore_n (lv' := [(3, .ref x10), (0, .ref 0), (1, .ref l1), (2, .int l2)]) 13 hX rfl dL_say_13 (by decide) rfl ?_
    refine w_iconst 0 14 hX ic_0 dL_say_14 ?_
    refine w_istore (lv' := [(4, .int 0), (3, .ref x10), (0, .ref 0), (1, .ref l1), (2, .int l2)]) 15 hX dL_say_15 (by decide) rfl ?_
    exact w_sub [2, 3, 4, 1, 0] rfl (lDL_say_17 hX hR hk2 FU l1 l2 x10 0 _ h)
noncomputable def DL_say_L2 : Nat → Nat → Int32 → Dm Unit
  | 0, _, _ => dno
  | n + 1, l1, l2 => DL_say_b2 (DL_say_L2 n) l1 l2
theorem lDL_say_2 {G : Gt} {X : Xt} {w' : Wd} {v : Unit} (hX : CxOk G X cL_say 5 RL (none, w'.1, w'.2.1, w'.2.2) 5) (hR : CxRet G X none (none, w'.1, w'.2.1, w'.2.2)) : ∀ (n : Nat) (l1 : Nat) (l2 : Int32) (w : Wd), (DL_say_L2 n l1 l2).1 w = some (v, w') → WM G X 2 [(0, .ref 0), (1, .ref l1), (2, .int l2)] [] w.1 w.2.1 w.2.2 := by
  intro n
  induction n with
  | zero =>
    intro l1 l2 w h
    exact dn_ h
  | succ n ih =>
    intro l1 l2 w h
    exact bDL_say_2 hX hR ih l1 l2 w h
noncomputable def DL_say (p1 : Nat) : Dm Unit :=
  DL_say_L2 FU p1 0
theorem CDL_say {G : Gt} (p1 : Nat) {w w' : Wd} {v : Unit} (h : (DL_say p1).1 w = some (v, w')) : CN G yL_say cL_say 5 none 5 [.ref 0, .ref p1] w (none) w' :=
  cn_of (by decide) rfl (Nat.le_of_ble_eq_true rfl) (d_le h) (fun X hX _ hR => by
  unfold DL_say at h
  refine w_iconst 0 0 hX ic_0 dL_say_0 ?_
  refine w_istore_n (lv' := [(2, .int 0), (0, .ref 0), (1, .ref p1)]) 1 hX rfl dL_say_1 (by decide) rfl ?_
  exact w_sub [1, 2, 0] rfl (lDL_say_2 hX hR FU p1 0 _ h))
noncomputable def DJ5_init_d00df (p0 : Nat) (p1 : Int32) : Dm Unit :=
  (if (1 : Int32) = 0 then (dno) else (dbind (dnew (nwA 3 p1)) fun x2 => dbind (dput (pfO p0 14 0 (some x2))) fun _ => dbind (dput (pfI p0 14 1 0)) fun _ => dret ()))
theorem CDJ5_init_d00df {G : Gt} (p0 : Nat) (p1 : Int32) {w w' : Wd} {v : Unit} (h : (DJ5_init_d00df p0 p1).1 w = some (v, w')) : CN G yJ5_init_d00df cJ5_init_d00df 2 none 2 [.ref p0, .int p1] w (none) w' :=
  cn_of (by decide) rfl (Nat.le_of_ble_eq_true rfl) (d_le h) (fun X hX hNm hR => by
  unfold DJ5_init_d00df at h
  refine w_aload_n 0 0 hX rfl rfl dJ5_init_d00df_0 ?_
  refine w_objInit 1 hX ml_J5_3 oi_i oi_c (by decide) (Nat.le_of_ble_eq_true rfl) dJ5_init_d00df_1 ?_
  refine w_gcs 4 hX (tw_of 941 (by decide +kernel) rfl) dJ5_init_d00df_4 ?_
  refine w_if_eq (tgt := 25) 7 hX dJ5_init_d00df_7 (by decide) (fun c1 => ?_) (fun c1 => ?_)
  · have h := dit h c1
    refine w_aload_n 0 25 hX rfl rfl dJ5_init_d00df_25 ?_
    refine w_iload_n 1 26 hX rfl rfl dJ5_init_d00df_26 ?_
    exact dn_ h
  · have h := die h c1
    refine w_aload_n 0 10 hX rfl rfl dJ5_init_d00df_10 ?_
    refine w_iload_n 1 11 hX rfl rfl dJ5_init_d00df_11 ?_
    obtain ⟨x2, wx2, gx2, h⟩ := d_bind h
    refine x_newB 12 hX gx2 aw_byte (d_le h) dJ5_init_d00df_12 ?_
    obtain ⟨x3, wx3, gx3, h⟩ := d_bind h
    refine x_putO (some x2) 14 hX CI_14 gx3 rfl fl_J5_15 rfl rfl (fun o => by cases o <;> rfl) (fun o => by cases o <;> rfl) dJ5_init_d00df_14 ?_
    refine w_aload_n 0 17 hX rfl rfl dJ5_init_d00df_17 ?_
    refine w_iconst 0 18 hX ic_0 dJ5_init_d00df_18 ?_
    obtain ⟨x4, wx4, gx4, h⟩ := d_bind h
    refine x_putI 19 hX CI_14 gx4 rfl fl_J5_22 rfl rfl (by decide) (by decide) dJ5_init_d00df_19 ?_
    refine w_goto (tgt := 38) 22 hX (by decide) dJ5_init_d00df_22 ?_
    obtain ⟨rfl, rfl⟩ := d_ret h
    exact w_vret 38 hX hR dJ5_init_d00df_38 rfl)
noncomputable def DJ4_init_da8c8 (p0 : Nat) : Dm Unit :=
  dbind (dread (isC p0 14)) fun x1 => dbind (DJ5_init_d00df p0 16) fun _ => dret ()
theorem CDJ4_init_da8c8 {G : Gt} (p0 : Nat) {w w' : Wd} {v : Unit} (h : (DJ4_init_da8c8 p0).1 w = some (v, w')) : CN G yJ4_init_da8c8 cJ4_init_da8c8 1 none 3 [.ref p0] w (none) w' :=
  cn_of (by decide) rfl (Nat.le_of_ble_eq_true rfl) (d_le h) (fun X hX hNm hR => by
  unfold DJ4_init_da8c8 at h
  refine w_aload_n 0 0 hX rfl rfl dJ4_init_da8c8_0 ?_
  refine w_bipush 16 1 hX ib_16 dJ4_init_da8c8_1 ?_
  obtain ⟨x1, gx1, h⟩ := d_rd h
  obtain ⟨x2, wx2, gx2, h⟩ := d_bind h
  refine w_invIv (av := [.int 16]) (st := []) 3 hX CI_14 (isC_ok gx1) mo_yJ5_init_d00df rfl mi_yJ5_init_d00df ml_J4_1 (CDJ5_init_d00df p0 16 gx2) rfl (by decide) (Nat.le_of_ble_eq_true rfl) (d_le h).1 (d_le h).2 dJ4_init_da8c8_3 ?_
  obtain ⟨rfl, rfl⟩ := d_ret h
  exact w_vret 6 hX hR dJ4_init_da8c8_6 rfl)
noncomputable def DJ5_getValue_6d5f1 (p0 : Nat) : Dm Nat :=
  dbind (dread (gfR p0 14 0)) fun x1 => dret x1
theorem CDJ5_getValue_6d5f1 {G : Gt} (p0 : Nat) {w w' : Wd} {v : Nat} (h : (DJ5_getValue_6d5f1 p0).1 w = some (v, w')) : CN G yJ5_getValue_6d5f1 cJ5_getValue_6d5f1 1 (some (.array .byte)) 1 [.ref p0] w (some (.ref v)) w' :=
  cn_of (by decide) rfl (Nat.le_of_ble_eq_true rfl) (d_le h) (fun X hX _ hR => by
  unfold DJ5_getValue_6d5f1 at h
  refine w_aload_n 0 0 hX rfl rfl dJ5_getValue_6d5f1_0 ?_
  obtain ⟨x1, gx1, h⟩ := d_rd h
  refine x_getR 1 hX CI_14 gx1 rfl fl_J5_15 rfl dJ5_getValue_6d5f1_1 ?_
  obtain ⟨rfl, rfl⟩ := d_ret h
  exact w_aret 4 hX hR (Or.inr ⟨_, rfl⟩) dJ5_getValue_6d5f1_4 rfl)
noncomputable def DJ5_length_8abf5 (p0 : Nat) : Dm Int32 :=
  dbind (dread (gfI p0 14 3)) fun x1 => dret x1
theorem CDJ5_length_8abf5 {G : Gt} (p0 : Nat) {w w' : Wd} {v : Int32} (h : (DJ5_length_8abf5 p0).1 w = some (v, w')) : CN G yJ5_length_8abf5 cJ5_length_8abf5 1 (some .int) 1 [.ref p0] w (some (.int v)) w' :=
  cn_of (by decide) rfl (Nat.le_of_ble_eq_true rfl) (d_le h) (fun X hX _ hR => by
  unfold DJ5_length_8abf5 at h
  refine w_aload_n 0 0 hX rfl rfl dJ5_length_8abf5_0 ?_
  obtain ⟨x1, gx1, h⟩ := d_rd h
  refine x_getI 1 hX CI_14 gx1 rfl fl_J5_79 rfl dJ5_length_8abf5_1 ?_
  obtain ⟨rfl, rfl⟩ := d_ret h
  exact w_iret 4 hX hR dJ5_length_8abf5_4 rfl)
noncomputable def DJ4_length_8abf5 (p0 : Nat) : Dm Int32 :=
  dbind (dread (isC p0 14)) fun x1 => dbind (DJ5_length_8abf5 p0) fun x2 => dret x2
theorem CDJ4_length_8abf5 {G : Gt} (p0 : Nat) {w w' : Wd} {v : Int32} (h : (DJ4_length_8abf5 p0).1 w = some (v, w')) : CN G yJ4_length_8abf5 cJ4_length_8abf5 1 (some .int) 2 [.ref p0] w (some (.int v)) w' :=
  cn_of (by decide) rfl (Nat.le_of_ble_eq_true rfl) (d_le h) (fun X hX _ hR => by
  unfold DJ4_length_8abf5 at h
  refine w_aload_n 0 0 hX rfl rfl dJ4_length_8abf5_0 ?_
  obtain ⟨x1, gx1, h⟩ := d_rd h
  obtain ⟨x2, wx2, gx2, h⟩ := d_bind h
  refine x_invSU (av := []) (st := []) 1 hX (isC_ok gx1) wu_yJ5_length_8abf5_1 wu_sup mo_yJ5_length_8abf5 (by decide) mi_yJ5_length_8abf5 ml_J4_343 (CDJ5_length_8abf5 p0 gx2) rfl (by decide) (Nat.le_of_ble_eq_true rfl) (d_le h).1 (d_le h).2 dJ4_length_8abf5_1 ?_
  obtain ⟨rfl, rfl⟩ := d_ret h
  exact w_iret 4 hX hR dJ4_length_8abf5_4 rfl)
noncomputable def DJ5_isLatin1_aae02 (p0 : Nat) : Dm Int32 :=
  (if (1 : Int32) = 0 then (dret 0) else (dbind (dread (gfI p0 14 1)) fun x2 => (if x2 = 0 then (dret 1) else (dret 0))))
theorem CDJ5_isLatin1_aae02 {G : Gt} (p0 : Nat) {w w' : Wd} {v : Int32} (h : (DJ5_isLatin1_aae02 p0).1 w = some (v, w')) : CN G yJ5_isLatin1_aae02 cJ5_isLatin1_aae02 1 (some .boolean) 1 [.ref p0] w (some (.int v)) w' :=
  cn_of (by decide) rfl (Nat.le_of_ble_eq_true rfl) (d_le h) (fun X hX _ hR => by
  unfold DJ5_isLatin1_aae02 at h
  refine w_gcs 0 hX (tw_of 941 (by decide +kernel) rfl) dJ5_isLatin1_aae02_0 ?_
  refine w_if_eq (tgt := 17) 3 hX dJ5_isLatin1_aae02_3 (by decide) (fun c1 => ?_) (fun c1 => ?_)
  · have h := dit h c1
    refine w_iconst 0 17 hX ic_0 dJ5_isLatin1_aae02_17 ?_
    obtain ⟨rfl, rfl⟩ := d_ret h
    exact w_zret 18 hX hR (by decide) dJ5_isLatin1_aae02_18 rfl
  · have h := die h c1
    refine w_aload_n 0 6 hX rfl rfl dJ5_isLatin1_aae02_6 ?_
    obtain ⟨x2, gx2, h⟩ := d_rd h
    refine x_getI 7 hX CI_14 gx2 rfl fl_J5_22 rfl dJ5_isLatin1_aae02_7 ?_
    refine w_if_ne (tgt := 17) 10 hX dJ5_isLatin1_aae02_10 (by decide) (fun c3 => ?_) (fun c3 => ?_)
    · have h := die h c3
      refine w_iconst 0 17 hX ic_0 dJ5_isLatin1_aae02_17 ?_
      obtain ⟨rfl, rfl⟩ := d_ret h
      exact w_zret 18 hX hR (by decide) dJ5_isLatin1_aae02_18 rfl
    · have h := dit h c3
      refine w_iconst 1 13 hX ic_1 dJ5_isLatin1_aae02_13 ?_
      refine w_goto (tgt := 18) 14 hX (by decide) dJ5_isLatin1_aae02_14 ?_
      obtain ⟨rfl, rfl⟩ := d_ret h
      exact w_zret 18 hX hR (by decide) dJ5_isLatin1_aae02_18 rfl)
noncomputable def DJ7_checkLength_df160 (p0 : Int32) (p1 : Int32) : Dm Unit :=
  (if p0 ≤ p1 then (dret ()) else (dno))
theorem CDJ7_checkLength_df160 {G : Gt} (p0 : Int32) (p1 : Int32) {w w' : Wd} {v : Unit} (h : (DJ7_checkLength_df160 p0 p1).1 w = some (v, w')) : CN G yJ7_checkLength_df160 cJ7_checkLength_df160 2 none 1 [.int p0, .int p1] w (none) w' :=
  cn_of (by decide) rfl (Nat.le_of_ble_eq_true rfl) (d_le h) (fun X hX _ hR => by
  unfold DJ7_checkLength_df160 at h
  refine w_iload_n 1 0 hX rfl rfl dJ7_checkLength_df160_0 ?_
  refine w_iload_n 0 1 hX rfl rfl dJ7_checkLength_df160_1 ?_
  refine w_icmp_ge (tgt := 37) 2 hX dJ7_checkLength_df160_2 (by decide) (fun c1 => ?_) (fun c1 => ?_)
  · have h := dit h c1
    obtain ⟨rfl, rfl⟩ := d_ret h
    exact w_vret 37 hX hR dJ7_checkLength_df160_37 rfl
  · have h := die h c1
    exact dn_ h)
noncomputable def DJ7_copyOfRangeByte_39247 (p0 : Nat) (p1 : Int32) (p2 : Int32) : Dm Nat :=
  dbind (DJ7_checkLength_df160 p1 p2) fun _ => dbind (dnew (nwA 3 (p2 - p1))) fun x2 => dbind (dread (blen p0)) fun x3 => dbind (dput (bcpy p0 p1 x2 0 (if (p2 - p1) < (x3 - p1) then (p2 - p1) else (x3 - p1)))) fun _ => dret x2
theorem CDJ7_copyOfRangeByte_39247 {G : Gt} (p0 : Nat) (p1 : Int32) (p2 : Int32) {w w' : Wd} {v : Nat} (h : (DJ7_copyOfRangeByte_39247 p0 p1 p2).1 w = some (v, w')) : CN G yJ7_copyOfRangeByte_39247 cJ7_copyOfRangeByte_39247 5 (some (.array .byte)) 2 [.ref p0, .int p1, .int p2] w (some (.ref v)) w' :=
  cn_of (by decide) rfl (Nat.le_of_ble_eq_true rfl) (d_le h) (fun X hX _ hR => by
  unfold DJ7_copyOfRangeByte_39247 at h
  refine w_iload_n 1 0 hX rfl rfl dJ7_copyOfRangeByte_39247_0 ?_
  refine w_iload_n 2 1 hX rfl rfl dJ7_copyOfRangeByte_39247_1 ?_
  obtain ⟨x1, wx1, gx1, h⟩ := d_bind h
  refine w_invSv (av := [.int p1, .int p2]) (st := []) 2 hX ms_yJ7_checkLength_df160 mi_yJ7_checkLength_df160 ml_J7_343 (CDJ7_checkLength_df160 p1 p2 gx1) rfl (by decide) (Nat.le_of_ble_eq_true rfl) (d_le h).1 (d_le h).2 dJ7_copyOfRangeByte_39247_2 ?_
  refine w_iload_n 2 5 hX rfl rfl dJ7_copyOfRangeByte_39247_5 ?_
  refine w_iload_n 1 6 hX rfl rfl dJ7_copyOfRangeByte_39247_6 ?_
  refine w_isub 7 hX dJ7_copyOfRangeByte_39247_7 ?_
  refine w_istore_n (lv' := [(3, .int (p2 - p1)), (0, .ref p0), (1, .int p1), (2, .int p2)]) 8 hX rfl dJ7_copyOfRangeByte_39247_8 (by decide) rfl ?_
  refine w_iload_n 0 9 hX rfl rfl dJ7_copyOfRangeByte_39247_9 ?_
  obtain ⟨x2, wx2, gx2, h⟩ := d_bind h
  refine x_newB 10 hX gx2 aw_byte (d_le h) dJ7_copyOfRangeByte_39247_10 ?_
  refine w_astore (lv' := [(4, .ref x2), (3, .int (p2 - p1)), (0, .ref p0), (1, .int p1), (2, .int p2)]) 12 hX dJ7_copyOfRangeByte_39247_12 (by decide) rfl ?_
  refine w_aload_n 2 14 hX rfl rfl dJ7_copyOfRangeByte_39247_14 ?_
  refine w_iload_n 3 15 hX rfl rfl dJ7_copyOfRangeByte_39247_15 ?_
  refine w_aload 0 16 hX rfl dJ7_copyOfRangeByte_39247_16 ?_
  refine w_iconst 0 18 hX ic_0 dJ7_copyOfRangeByte_39247_18 ?_
  refine w_aload_n 2 19 hX rfl rfl dJ7_copyOfRangeByte_39247_19 ?_
  obtain ⟨x3, gx3, h⟩ := d_rd h
  refine x_blen 20 hX gx3 dJ7_copyOfRangeByte_39247_20 ?_
  refine w_iload_n 3 21 hX rfl rfl dJ7_copyOfRangeByte_39247_21 ?_
  refine w_isub 22 hX dJ7_copyOfRangeByte_39247_22 ?_
  refine w_iload_n 1 23 hX rfl rfl dJ7_copyOfRangeByte_39247_23 ?_
  refine w_min 24 hX ml_J7_304 jm_min_s jm_i jm_min_c (by decide) (Nat.le_of_ble_eq_true rfl) (d_le h).1 (d_le h).2 dJ7_copyOfRangeByte_39247_24 ?_
  obtain ⟨x4, wx4, gx4, h⟩ := d_bind h
  refine x_bcpy 27 hX gx4 ml_J7_150 (by decide) (Nat.le_of_ble_eq_true rfl) dJ7_copyOfRangeByte_39247_27 ?_
  refine w_aload 0 30 hX rfl dJ7_copyOfRangeByte_39247_30 ?_
  obtain ⟨rfl, rfl⟩ := d_ret h
  exact w_aret 32 hX hR (Or.inr ⟨_, rfl⟩) dJ7_copyOfRangeByte_39247_32 rfl)
noncomputable def DJ7_copyOfRange_39247_b10 (l0 : Nat) (l1 : Int32) (l2 : Int32) : Dm Nat :=
  dbind (DJ7_copyOfRangeByte_39247 l0 l1 l2) fun x1 => dret x1
theorem bDJ7_copyOfRange_39247_10 {G : Gt} {X : Xt} {w' : Wd} {v : Nat} (hX : CxOk G X cJ7_copyOfRange_39247 3 RJ7 (some (.ref v), w'.1, w'.2.1, w'.2.2) 3) (hR : CxRet G X (some (.array .byte)) (some (.ref v), w'.1, w'.2.1, w'.2.2)) (l0 : Nat) (l1 : Int32) (l2 : Int32) (w : Wd) (h : (DJ7_copyOfRange_39247_b10 l0 l1 l2).1 w = some (v, w')) : WM G X 10 [(0, .ref l0), (1, .int l1), (2, .int l2)] [] w.1 w.2.1 w.2.2 := by
  unfold DJ7_copyOfRange_39247_b10 at h
  refine w_aload_n 0 10 hX rfl rfl dJ7_copyOfRange_39247_10 ?_
  refine w_iload_n 1 11 hX rfl rfl dJ7_copyOfRange_39247_11 ?_
  refine w_iload_n 2 12 hX rfl rfl dJ7_copyOfRange_39247_12 ?_
  obtain ⟨x1, wx1, gx1, h⟩ := d_bind h
  refine w_invSr (av := [.ref l0, .int l1, .int l2]) (st := []) 13 hX ms_yJ7_copyOfRangeByte_39247 mi_yJ7_copyOfRangeByte_39247 ml_J7_339 (CDJ7_copyOfRangeByte_39247 l0 l1 l2 gx1) rfl (by decide) (Nat.le_of_ble_eq_true rfl) (d_le h).1 (d_le h).2 dJ7_copyOfRange_39247_13 ?_
  obtain ⟨rfl, rfl⟩ := d_ret h
  exact w_aret 16 hX hR (Or.inr ⟨_, rfl⟩) dJ7_copyOfRange_39247_16 rfl
noncomputable def DJ7_copyOfRange_39247 (p0 : Nat) (p1 : Int32) (p2 : Int32) : Dm Nat :=
  (if p1 = 0 then (dbind (dread (blen p0)) fun x2 => (if p2 = x2 then (dbind (dnew (nwCB p0)) fun x4 => dbind (dread (isBy x4)) fun x5 => dret x4) else (DJ7_copyOfRange_39247_b10 p0 p1 p2))) else (DJ7_copyOfRange_39247_b10 p0 p1 p2))
theorem CDJ7_copyOfRange_39247 {G : Gt} (p0 : Nat) (p1 : Int32) (p2 : Int32) {w w' : Wd} {v : Nat} (h : (DJ7_copyOfRange_39247 p0 p1 p2).1 w = some (v, w')) : CN G yJ7_copyOfRange_39247 cJ7_copyOfRange_39247 3 (some (.array .byte)) 3 [.ref p0, .int p1, .int p2] w (some (.ref v)) w' :=
  cn_of (by decide) rfl (Nat.le_of_ble_eq_true rfl) (d_le h) (fun X hX _ hR => by
  unfold DJ7_copyOfRange_39247 at h
  refine w_iload_n 1 0 hX rfl rfl dJ7_copyOfRange_39247_0 ?_
  refine w_if_ne (tgt := 10) 1 hX dJ7_copyOfRange_39247_1 (by decide) (fun c1 => ?_) (fun c1 => ?_)
  · have h := die h c1
    exact bDJ7_copyOfRange_39247_10 hX hR p0 p1 p2 _ h
  · have h := dit h c1
    refine w_iload_n 2 4 hX rfl rfl dJ7_copyOfRange_39247_4 ?_
    refine w_aload_n 0 5 hX rfl rfl dJ7_copyOfRange_39247_5 ?_
    obtain ⟨x2, gx2, h⟩ := d_rd h
    refine x_blen 6 hX gx2 dJ7_copyOfRange_39247_6 ?_
    refine w_icmp_eq (tgt := 17) 7 hX dJ7_copyOfRange_39247_7 (by decide) (fun c3 => ?_) (fun c3 => ?_)
    · have h := dit h c3
      refine w_aload_n 0 17 hX rfl rfl dJ7_copyOfRange_39247_17 ?_
      obtain ⟨x4, wx4, gx4, h⟩ := d_bind h
      refine x_cloneB 18 hX gx4 clkB_J7_310 clwB_1 clw_2 clw_3 clwB_4 clwB_5 (by decide) (Nat.le_of_ble_eq_true rfl) (d_le h) dJ7_copyOfRange_39247_18 ?_
      obtain ⟨x5, gx5, h⟩ := d_rd h
      refine x_castB 21 hX gx5 cl_J7_311 dJ7_copyOfRange_39247_21 ?_
      obtain ⟨rfl, rfl⟩ := d_ret h
      exact w_aret 24 hX hR (Or.inr ⟨_, rfl⟩) dJ7_copyOfRange_39247_24 rfl
    · have h := die h c3
      exact bDJ7_copyOfRange_39247_10 hX hR p0 p1 p2 _ h)
noncomputable def DJ0_init_db425_b79 (l0 : Nat) (l3 : Nat) (l4 : Int32) : Dm Unit :=
  dbind (dput (pfI l0 13 1 1)) fun _ => dbind (DJ7_copyOfRange_39247 l3 0 (l4 <<< ((1 : Int32) &&& 31))) fun x2 => dbind (dput (pfO l0 13 0 (some x2))) fun _ => dret ()
theorem bDJ0_init_db425_79 {G : Gt} {X : Xt} {w' : Wd} {v : Unit} (hX : CxOk G X cJ0_init_db425 5 RJ0 (none, w'.1, w'.2.1, w'.2.2) 4) (hNm : CxNm X "<init>") (hR : CxRet G X none (none, w'.1, w'.2.1, w'.2.2)) (l0 : Nat) (l3 : Nat) (l4 : Int32) (w : Wd) (h : (DJ0_init_db425_b79 l0 l3 l4).1 w = some (v, w')) : WM G X 79 [(0, .ref l0), (3, .ref l3), (4, .int l4)] [] w.1 w.2.1 w.2.2 := by
  unfold DJ0_init_db425_b79 at h
  refine w_aload_n 0 79 hX rfl rfl dJ0_init_db425_79 ?_
  refine w_iconst 1 80 hX ic_1 dJ0_init_db425_80 ?_
  obtain ⟨x1, wx1, gx1, h⟩ := d_bind h
  refine x_putFI 81 hX hNm CI_13 gx1 rfl fl_J0_15 rfl rfl rfl (by decide) (by decide) dJ0_init_db425_81 ?_
  refine w_aload_n 0 84 hX rfl rfl dJ0_init_db425_84 ?_
  refine w_aload_n 1 85 hX rfl rfl dJ0_init_db425_85 ?_
  refine w_iconst 0 86 hX ic_0 dJ0_init_db425_86 ?_
  refine w_iload 2 87 hX rfl dJ0_init_db425_87 ?_
  refine w_iconst 1 89 hX ic_1 dJ0_init_db425_89 ?_
  refine w_ishl 90 hX dJ0_init_db425_90 ?_
  obtain ⟨x2, wx2, gx2, h⟩ := d_bind h
  refine w_invSr (av := [.ref l3, .int 0, .int (l4 <<< ((1 : Int32) &&& 31))]) (st := [.ref l0]) 91 hX ms_yJ7_copyOfRange_39247 mi_yJ7_copyOfRange_39247 ml_J0_54 (CDJ7_copyOfRange_39247 l3 0 (l4 <<< ((1 : Int32) &&& 31)) gx2) rfl (by decide) (Nat.le_of_ble_eq_true rfl) (d_le h).1 (d_le h).2 dJ0_init_db425_91 ?_
  obtain ⟨x3, wx3, gx3, h⟩ := d_bind h
  refine x_putFR 94 hX hNm CI_13 gx3 rfl fl_J0_9 rfl rfl rfl (fun _ => rfl) (fun _ => rfl) dJ0_init_db425_94 ?_
  obtain ⟨rfl, rfl⟩ := d_ret h
  exact w_vret 97 hX hR dJ0_init_db425_97 rfl
noncomputable def DJ0_init_db425 (p0 : Nat) (p1 : Nat) : Dm Unit :=
  dbind (dread (isC p1 14)) fun x1 => dbind (DJ5_getValue_6d5f1 p1) fun x2 => dbind (dread (isC p1 14)) fun x3 => dbind (DJ4_length_8abf5 p1) fun x4 => dbind (dread (isC p1 14)) fun x5 => dbind (DJ5_isLatin1_aae02 p1) fun x6 => (if x6 = 0 then ((if (1 : Int32) = 0 then (DJ0_init_db425_b79 p0 x2 x4) else (dbind (dread (gfI p1 14 2)) fun x9 => (if x9 = 0 then (DJ0_init_db425_b79 p0 x2 x4) else (dno))))) else (dbind (dput (pfI p0 13 1 0)) fun _ => dbind (DJ7_copyOfRange_39247 x2 0 x4) fun x12 => dbind (dput (pfO p0 13 0 (some x12))) fun _ => dret ()))
theorem CDJ0_init_db425 {G : Gt} (p0 : Nat) (p1 : Nat) {w w' : Wd} {v : Unit} (h : (DJ0_init_db425 p0 p1).1 w = some (v, w')) : CN G yJ0_init_db425 cJ0_init_db425 5 none 4 [.ref p0, .ref p1, .null] w (none) w' :=
  cn_of (by decide) rfl (Nat.le_of_ble_eq_true rfl) (d_le h) (fun X hX hNm hR => by
  unfold DJ0_init_db425 at h
  refine w_aload_n 0 0 hX rfl rfl dJ0_init_db425_0 ?_
  refine w_objInit 1 hX ml_J0_1 oi_i oi_c (by decide) (Nat.le_of_ble_eq_true rfl) dJ0_init_db425_1 ?_
  refine w_aload_n 1 4 hX rfl rfl dJ0_init_db425_4 ?_
  obtain ⟨x1, gx1, h⟩ := d_rd h
  obtain ⟨x2, wx2, gx2, h⟩ := d_bind h
  refine x_invU (x := yJ5_getValue_6d5f1) (av := []) (st := []) 5 hX (isC_ok gx1) wu_yJ5_getValue_6d5f1_1 wu_yJ5_getValue_6d5f1_2 mo_yJ5_getValue_6d5f1 mo_yJ5_getValue_6d5f1 mi_yJ5_getValue_6d5f1.1 ⟨by decide, by decide, by decide +kernel⟩ mi_yJ5_getValue_6d5f1 ml_J0_552 (CDJ5_getValue_6d5f1 p1 gx2) rfl (by decide) (Nat.le_of_ble_eq_true rfl) (d_le h).1 (d_le h).2 dJ0_init_db425_5 ?_
  refine w_astore_n (lv' := [(3, .ref x2), (0, .ref p0), (1, .ref p1), (2, .null)]) 8 hX rfl dJ0_init_db425_8 (by decide) rfl ?_
  refine w_aload_n 2 9 hX rfl rfl dJ0_init_db425_9 ?_
  obtain ⟨x3, gx3, h⟩ := d_rd h
  obtain ⟨x4, wx4, gx4, h⟩ := d_bind h
  refine x_invU (x := yJ5_length_8abf5) (av := []) (st := []) 10 hX (isC_ok gx3) wu_yJ5_length_8abf5_1 wu_yJ5_length_8abf5_2 mo_yJ4_length_8abf5 mo_yJ5_length_8abf5 mi_yJ5_length_8abf5.1 ⟨by decide, by decide, by decide +kernel⟩ mi_yJ4_length_8abf5 ml_J0_549 (CDJ4_length_8abf5 p1 gx4) rfl (by decide) (Nat.le_of_ble_eq_true rfl) (d_le h).1 (d_le h).2 dJ0_init_db425_10 ?_
  refine w_istore (lv' := [(4, .int x4), (3, .ref x2), (0, .ref p0), (1, .ref p1), (2, .null)]) 13 hX dJ0_init_db425_13 (by decide) rfl ?_
  refine w_aload_n 3 15 hX rfl rfl dJ0_init_db425_15 ?_
  obtain ⟨x5, gx5, h⟩ := d_rd h
  obtain ⟨x6, wx6, gx6, h⟩ := d_bind h
  refine x_invU (x := yJ5_isLatin1_aae02) (av := []) (st := []) 16 hX (isC_ok gx5) wu_yJ5_isLatin1_aae02_1 wu_yJ5_isLatin1_aae02_2 mo_yJ5_isLatin1_aae02 mo_yJ5_isLatin1_aae02 mi_yJ5_isLatin1_aae02.1 ⟨by decide, by decide, by decide +kernel⟩ mi_yJ5_isLatin1_aae02 ml_J0_1047 (CDJ5_isLatin1_aae02 p1 gx6) rfl (by decide) (Nat.le_of_ble_eq_true rfl) (d_le h).1 (d_le h).2 dJ0_init_db425_16 ?_
  refine w_if_eq (tgt := 41) 19 hX dJ0_init_db425_19 (by decide) (fun c7 => ?_) (fun c7 => ?_)
  · have h := dit h c7
    refine w_gcs 41 hX (tw_of 1067 (by decide +kernel) rfl) dJ0_init_db425_41 ?_
    refine w_if_eq (tgt := 79) 44 hX dJ0_init_db425_44 (by decide) (fun c8 => ?_) (fun c8 => ?_)
    · have h := dit h c8
      exact w_sub [2, 1, 0] rfl (bDJ0_init_db425_79 hX hNm hR p0 x2 x4 _ h)
    · have h := die h c8
      refine w_aload_n 3 47 hX rfl rfl dJ0_init_db425_47 ?_
      obtain ⟨x9, gx9, h⟩ := d_rd h
      refine x_getI 48 hX CI_14 gx9 rfl fl_J0_1048 rfl dJ0_init_db425_48 ?_
      refine w_if_eq (tgt := 79) 51 hX dJ0_init_db425_51 (by decide) (fun c10 => ?_) (fun c10 => ?_)
      · have h := dit h c10
        exact w_sub [2, 1, 0] rfl (bDJ0_init_db425_79 hX hNm hR p0 x2 x4 _ h)
      · have h := die h c10
        refine w_aload_n 2 54 hX rfl rfl dJ0_init_db425_54 ?_
        refine w_aload_n 1 55 hX rfl rfl dJ0_init_db425_55 ?_
        refine w_iconst 0 56 hX ic_0 dJ0_init_db425_56 ?_
        refine w_iload 0 57 hX rfl dJ0_init_db425_57 ?_
        exact dn_ h
  · have h := die h c7
    refine w_aload_n 2 22 hX rfl rfl dJ0_init_db425_22 ?_
    refine w_iconst 0 23 hX ic_0 dJ0_init_db425_23 ?_
    obtain ⟨x11, wx11, gx11, h⟩ := d_bind h
    refine x_putFI 24 hX hNm CI_13 gx11 rfl fl_J0_15 rfl rfl rfl (by decide) (by decide) dJ0_init_db425_24 ?_
    refine w_aload_n 2 27 hX rfl rfl dJ0_init_db425_27 ?_
    refine w_aload_n 1 28 hX rfl rfl dJ0_init_db425_28 ?_
    refine w_iconst 0 29 hX ic_0 dJ0_init_db425_29 ?_
    refine w_iload 0 30 hX rfl dJ0_init_db425_30 ?_
    obtain ⟨x12, wx12, gx12, h⟩ := d_bind h
    refine w_invSr (av := [.ref x2, .int 0, .int x4]) (st := [.ref p0]) 32 hX ms_yJ7_copyOfRange_39247 mi_yJ7_copyOfRange_39247 ml_J0_54 (CDJ7_copyOfRange_39247 x2 0 x4 gx12) rfl (by decide) (Nat.le_of_ble_eq_true rfl) (d_le h).1 (d_le h).2 dJ0_init_db425_32 ?_
    obtain ⟨x13, wx13, gx13, h⟩ := d_bind h
    refine x_putFR 35 hX hNm CI_13 gx13 rfl fl_J0_9 rfl rfl rfl (fun _ => rfl) (fun _ => rfl) dJ0_init_db425_35 ?_
    refine w_goto (tgt := 97) 38 hX (by decide) dJ0_init_db425_38 ?_
    obtain ⟨rfl, rfl⟩ := d_ret h
    exact w_vret 97 hX hR dJ0_init_db425_97 rfl)
noncomputable def DJ0_init_81219 (p0 : Nat) (p1 : Nat) : Dm Unit :=
  dbind (dread (isC p0 13)) fun x1 => dbind (DJ0_init_db425 p0 p1) fun _ => dret ()
theorem CDJ0_init_81219 {G : Gt} (p0 : Nat) (p1 : Nat) {w w' : Wd} {v : Unit} (h : (DJ0_init_81219 p0 p1).1 w = some (v, w')) : CN G yJ0_init_81219 cJ0_init_81219 2 none 5 [.ref p0, .ref p1] w (none) w' :=
  cn_of (by decide) rfl (Nat.le_of_ble_eq_true rfl) (d_le h) (fun X hX hNm hR => by
  unfold DJ0_init_81219 at h
  refine w_aload_n 0 0 hX rfl rfl dJ0_init_81219_0 ?_
  refine w_aload_n 1 1 hX rfl rfl dJ0_init_81219_1 ?_
  refine w_null 2 hX dJ0_init_81219_2 ?_
  obtain ⟨x1, gx1, h⟩ := d_rd h
  obtain ⟨x2, wx2, gx2, h⟩ := d_bind h
  refine w_invIv (av := [.ref p1, .null]) (st := []) 3 hX CI_13 (isC_ok gx1) mo_yJ0_init_db425 rfl mi_yJ0_init_db425 ml_J0_489 (CDJ0_init_db425 p0 p1 gx2) rfl (by decide) (Nat.le_of_ble_eq_true rfl) (d_le h).1 (d_le h).2 dJ0_init_81219_3 ?_
  obtain ⟨rfl, rfl⟩ := d_ret h
  exact w_vret 6 hX hR dJ0_init_81219_6 rfl)
noncomputable def DJ4_toString_0e30d (p0 : Nat) : Dm Nat :=
  dbind (dnew (nwO 13)) fun x1 => dbind (dread (isC x1 13)) fun x2 => dbind (DJ0_init_81219 x1 p0) fun _ => dret x1
theorem CDJ4_toString_0e30d {G : Gt} (p0 : Nat) {w w' : Wd} {v : Nat} (h : (DJ4_toString_0e30d p0).1 w = some (v, w')) : CN G yJ4_toString_0e30d cJ4_toString_0e30d 1 (some (.object "java/lang/String")) 6 [.ref p0] w (some (.ref v)) w' :=
  cn_of (by decide) rfl (Nat.le_of_ble_eq_true rfl) (d_le h) (fun X hX _ hR => by
  unfold DJ4_toString_0e30d at h
  obtain ⟨x1, wx1, gx1, h⟩ := d_bind h
  refine x_new 0 hX CI_13 gx1 dvW_13 cl_J4_18 insW_13 izW_13 (d_le h) dJ4_toString_0e30d_0 ?_
  refine w_dup 3 hX rfl dJ4_toString_0e30d_3 ?_
  refine w_aload_n 0 4 hX rfl rfl dJ4_toString_0e30d_4 ?_
  obtain ⟨x2, gx2, h⟩ := d_rd h
  obtain ⟨x3, wx3, gx3, h⟩ := d_bind h
  refine w_invIv (av := [.ref p0]) (st := [.ref x1]) 5 hX CI_13 (isC_ok gx2) mo_yJ0_init_81219 rfl mi_yJ0_init_81219 ml_J4_137 (CDJ0_init_81219 x1 p0 gx3) rfl (by decide) (Nat.le_of_ble_eq_true rfl) (d_le h).1 (d_le h).2 dJ4_toString_0e30d_5 ?_
  obtain ⟨rfl, rfl⟩ := d_ret h
  exact w_aret 8 hX hR (Or.inl ⟨_, rfl⟩) dJ4_toString_0e30d_8 rfl)
noncomputable def DJ8_newLength_cabcc_b21 (l0 : Int32) (l1 : Int32) : Dm Int32 :=
  dno
theorem bDJ8_newLength_cabcc_21 {G : Gt} {X : Xt} {w' : Wd} {v : Int32} (hX : CxOk G X cJ8_newLength_cabcc 4 RJ8 (some (.int v), w'.1, w'.2.1, w'.2.2) 2) (hR : CxRet G X (some .int) (some (.int v), w'.1, w'.2.1, w'.2.2)) (l0 : Int32) (l1 : Int32) (w : Wd) (h : (DJ8_newLength_cabcc_b21 l0 l1).1 w = some (v, w')) : WM G X 21 [(0, .int l0), (1, .int l1)] [] w.1 w.2.1 w.2.2 := by
  unfold DJ8_newLength_cabcc_b21 at h
  refine w_iload_n 0 21 hX rfl rfl dJ8_newLength_cabcc_21 ?_
  refine w_iload_n 1 22 hX rfl rfl dJ8_newLength_cabcc_22 ?_
  exact dn_ h
noncomputable def DJ8_newLength_cabcc (p0 : Int32) (p1 : Int32) (p2 : Int32) : Dm Int32 :=
  (if (p0 + (if p1 < p2 then p2 else p1)) ≤ 0 then (DJ8_newLength_cabcc_b21 p0 p1) else ((if 2147483639 < (p0 + (if p1 < p2 then p2 else p1)) then (DJ8_newLength_cabcc_b21 p0 p1) else (dret (p0 + (if p1 < p2 then p2 else p1))))))
theorem CDJ8_newLength_cabcc {G : Gt} (p0 : Int32) (p1 : Int32) (p2 : Int32) {w w' : Wd} {v : Int32} (h : (DJ8_newLength_cabcc p0 p1 p2).1 w = some (v, w')) : CN G yJ8_newLength_cabcc cJ8_newLength_cabcc 4 (some .int) 2 [.int p0, .int p1, .int p2] w (some (.int v)) w' :=
  cn_of (by decide) rfl (Nat.le_of_ble_eq_true rfl) (d_le h) (fun X hX _ hR => by
  unfold DJ8_newLength_cabcc at h
  refine w_iload_n 0 0 hX rfl rfl dJ8_newLength_cabcc_0 ?_
  refine w_iload_n 1 1 hX rfl rfl dJ8_newLength_cabcc_1 ?_
  refine w_iload_n 2 2 hX rfl rfl dJ8_newLength_cabcc_2 ?_
  refine w_max 3 hX ml_J8_194 jm_max_s jm_i jm_max_c (by decide) (Nat.le_of_ble_eq_true rfl) (d_le h).1 (d_le h).2 dJ8_newLength_cabcc_3 ?_
  refine w_iadd 6 hX dJ8_newLength_cabcc_6 ?_
  refine w_istore_n (lv' := [(3, .int (p0 + (if p1 < p2 then p2 else p1))), (0, .int p0), (1, .int p1), (2, .int p2)]) 7 hX rfl dJ8_newLength_cabcc_7 (by decide) rfl ?_
  refine w_iconst 0 8 hX ic_0 dJ8_newLength_cabcc_8 ?_
  refine w_iload_n 0 9 hX rfl rfl dJ8_newLength_cabcc_9 ?_
  refine w_icmp_ge (tgt := 21) 10 hX dJ8_newLength_cabcc_10 (by decide) (fun c1 => ?_) (fun c1 => ?_)
  · have h := dit h c1
    exact w_sub [1, 2] rfl (bDJ8_newLength_cabcc_21 hX hR p0 p1 _ h)
  · have h := die h c1
    refine w_iload_n 0 13 hX rfl rfl dJ8_newLength_cabcc_13 ?_
    refine w_ldc 2147483639 14 hX cs_J8_200 dJ8_newLength_cabcc_14 ?_
    refine w_icmp_gt (tgt := 21) 16 hX dJ8_newLength_cabcc_16 (by decide) (fun c2 => ?_) (fun c2 => ?_)
    · have h := dit h c2
      exact w_sub [1, 2] rfl (bDJ8_newLength_cabcc_21 hX hR p0 p1 _ h)
    · have h := die h c2
      refine w_iload_n 0 19 hX rfl rfl dJ8_newLength_cabcc_19 ?_
      obtain ⟨rfl, rfl⟩ := d_ret h
      exact w_iret 20 hX hR dJ8_newLength_cabcc_20 rfl)
noncomputable def DJ5_newCapacity_0f7a4 (p0 : Nat) (p1 : Int32) : Dm Int32 :=
  dbind (dread (gfR p0 14 0)) fun x1 => dbind (dread (blen x1)) fun x2 => dbind (dread (gfI p0 14 1)) fun x3 => dbind (dread (gfI p0 14 1)) fun x4 => dbind (DJ8_newLength_cabcc x2 ((p1 <<< (x3 &&& 31)) - x2) (x2 + ((2 : Int32) <<< (x4 &&& 31)))) fun x5 => (if x5 = 2147483647 then (dno) else (dbind (dread (gfI p0 14 1)) fun x7 => dret (x5 >>> (x7 &&& 31))))
theorem CDJ5_newCapacity_0f7a4 {G : Gt} (p0 : Nat) (p1 : Int32) {w w' : Wd} {v : Int32} (h : (DJ5_newCapacity_0f7a4 p0 p1).1 w = some (v, w')) : CN G yJ5_newCapacity_0f7a4 cJ5_newCapacity_0f7a4 6 (some .int) 3 [.ref p0, .int p1] w (some (.int v)) w' :=
  cn_of (by decide) rfl (Nat.le_of_ble_eq_true rfl) (d_le h) (fun X hX _ hR => by
  unfold DJ5_newCapacity_0f7a4 at h
  refine w_aload_n 0 0 hX rfl rfl dJ5_newCapacity_0f7a4_0 ?_
  obtain ⟨x1, gx1, h⟩ := d_rd h
  refine x_getR 1 hX CI_14 gx1 rfl fl_J5_15 rfl dJ5_newCapacity_0f7a4_1 ?_
  obtain ⟨x2, gx2, h⟩ := d_rd h
  refine x_blen 4 hX gx2 dJ5_newCapacity_0f7a4_4 ?_
  refine w_istore_n (lv' := [(2, .int x2), (0, .ref p0), (1, .int p1)]) 5 hX rfl dJ5_newCapacity_0f7a4_5 (by decide) rfl ?_
  refine w_iload_n 2 6 hX rfl rfl dJ5_newCapacity_0f7a4_6 ?_
  refine w_aload_n 1 7 hX rfl rfl dJ5_newCapacity_0f7a4_7 ?_
  obtain ⟨x3, gx3, h⟩ := d_rd h
  refine x_getI 8 hX CI_14 gx3 rfl fl_J5_22 rfl dJ5_newCapacity_0f7a4_8 ?_
  refine w_ishl 11 hX dJ5_newCapacity_0f7a4_11 ?_
  refine w_istore_n (lv' := [(3, .int (p1 <<< (x3 &&& 31))), (2, .int x2), (0, .ref p0), (1, .int p1)]) 12 hX rfl dJ5_newCapacity_0f7a4_12 (by decide) rfl ?_
  refine w_iload_n 0 13 hX rfl rfl dJ5_newCapacity_0f7a4_13 ?_
  refine w_iload_n 1 14 hX rfl rfl dJ5_newCapacity_0f7a4_14 ?_
  refine w_isub 15 hX dJ5_newCapacity_0f7a4_15 ?_
  refine w_istore (lv' := [(4, .int ((p1 <<< (x3 &&& 31)) - x2)), (3, .int (p1 <<< (x3 &&& 31))), (2, .int x2), (0, .ref p0), (1, .int p1)]) 16 hX dJ5_newCapacity_0f7a4_16 (by decide) rfl ?_
  refine w_iload_n 2 18 hX rfl rfl dJ5_newCapacity_0f7a4_18 ?_
  refine w_iload 0 19 hX rfl dJ5_newCapacity_0f7a4_19 ?_
  refine w_iload_n 2 21 hX rfl rfl dJ5_newCapacity_0f7a4_21 ?_
  refine w_iconst 2 22 hX ic_2 dJ5_newCapacity_0f7a4_22 ?_
  refine w_aload_n 3 23 hX rfl rfl dJ5_newCapacity_0f7a4_23 ?_
  obtain ⟨x4, gx4, h⟩ := d_rd h
  refine x_getI 24 hX CI_14 gx4 rfl fl_J5_22 rfl dJ5_newCapacity_0f7a4_24 ?_
  refine w_ishl 27 hX dJ5_newCapacity_0f7a4_27 ?_
  refine w_iadd 28 hX dJ5_newCapacity_0f7a4_28 ?_
  obtain ⟨x5, wx5, gx5, h⟩ := d_bind h
  refine w_invSi (av := [.int x2, .int ((p1 <<< (x3 &&& 31)) - x2), .int (x2 + ((2 : Int32) <<< (x4 &&& 31)))]) (st := []) 29 hX ms_yJ8_newLength_cabcc mi_yJ8_newLength_cabcc ml_J5_114 (CDJ8_newLength_cabcc x2 ((p1 <<< (x3 &&& 31)) - x2) (x2 + ((2 : Int32) <<< (x4 &&& 31))) gx5) rfl (by decide) (Nat.le_of_ble_eq_true rfl) (d_le h).1 (d_le h).2 dJ5_newCapacity_0f7a4_29 ?_
  refine w_istore (lv' := [(5, .int x5), (4, .int ((p1 <<< (x3 &&& 31)) - x2)), (3, .int (p1 <<< (x3 &&& 31))), (2, .int x2), (0, .ref p0), (1, .int p1)]) 32 hX dJ5_newCapacity_0f7a4_32 (by decide) rfl ?_
  refine w_iload 0 34 hX rfl dJ5_newCapacity_0f7a4_34 ?_
  refine w_ldc 2147483647 36 hX cs_J5_39 dJ5_newCapacity_0f7a4_36 ?_
  refine w_icmp_ne (tgt := 51) 38 hX dJ5_newCapacity_0f7a4_38 (by decide) (fun c6 => ?_) (fun c6 => ?_)
  · have h := die h c6
    refine w_iload 0 51 hX rfl dJ5_newCapacity_0f7a4_51 ?_
    refine w_aload_n 4 53 hX rfl rfl dJ5_newCapacity_0f7a4_53 ?_
    obtain ⟨x7, gx7, h⟩ := d_rd h
    refine x_getI 54 hX CI_14 gx7 rfl fl_J5_22 rfl dJ5_newCapacity_0f7a4_54 ?_
    refine w_ishr 57 hX dJ5_newCapacity_0f7a4_57 ?_
    obtain ⟨rfl, rfl⟩ := d_ret h
    exact w_iret 58 hX hR dJ5_newCapacity_0f7a4_58 rfl
  · have h := dit h c6
    exact dn_ h)
noncomputable def DJ7_copyOf_9075b (p0 : Nat) (p1 : Int32) : Dm Nat :=
  dbind (dread (blen p0)) fun x1 => (if p1 = x1 then (dbind (dnew (nwCB p0)) fun x6 => dbind (dread (isBy x6)) fun x7 => dret x6) else (dbind (dnew (nwA 3 p1)) fun x3 => dbind (dread (blen p0)) fun x4 => dbind (dput (bcpy p0 0 x3 0 (if p1 < x4 then p1 else x4))) fun _ => dret x3))
theorem CDJ7_copyOf_9075b {G : Gt} (p0 : Nat) (p1 : Int32) {w w' : Wd} {v : Nat} (h : (DJ7_copyOf_9075b p0 p1).1 w = some (v, w')) : CN G yJ7_copyOf_9075b cJ7_copyOf_9075b 3 (some (.array .byte)) 2 [.ref p0, .int p1] w (some (.ref v)) w' :=
  cn_of (by decide) rfl (Nat.le_of_ble_eq_true rfl) (d_le h) (fun X hX _ hR => by
  unfold DJ7_copyOf_9075b at h
  refine w_iload_n 1 0 hX rfl rfl dJ7_copyOf_9075b_0 ?_
  refine w_aload_n 0 1 hX rfl rfl dJ7_copyOf_9075b_1 ?_
  obtain ⟨x1, gx1, h⟩ := d_rd h
  refine x_blen 2 hX gx1 dJ7_copyOf_9075b_2 ?_
  refine w_icmp_ne (tgt := 14) 3 hX dJ7_copyOf_9075b_3 (by decide) (fun c2 => ?_) (fun c2 => ?_)
  · have h := die h c2
    refine w_iload_n 1 14 hX rfl rfl dJ7_copyOf_9075b_14 ?_
    obtain ⟨x3, wx3, gx3, h⟩ := d_bind h
    refine x_newB 15 hX gx3 aw_byte (d_le h) dJ7_copyOf_9075b_15 ?_
    refine w_astore_n (lv' := [(2, .ref x3), (0, .ref p0), (1, .int p1)]) 17 hX rfl dJ7_copyOf_9075b_17 (by decide) rfl ?_
    refine w_aload_n 1 18 hX rfl rfl dJ7_copyOf_9075b_18 ?_
    refine w_iconst 0 19 hX ic_0 dJ7_copyOf_9075b_19 ?_
    refine w_aload_n 0 20 hX rfl rfl dJ7_copyOf_9075b_20 ?_
    refine w_iconst 0 21 hX ic_0 dJ7_copyOf_9075b_21 ?_
    refine w_aload_n 1 22 hX rfl rfl dJ7_copyOf_9075b_22 ?_
    obtain ⟨x4, gx4, h⟩ := d_rd h
    refine x_blen 23 hX gx4 dJ7_copyOf_9075b_23 ?_
    refine w_iload_n 2 24 hX rfl rfl dJ7_copyOf_9075b_24 ?_
    refine w_min 25 hX ml_J7_304 jm_min_s jm_i jm_min_c (by decide) (Nat.le_of_ble_eq_true rfl) (d_le h).1 (d_le h).2 dJ7_copyOf_9075b_25 ?_
    obtain ⟨x5, wx5, gx5, h⟩ := d_bind h
    refine x_bcpy 28 hX gx5 ml_J7_150 (by decide) (Nat.le_of_ble_eq_true rfl) dJ7_copyOf_9075b_28 ?_
    refine w_aload_n 0 31 hX rfl rfl dJ7_copyOf_9075b_31 ?_
    obtain ⟨rfl, rfl⟩ := d_ret h
    exact w_aret 32 hX hR (Or.inr ⟨_, rfl⟩) dJ7_copyOf_9075b_32 rfl
  · have h := dit h c2
    refine w_aload_n 0 6 hX rfl rfl dJ7_copyOf_9075b_6 ?_
    obtain ⟨x6, wx6, gx6, h⟩ := d_bind h
    refine x_cloneB 7 hX gx6 clkB_J7_310 clwB_1 clw_2 clw_3 clwB_4 clwB_5 (by decide) (Nat.le_of_ble_eq_true rfl) (d_le h) dJ7_copyOf_9075b_7 ?_
    obtain ⟨x7, gx7, h⟩ := d_rd h
    refine x_castB 10 hX gx7 cl_J7_311 dJ7_copyOf_9075b_10 ?_
    obtain ⟨rfl, rfl⟩ := d_ret h
    exact w_aret 13 hX hR (Or.inr ⟨_, rfl⟩) dJ7_copyOf_9075b_13 rfl)
noncomputable def DJ5_ensureCapacityInternal_d00df (p0 : Nat) (p1 : Int32) : Dm Unit :=
  dbind (dread (gfR p0 14 0)) fun x1 => dbind (dread (blen x1)) fun x2 => dbind (dread (gfI p0 14 1)) fun x3 => (if (p1 - (x2 >>> (x3 &&& 31))) ≤ 0 then (dret ()) else (dbind (dread (gfR p0 14 0)) fun x5 => dbind (dread (isC p0 14)) fun x6 => dbind (DJ5_newCapacity_0f7a4 p0 p1) fun x7 => dbind (dread (gfI p0 14 1)) fun x8 => dbind (DJ7_copyOf_9075b x5 (x7 <<< (x8 &&& 31))) fun x9 => dbind (dput (pfO p0 14 0 (some x9))) fun _ => dret ()))
theorem CDJ5_ensureCapacityInternal_d00df {G : Gt} (p0 : Nat) (p1 : Int32) {w w' : Wd} {v : Unit} (h : (DJ5_ensureCapacityInternal_d00df p0 p1).1 w = some (v, w')) : CN G yJ5_ensureCapacityInternal_d00df cJ5_ensureCapacityInternal_d00df 3 none 4 [.ref p0, .int p1] w (none) w' :=
  cn_of (by decide) rfl (Nat.le_of_ble_eq_true rfl) (d_le h) (fun X hX _ hR => by
  unfold DJ5_ensureCapacityInternal_d00df at h
  refine w_aload_n 0 0 hX rfl rfl dJ5_ensureCapacityInternal_d00df_0 ?_
  obtain ⟨x1, gx1, h⟩ := d_rd h
  refine x_getR 1 hX CI_14 gx1 rfl fl_J5_15 rfl dJ5_ensureCapacityInternal_d00df_1 ?_
  obtain ⟨x2, gx2, h⟩ := d_rd h
  refine x_blen 4 hX gx2 dJ5_ensureCapacityInternal_d00df_4 ?_
  refine w_aload_n 0 5 hX rfl rfl dJ5_ensureCapacityInternal_d00df_5 ?_
  obtain ⟨x3, gx3, h⟩ := d_rd h
  refine x_getI 6 hX CI_14 gx3 rfl fl_J5_22 rfl dJ5_ensureCapacityInternal_d00df_6 ?_
  refine w_ishr 9 hX dJ5_ensureCapacityInternal_d00df_9 ?_
  refine w_istore_n (lv' := [(2, .int (x2 >>> (x3 &&& 31))), (0, .ref p0), (1, .int p1)]) 10 hX rfl dJ5_ensureCapacityInternal_d00df_10 (by decide) rfl ?_
  refine w_iload_n 2 11 hX rfl rfl dJ5_ensureCapacityInternal_d00df_11 ?_
  refine w_iload_n 0 12 hX rfl rfl dJ5_ensureCapacityInternal_d00df_12 ?_
  refine w_isub 13 hX dJ5_ensureCapacityInternal_d00df_13 ?_
  refine w_if_le (tgt := 38) 14 hX dJ5_ensureCapacityInternal_d00df_14 (by decide) (fun c4 => ?_) (fun c4 => ?_)
  · have h := dit h c4
    obtain ⟨rfl, rfl⟩ := d_ret h
    exact w_vret 38 hX hR dJ5_ensureCapacityInternal_d00df_38 rfl
  · have h := die h c4
    refine w_aload_n 1 17 hX rfl rfl dJ5_ensureCapacityInternal_d00df_17 ?_
    refine w_aload_n 1 18 hX rfl rfl dJ5_ensureCapacityInternal_d00df_18 ?_
    obtain ⟨x5, gx5, h⟩ := d_rd h
    refine x_getR 19 hX CI_14 gx5 rfl fl_J5_15 rfl dJ5_ensureCapacityInternal_d00df_19 ?_
    refine w_aload_n 1 22 hX rfl rfl dJ5_ensureCapacityInternal_d00df_22 ?_
    refine w_iload_n 2 23 hX rfl rfl dJ5_ensureCapacityInternal_d00df_23 ?_
    obtain ⟨x6, gx6, h⟩ := d_rd h
    obtain ⟨x7, wx7, gx7, h⟩ := d_bind h
    refine x_invU (x := yJ5_newCapacity_0f7a4) (av := [.int p1]) (st := [.ref x5, .ref p0]) 24 hX (isC_ok gx6) wu_yJ5_newCapacity_0f7a4_1 wu_yJ5_newCapacity_0f7a4_2 mo_yJ5_newCapacity_0f7a4 mo_yJ5_newCapacity_0f7a4 mi_yJ5_newCapacity_0f7a4.1 ⟨by decide, by decide, by decide +kernel⟩ mi_yJ5_newCapacity_0f7a4 ml_J5_104 (CDJ5_newCapacity_0f7a4 p0 p1 gx7) rfl (by decide) (Nat.le_of_ble_eq_true rfl) (d_le h).1 (d_le h).2 dJ5_ensureCapacityInternal_d00df_24 ?_
    refine w_aload_n 1 27 hX rfl rfl dJ5_ensureCapacityInternal_d00df_27 ?_
    obtain ⟨x8, gx8, h⟩ := d_rd h
    refine x_getI 28 hX CI_14 gx8 rfl fl_J5_22 rfl dJ5_ensureCapacityInternal_d00df_28 ?_
    refine w_ishl 31 hX dJ5_ensureCapacityInternal_d00df_31 ?_
    obtain ⟨x9, wx9, gx9, h⟩ := d_bind h
    refine w_invSr (av := [.ref x5, .int (x7 <<< (x8 &&& 31))]) (st := [.ref p0]) 32 hX ms_yJ7_copyOf_9075b mi_yJ7_copyOf_9075b ml_J5_108 (CDJ7_copyOf_9075b x5 (x7 <<< (x8 &&& 31)) gx9) rfl (by decide) (Nat.le_of_ble_eq_true rfl) (d_le h).1 (d_le h).2 dJ5_ensureCapacityInternal_d00df_32 ?_
    obtain ⟨x10, wx10, gx10, h⟩ := d_bind h
    refine x_putO (some x9) 35 hX CI_14 gx10 rfl fl_J5_15 rfl rfl (fun o => by cases o <;> rfl) (fun o => by cases o <;> rfl) dJ5_ensureCapacityInternal_d00df_35 ?_
    obtain ⟨rfl, rfl⟩ := d_ret h
    exact w_vret 38 hX hR dJ5_ensureCapacityInternal_d00df_38 rfl)
noncomputable def DJ5_inflateIfNeededFor_a7421 (p0 : Nat) (p1 : Nat) : Dm Unit :=
  (if (1 : Int32) = 0 then (dret ()) else (dbind (dread (gfI p0 14 1)) fun x2 => dbind (dread (isS p1)) fun x3 => dbind (DJ0_coder_7d493 p1) fun x4 => (if x2 = x4 then (dret ()) else (dno))))
theorem CDJ5_inflateIfNeededFor_a7421 {G : Gt} (p0 : Nat) (p1 : Nat) {w w' : Wd} {v : Unit} (h : (DJ5_inflateIfNeededFor_a7421 p0 p1).1 w = some (v, w')) : CN G yJ5_inflateIfNeededFor_a7421 cJ5_inflateIfNeededFor_a7421 2 none 2 [.ref p0, .ref p1] w (none) w' :=
  cn_of (by decide) rfl (Nat.le_of_ble_eq_true rfl) (d_le h) (fun X hX _ hR => by
  unfold DJ5_inflateIfNeededFor_a7421 at h
  refine w_gcs 0 hX (tw_of 941 (by decide +kernel) rfl) dJ5_inflateIfNeededFor_a7421_0 ?_
  refine w_if_eq (tgt := 21) 3 hX dJ5_inflateIfNeededFor_a7421_3 (by decide) (fun c1 => ?_) (fun c1 => ?_)
  · have h := dit h c1
    obtain ⟨rfl, rfl⟩ := d_ret h
    exact w_vret 21 hX hR dJ5_inflateIfNeededFor_a7421_21 rfl
  · have h := die h c1
    refine w_aload_n 0 6 hX rfl rfl dJ5_inflateIfNeededFor_a7421_6 ?_
    obtain ⟨x2, gx2, h⟩ := d_rd h
    refine x_getI 7 hX CI_14 gx2 rfl fl_J5_22 rfl dJ5_inflateIfNeededFor_a7421_7 ?_
    refine w_aload_n 1 10 hX rfl rfl dJ5_inflateIfNeededFor_a7421_10 ?_
    obtain ⟨x3, gx3, h⟩ := d_rd h
    obtain ⟨x4, wx4, gx4, h⟩ := d_bind h
    refine x_invS (av := []) (st := [.int x2]) 11 hX gx3 rfl mv_yJ0_coder_7d493 mi_yJ0_coder_7d493 ml_J5_40 (CDJ0_coder_7d493 p1 gx4) rfl (by decide) (Nat.le_of_ble_eq_true rfl) (d_le h).1 (d_le h).2 dJ5_inflateIfNeededFor_a7421_11 ?_
    refine w_icmp_eq (tgt := 21) 14 hX dJ5_inflateIfNeededFor_a7421_14 (by decide) (fun c5 => ?_) (fun c5 => ?_)
    · have h := dit h c5
      obtain ⟨rfl, rfl⟩ := d_ret h
      exact w_vret 21 hX hR dJ5_inflateIfNeededFor_a7421_21 rfl
    · have h := die h c5
      refine w_aload_n 0 17 hX rfl rfl dJ5_inflateIfNeededFor_a7421_17 ?_
      exact dn_ h)
noncomputable def DJ0_getBytes_840e7 (p0 : Nat) (p1 : Nat) (p2 : Int32) (p3 : Int32) : Dm Unit :=
  dbind (dread (isS p0)) fun x1 => dbind (DJ0_coder_7d493 p0) fun x2 => (if x2 = p3 then (dbind (dread (sVal p0)) fun x7 => dbind (dread (sVal p0)) fun x8 => dbind (dread (blen x8)) fun x9 => dbind (dput (bcpy x7 0 p1 (p2 <<< (p3 &&& 31)) x9)) fun _ => dret ()) else (dbind (dread (sVal p0)) fun x4 => dbind (dread (sVal p0)) fun x5 => dbind (dread (blen x5)) fun x6 => dno))
theorem CDJ0_getBytes_840e7 {G : Gt} (p0 : Nat) (p1 : Nat) (p2 : Int32) (p3 : Int32) {w w' : Wd} {v : Unit} (h : (DJ0_getBytes_840e7 p0 p1 p2 p3).1 w = some (v, w')) : CN G yJ0_getBytes_840e7 cJ0_getBytes_840e7 4 none 2 [.ref p0, .ref p1, .int p2, .int p3] w (none) w' :=
  cn_of (by decide) rfl (Nat.le_of_ble_eq_true rfl) (d_le h) (fun X hX _ hR => by
  unfold DJ0_getBytes_840e7 at h
  refine w_aload_n 0 0 hX rfl rfl dJ0_getBytes_840e7_0 ?_
  obtain ⟨x1, gx1, h⟩ := d_rd h
  obtain ⟨x2, wx2, gx2, h⟩ := d_bind h
  refine x_invS (av := []) (st := []) 1 hX gx1 rfl mv_yJ0_coder_7d493 mi_yJ0_coder_7d493 ml_J0_335 (CDJ0_coder_7d493 p0 gx2) rfl (by decide) (Nat.le_of_ble_eq_true rfl) (d_le h).1 (d_le h).2 dJ0_getBytes_840e7_1 ?_
  refine w_iload_n 3 4 hX rfl rfl dJ0_getBytes_840e7_4 ?_
  refine w_icmp_ne (tgt := 28) 5 hX dJ0_getBytes_840e7_5 (by decide) (fun c3 => ?_) (fun c3 => ?_)
  · have h := die h c3
    refine w_aload_n 0 28 hX rfl rfl dJ0_getBytes_840e7_28 ?_
    obtain ⟨x4, gx4, h⟩ := d_rd h
    refine x_sval 29 hX gx4 fl_J0_9 dJ0_getBytes_840e7_29 ?_
    refine w_iconst 0 32 hX ic_0 dJ0_getBytes_840e7_32 ?_
    refine w_aload_n 1 33 hX rfl rfl dJ0_getBytes_840e7_33 ?_
    refine w_iload_n 2 34 hX rfl rfl dJ0_getBytes_840e7_34 ?_
    refine w_aload_n 0 35 hX rfl rfl dJ0_getBytes_840e7_35 ?_
    obtain ⟨x5, gx5, h⟩ := d_rd h
    refine x_sval 36 hX gx5 fl_J0_9 dJ0_getBytes_840e7_36 ?_
    obtain ⟨x6, gx6, h⟩ := d_rd h
    refine x_blen 39 hX gx6 dJ0_getBytes_840e7_39 ?_
    exact dn_ h
  · have h := dit h c3
    refine w_aload_n 0 8 hX rfl rfl dJ0_getBytes_840e7_8 ?_
    obtain ⟨x7, gx7, h⟩ := d_rd h
    refine x_sval 9 hX gx7 fl_J0_9 dJ0_getBytes_840e7_9 ?_
    refine w_iconst 0 12 hX ic_0 dJ0_getBytes_840e7_12 ?_
    refine w_aload_n 1 13 hX rfl rfl dJ0_getBytes_840e7_13 ?_
    refine w_iload_n 2 14 hX rfl rfl dJ0_getBytes_840e7_14 ?_
    refine w_iload_n 3 15 hX rfl rfl dJ0_getBytes_840e7_15 ?_
    refine w_ishl 16 hX dJ0_getBytes_840e7_16 ?_
    refine w_aload_n 0 17 hX rfl rfl dJ0_getBytes_840e7_17 ?_
    obtain ⟨x8, gx8, h⟩ := d_rd h
    refine x_sval 18 hX gx8 fl_J0_9 dJ0_getBytes_840e7_18 ?_
    obtain ⟨x9, gx9, h⟩ := d_rd h
    refine x_blen 21 hX gx9 dJ0_getBytes_840e7_21 ?_
    obtain ⟨x10, wx10, gx10, h⟩ := d_bind h
    refine x_bcpy 22 hX gx10 ml_J0_212 (by decide) (Nat.le_of_ble_eq_true rfl) dJ0_getBytes_840e7_22 ?_
    refine w_goto (tgt := 43) 25 hX (by decide) dJ0_getBytes_840e7_25 ?_
    obtain ⟨rfl, rfl⟩ := d_ret h
    exact w_vret 43 hX hR dJ0_getBytes_840e7_43 rfl)
noncomputable def DJ5_putStringAt_47b60 (p0 : Nat) (p1 : Int32) (p2 : Nat) : Dm Unit :=
  dbind (dread (isC p0 14)) fun x1 => dbind (DJ5_inflateIfNeededFor_a7421 p0 p2) fun _ => dbind (dread (gfR p0 14 0)) fun x3 => dbind (dread (gfI p0 14 1)) fun x4 => dbind (dread (isS p2)) fun x5 => dbind (DJ0_getBytes_840e7 p2 x3 p1 x4) fun _ => dret ()
theorem CDJ5_putStringAt_47b60 {G : Gt} (p0 : Nat) (p1 : Int32) (p2 : Nat) {w w' : Wd} {v : Unit} (h : (DJ5_putStringAt_47b60 p0 p1 p2).1 w = some (v, w')) : CN G yJ5_putStringAt_47b60 cJ5_putStringAt_47b60 3 none 3 [.ref p0, .int p1, .ref p2] w (none) w' :=
  cn_of (by decide) rfl (Nat.le_of_ble_eq_true rfl) (d_le h) (fun X hX _ hR => by
  unfold DJ5_putStringAt_47b60 at h
  refine w_aload_n 0 0 hX rfl rfl dJ5_putStringAt_47b60_0 ?_
  refine w_aload_n 2 1 hX rfl rfl dJ5_putStringAt_47b60_1 ?_
  obtain ⟨x1, gx1, h⟩ := d_rd h
  obtain ⟨x2, wx2, gx2, h⟩ := d_bind h
  refine x_invU (x := yJ5_inflateIfNeededFor_a7421) (av := [.ref p2]) (st := []) 2 hX (isC_ok gx1) wu_yJ5_inflateIfNeededFor_a7421_1 wu_yJ5_inflateIfNeededFor_a7421_2 mo_yJ5_inflateIfNeededFor_a7421 mo_yJ5_inflateIfNeededFor_a7421 mi_yJ5_inflateIfNeededFor_a7421.1 ⟨by decide, by decide, by decide +kernel⟩ mi_yJ5_inflateIfNeededFor_a7421 ml_J5_397 (CDJ5_inflateIfNeededFor_a7421 p0 p2 gx2) rfl (by decide) (Nat.le_of_ble_eq_true rfl) (d_le h).1 (d_le h).2 dJ5_putStringAt_47b60_2 ?_
  refine w_aload_n 2 5 hX rfl rfl dJ5_putStringAt_47b60_5 ?_
  refine w_aload_n 0 6 hX rfl rfl dJ5_putStringAt_47b60_6 ?_
  obtain ⟨x3, gx3, h⟩ := d_rd h
  refine x_getR 7 hX CI_14 gx3 rfl fl_J5_15 rfl dJ5_putStringAt_47b60_7 ?_
  refine w_iload_n 1 10 hX rfl rfl dJ5_putStringAt_47b60_10 ?_
  refine w_aload_n 0 11 hX rfl rfl dJ5_putStringAt_47b60_11 ?_
  obtain ⟨x4, gx4, h⟩ := d_rd h
  refine x_getI 12 hX CI_14 gx4 rfl fl_J5_22 rfl dJ5_putStringAt_47b60_12 ?_
  obtain ⟨x5, gx5, h⟩ := d_rd h
  obtain ⟨x6, wx6, gx6, h⟩ := d_bind h
  refine x_invS (av := [.ref x3, .int p1, .int x4]) (st := []) 15 hX gx5 rfl mv_yJ0_getBytes_840e7 mi_yJ0_getBytes_840e7 ml_J5_399 (CDJ0_getBytes_840e7 p2 x3 p1 x4 gx6) rfl (by decide) (Nat.le_of_ble_eq_true rfl) (d_le h).1 (d_le h).2 dJ5_putStringAt_47b60_15 ?_
  obtain ⟨rfl, rfl⟩ := d_ret h
  exact w_vret 18 hX hR dJ5_putStringAt_47b60_18 rfl)
noncomputable def DJ5_append_cf1ce (p0 : Nat) (p1 : Nat) : Dm Nat :=
  dbind (dread (isS p1)) fun x1 => dbind (DJ0_length_8abf5 p1) fun x2 => dbind (dread (gfI p0 14 3)) fun x3 => dbind (dread (isC p0 14)) fun x4 => dbind (DJ5_ensureCapacityInternal_d00df p0 (x3 + x2)) fun _ => dbind (dread (gfI p0 14 3)) fun x6 => dbind (dread (isC p0 14)) fun x7 => dbind (DJ5_putStringAt_47b60 p0 x6 p1) fun _ => dbind (dread (gfI p0 14 3)) fun x9 => dbind (dput (pfI p0 14 3 (x9 + x2))) fun _ => dret p0
theorem CDJ5_append_cf1ce {G : Gt} (p0 : Nat) (p1 : Nat) {w w' : Wd} {v : Nat} (h : (DJ5_append_cf1ce p0 p1).1 w = some (v, w')) : CN G yJ5_append_cf1ce cJ5_append_cf1ce 3 (some (.object "java/lang/AbstractStringBuilder")) 5 [.ref p0, .ref p1] w (some (.ref v)) w' :=
  cn_of (by decide) rfl (Nat.le_of_ble_eq_true rfl) (d_le h) (fun X hX _ hR => by
  unfold DJ5_append_cf1ce at h
  refine w_aload_n 1 0 hX rfl rfl dJ5_append_cf1ce_0 ?_
  refine w_ifnonnull (tgt := 9) 1 hX (by decide) dJ5_append_cf1ce_1 ?_
  refine w_aload_n 1 9 hX rfl rfl dJ5_append_cf1ce_9 ?_
  obtain ⟨x1, gx1, h⟩ := d_rd h
  obtain ⟨x2, wx2, gx2, h⟩ := d_bind h
  refine x_invS (av := []) (st := []) 10 hX gx1 rfl mv_yJ0_length_8abf5 mi_yJ0_length_8abf5 ml_J5_32 (CDJ0_length_8abf5 p1 gx2) rfl (by decide) (Nat.le_of_ble_eq_true rfl) (d_le h).1 (d_le h).2 dJ5_append_cf1ce_10 ?_
  refine w_istore_n (lv' := [(2, .int x2), (0, .ref p0), (1, .ref p1)]) 13 hX rfl dJ5_append_cf1ce_13 (by decide) rfl ?_
  refine w_aload_n 1 14 hX rfl rfl dJ5_append_cf1ce_14 ?_
  refine w_aload_n 1 15 hX rfl rfl dJ5_append_cf1ce_15 ?_
  obtain ⟨x3, gx3, h⟩ := d_rd h
  refine x_getI 16 hX CI_14 gx3 rfl fl_J5_79 rfl dJ5_append_cf1ce_16 ?_
  refine w_iload_n 0 19 hX rfl rfl dJ5_append_cf1ce_19 ?_
  refine w_iadd 20 hX dJ5_append_cf1ce_20 ?_
  obtain ⟨x4, gx4, h⟩ := d_rd h
  obtain ⟨x5, wx5, gx5, h⟩ := d_bind h
  refine x_invU (x := yJ5_ensureCapacityInternal_d00df) (av := [.int (x3 + x2)]) (st := []) 21 hX (isC_ok gx4) wu_yJ5_ensureCapacityInternal_d00df_1 wu_yJ5_ensureCapacityInternal_d00df_2 mo_yJ5_ensureCapacityInternal_d00df mo_yJ5_ensureCapacityInternal_d00df mi_yJ5_ensureCapacityInternal_d00df.1 ⟨by decide, by decide, by decide +kernel⟩ mi_yJ5_ensureCapacityInternal_d00df ml_J5_100 (CDJ5_ensureCapacityInternal_d00df p0 (x3 + x2) gx5) rfl (by decide) (Nat.le_of_ble_eq_true rfl) (d_le h).1 (d_le h).2 dJ5_append_cf1ce_21 ?_
  refine w_aload_n 1 24 hX rfl rfl dJ5_append_cf1ce_24 ?_
  refine w_aload_n 1 25 hX rfl rfl dJ5_append_cf1ce_25 ?_
  obtain ⟨x6, gx6, h⟩ := d_rd h
  refine x_getI 26 hX CI_14 gx6 rfl fl_J5_79 rfl dJ5_append_cf1ce_26 ?_
  refine w_aload_n 2 29 hX rfl rfl dJ5_append_cf1ce_29 ?_
  obtain ⟨x7, gx7, h⟩ := d_rd h
  obtain ⟨x8, wx8, gx8, h⟩ := d_bind h
  refine x_invU (x := yJ5_putStringAt_47b60) (av := [.int x6, .ref p1]) (st := []) 30 hX (isC_ok gx7) wu_yJ5_putStringAt_47b60_1 wu_yJ5_putStringAt_47b60_2 mo_yJ5_putStringAt_47b60 mo_yJ5_putStringAt_47b60 mi_yJ5_putStringAt_47b60.1 ⟨by decide, by decide, by decide +kernel⟩ mi_yJ5_putStringAt_47b60 ml_J5_208 (CDJ5_putStringAt_47b60 p0 x6 p1 gx8) rfl (by decide) (Nat.le_of_ble_eq_true rfl) (d_le h).1 (d_le h).2 dJ5_append_cf1ce_30 ?_
  refine w_aload_n 1 33 hX rfl rfl dJ5_append_cf1ce_33 ?_
  refine w_dup 34 hX rfl dJ5_append_cf1ce_34 ?_
  obtain ⟨x9, gx9, h⟩ := d_rd h
  refine x_getI 35 hX CI_14 gx9 rfl fl_J5_79 rfl dJ5_append_cf1ce_35 ?_
  refine w_iload_n 0 38 hX rfl rfl dJ5_append_cf1ce_38 ?_
  refine w_iadd 39 hX dJ5_append_cf1ce_39 ?_
  obtain ⟨x10, wx10, gx10, h⟩ := d_bind h
  refine x_putI 40 hX CI_14 gx10 rfl fl_J5_79 rfl rfl rfl rfl dJ5_append_cf1ce_40 ?_
  refine w_aload_n 1 43 hX rfl rfl dJ5_append_cf1ce_43 ?_
  obtain ⟨rfl, rfl⟩ := d_ret h
  exact w_aret 44 hX hR (Or.inl ⟨_, rfl⟩) dJ5_append_cf1ce_44 rfl)
noncomputable def DJ4_append_15ec4 (p0 : Nat) (p1 : Nat) : Dm Nat :=
  dbind (dread (isC p0 14)) fun x1 => dbind (DJ5_append_cf1ce p0 p1) fun x2 => dret p0
theorem CDJ4_append_15ec4 {G : Gt} (p0 : Nat) (p1 : Nat) {w w' : Wd} {v : Nat} (h : (DJ4_append_15ec4 p0 p1).1 w = some (v, w')) : CN G yJ4_append_15ec4 cJ4_append_15ec4 2 (some (.object "java/lang/StringBuilder")) 6 [.ref p0, .ref p1] w (some (.ref v)) w' :=
  cn_of (by decide) rfl (Nat.le_of_ble_eq_true rfl) (d_le h) (fun X hX _ hR => by
  unfold DJ4_append_15ec4 at h
  refine w_aload_n 0 0 hX rfl rfl dJ4_append_15ec4_0 ?_
  refine w_aload_n 1 1 hX rfl rfl dJ4_append_15ec4_1 ?_
  obtain ⟨x1, gx1, h⟩ := d_rd h
  obtain ⟨x2, wx2, gx2, h⟩ := d_bind h
  refine x_invSU (av := [.ref p1]) (st := []) 2 hX (isC_ok gx1) wu_yJ5_append_cf1ce_1 wu_sup mo_yJ5_append_cf1ce (by decide) mi_yJ5_append_cf1ce ml_J4_29 (CDJ5_append_cf1ce p0 p1 gx2) rfl (by decide) (Nat.le_of_ble_eq_true rfl) (d_le h).1 (d_le h).2 dJ4_append_15ec4_2 ?_
  refine w_pop 5 hX rfl dJ4_append_15ec4_5 ?_
  refine w_aload_n 0 6 hX rfl rfl dJ4_append_15ec4_6 ?_
  obtain ⟨rfl, rfl⟩ := d_ret h
  exact w_aret 7 hX hR (Or.inl ⟨_, rfl⟩) dJ4_append_15ec4_7 rfl)
noncomputable def DJ6_stringSize_0f7a4_b16 (k16 : Int32 → Int32 → Int32 → Int32 → Dm Int32) (l0 : Int32) (l1 : Int32) (l2 : Int32) (l3 : Int32) : Dm Int32 :=
  (if 10 ≤ l3 then (dret (10 + l1)) else ((if l0 ≤ l2 then (k16 l0 l1 (10 * l2) (l3 + 1)) else (dret (l3 + l1)))))
theorem bDJ6_stringSize_0f7a4_16 {G : Gt} {X : Xt} {w' : Wd} {v : Int32} (hX : CxOk G X cJ6_stringSize_0f7a4 4 RJ6 (some (.int v), w'.1, w'.2.1, w'.2.2) 1) (hR : CxRet G X (some .int) (some (.int v), w'.1, w'.2.1, w'.2.2)) {k16 : Int32 → Int32 → Int32 → Int32 → Dm Int32} (hk16 : ∀ (l0 : Int32) (l1 : Int32) (l2 : Int32) (l3 : Int32) (w : Wd), (k16 l0 l1 l2 l3).1 w = some (v, w') → WM G X 16 [(0, .int l0), (1, .int l1), (2, .int l2), (3, .int l3)] [] w.1 w.2.1 w.2.2) (l0 : Int32) (l1 : Int32) (l2 : Int32) (l3 : Int32) (w : Wd) (h : (DJ6_stringSize_0f7a4_b16 k16 l0 l1 l2 l3).1 w = some (v, w')) : WM G X 16 [(0, .int l0), (1, .int l1), (2, .int l2), (3, .int l3)] [] w.1 w.2.1 w.2.2 := by
  unfold DJ6_stringSize_0f7a4_b16 at h
  refine w_iload_n 3 16 hX rfl rfl dJ6_stringSize_0f7a4_16 ?_
  refine w_bipush 10 17 hX ib_10 dJ6_stringSize_0f7a4_17 ?_
  refine w_icmp_ge (tgt := 42) 19 hX dJ6_stringSize_0f7a4_19 (by decide) (fun c1 => ?_) (fun c1 => ?_)
  · have h := dit h c1
    refine w_bipush 10 42 hX ib_10 dJ6_stringSize_0f7a4_42 ?_
    refine w_iload_n 1 44 hX rfl rfl dJ6_stringSize_0f7a4_44 ?_
    refine w_iadd 45 hX dJ6_stringSize_0f7a4_45 ?_
    obtain ⟨rfl, rfl⟩ := d_ret h
    exact w_iret 46 hX hR dJ6_stringSize_0f7a4_46 rfl
  · have h := die h c1
    refine w_iload_n 0 22 hX rfl rfl dJ6_stringSize_0f7a4_22 ?_
    refine w_iload_n 2 23 hX rfl rfl dJ6_stringSize_0f7a4_23 ?_
    refine w_icmp_le (tgt := 31) 24 hX dJ6_stringSize_0f7a4_24 (by decide) (fun c2 => ?_) (fun c2 => ?_)
    · have h := dit h c2
      refine w_bipush 10 31 hX ib_10 dJ6_stringSize_0f7a4_31 ?_
      refine w_iload_n 2 33 hX rfl rfl dJ6_stringSize_0f7a4_33 ?_
      refine w_imul 34 hX dJ6_stringSize_0f7a4_34 ?_
      refine w_istore_n (lv' := [(2, .int (10 * l2)), (0, .int l0), (1, .int l1), (3, .int l3)]) 35 hX rfl dJ6_stringSize_0f7a4_35 (by decide) rfl ?_
      refine w_iinc (lv' := [(3, .int (l3 + 1)), (2, .int (10 * l2)), (0, .int l0), (1, .int l1)]) 36 3 hX dJ6_stringSize_0f7a4_36 rfl (inc_1 _) (by decide) rfl ?_
      refine w_goto (tgt := 16) 39 hX (by decide) dJ6_stringSize_0f7a4_39 ?_
      exact w_sub [2, 3, 1, 0] rfl (hk16 l0 l1 (10 * l2) (l3 + 1) _ h)
    · have h := die h c2
      refine w_iload_n 3 27 hX rfl rfl dJ6_stringSize_0f7a4_27 ?_
      refine w_iload_n 1 28 hX rfl rfl dJ6_stringSize_0f7a4_28 ?_
      refine w_iadd 29 hX dJ6_stringSize_0f7a4_29 ?_
      obtain ⟨rfl, rfl⟩ := d_ret h
      exact w_iret 30 hX hR dJ6_stringSize_0f7a4_30 rfl
noncomputable def DJ6_stringSize_0f7a4_L16 : Nat → Int32 → Int32 → Int32 → Int32 → Dm Int32
  | 0, _, _, _, _ => dno
  | n + 1, l0, l1, l2, l3 => DJ6_stringSize_0f7a4_b16 (DJ6_stringSize_0f7a4_L16 n) l0 l1 l2 l3
theorem lDJ6_stringSize_0f7a4_16 {G : Gt} {X : Xt} {w' : Wd} {v : Int32} (hX : CxOk G X cJ6_stringSize_0f7a4 4 RJ6 (some (.int v), w'.1, w'.2.1, w'.2.2) 1) (hR : CxRet G X (some .int) (some (.int v), w'.1, w'.2.1, w'.2.2)) : ∀ (n : Nat) (l0 : Int32) (l1 : Int32) (l2 : Int32) (l3 : Int32) (w : Wd), (DJ6_stringSize_0f7a4_L16 n l0 l1 l2 l3).1 w = some (v, w') → WM G X 16 [(0, .int l0), (1, .int l1), (2, .int l2), (3, .int l3)] [] w.1 w.2.1 w.2.2 := by
  intro n
  induction n with
  | zero =>
    intro l0 l1 l2 l3 w h
    exact dn_ h
  | succ n ih =>
    intro l0 l1 l2 l3 w h
    exact bDJ6_stringSize_0f7a4_16 hX hR ih l0 l1 l2 l3 w h
noncomputable def DJ6_stringSize_0f7a4_b11 (l0 : Int32) (l1 : Int32) : Dm Int32 :=
  DJ6_stringSize_0f7a4_L16 FU l0 l1 (-10) 1
theorem bDJ6_stringSize_0f7a4_11 {G : Gt} {X : Xt} {w' : Wd} {v : Int32} (hX : CxOk G X cJ6_stringSize_0f7a4 4 RJ6 (some (.int v), w'.1, w'.2.1, w'.2.2) 1) (hR : CxRet G X (some .int) (some (.int v), w'.1, w'.2.1, w'.2.2)) (l0 : Int32) (l1 : Int32) (w : Wd) (h : (DJ6_stringSize_0f7a4_b11 l0 l1).1 w = some (v, w')) : WM G X 11 [(0, .int l0), (1, .int l1)] [] w.1 w.2.1 w.2.2 := by
  unfold DJ6_stringSize_0f7a4_b11 at h
  refine w_bipush (-10) 11 hX ib_m10 dJ6_stringSize_0f7a4_11 ?_
  refine w_istore_n (lv' := [(2, .int (-10)), (0, .int l0), (1, .int l1)]) 13 hX rfl dJ6_stringSize_0f7a4_13 (by decide) rfl ?_
  refine w_iconst 1 14 hX ic_1 dJ6_stringSize_0f7a4_14 ?_
  refine w_istore_n (lv' := [(3, .int 1), (2, .int (-10)), (0, .int l0), (1, .int l1)]) 15 hX rfl dJ6_stringSize_0f7a4_15 (by decide) rfl ?_
  exact w_sub [2, 3, 1, 0] rfl (lDJ6_stringSize_0f7a4_16 hX hR FU l0 l1 (-10) 1 _ h)
noncomputable def DJ6_stringSize_0f7a4 (p0 : Int32) : Dm Int32 :=
  (if p0 < 0 then (DJ6_stringSize_0f7a4_b11 p0 1) else (DJ6_stringSize_0f7a4_b11 (-p0) 0))
theorem CDJ6_stringSize_0f7a4 {G : Gt} (p0 : Int32) {w w' : Wd} {v : Int32} (h : (DJ6_stringSize_0f7a4 p0).1 w = some (v, w')) : CN G yJ6_stringSize_0f7a4 cJ6_stringSize_0f7a4 4 (some .int) 1 [.int p0] w (some (.int v)) w' :=
  cn_of (by decide) rfl (Nat.le_of_ble_eq_true rfl) (d_le h) (fun X hX _ hR => by
  unfold DJ6_stringSize_0f7a4 at h
  refine w_iconst 1 0 hX ic_1 dJ6_stringSize_0f7a4_0 ?_
  refine w_istore_n (lv' := [(1, .int 1), (0, .int p0)]) 1 hX rfl dJ6_stringSize_0f7a4_1 (by decide) rfl ?_
  refine w_iload_n 1 2 hX rfl rfl dJ6_stringSize_0f7a4_2 ?_
  refine w_if_lt (tgt := 11) 3 hX dJ6_stringSize_0f7a4_3 (by decide) (fun c1 => ?_) (fun c1 => ?_)
  · have h := dit h c1
    exact w_sub [1, 0] rfl (bDJ6_stringSize_0f7a4_11 hX hR p0 1 _ h)
  · have h := die h c1
    refine w_iconst 0 6 hX ic_0 dJ6_stringSize_0f7a4_6 ?_
    refine w_istore_n (lv' := [(1, .int 0), (0, .int p0)]) 7 hX rfl dJ6_stringSize_0f7a4_7 (by decide) rfl ?_
    refine w_iload_n 1 8 hX rfl rfl dJ6_stringSize_0f7a4_8 ?_
    refine w_ineg 9 hX dJ6_stringSize_0f7a4_9 ?_
    refine w_istore_n (lv' := [(0, .int (-p0)), (1, .int 0)]) 10 hX rfl dJ6_stringSize_0f7a4_10 (by decide) rfl ?_
    exact bDJ6_stringSize_0f7a4_11 hX hR (-p0) 0 _ h)
noncomputable def DJ6_getChars_ba4f3_b118 (l5 : Int32) : Dm Int32 :=
  dret l5
theorem bDJ6_getChars_ba4f3_118 {G : Gt} {X : Xt} {w' : Wd} {v : Int32} (hX : CxOk G X cJ6_getChars_ba4f3 7 RJ6 (some (.int v), w'.1, w'.2.1, w'.2.2) 1) (hR : CxRet G X (some .int) (some (.int v), w'.1, w'.2.1, w'.2.2)) (l5 : Int32) (w : Wd) (h : (DJ6_getChars_ba4f3_b118 l5).1 w = some (v, w')) : WM G X 118 [(5, .int l5)] [] w.1 w.2.1 w.2.2 := by
  unfold DJ6_getChars_ba4f3_b118 at h
  refine w_iload 0 118 hX rfl dJ6_getChars_ba4f3_118 ?_
  obtain ⟨rfl, rfl⟩ := d_ret h
  exact w_iret 120 hX hR dJ6_getChars_ba4f3_120 rfl
noncomputable def DJ6_getChars_ba4f3_b104 (l2 : Nat) (l5 : Int32) (l6 : Int32) : Dm Int32 :=
  (if l6 = 0 then (DJ6_getChars_ba4f3_b118 l5) else (dbind (dput (bast l2 (l5 + (-1)) 45)) fun _ => DJ6_getChars_ba4f3_b118 (l5 + (-1))))
theorem bDJ6_getChars_ba4f3_104 {G : Gt} {X : Xt} {w' : Wd} {v : Int32} (hX : CxOk G X cJ6_getChars_ba4f3 7 RJ6 (some (.int v), w'.1, w'.2.1, w'.2.2) 1) (hR : CxRet G X (some .int) (some (.int v), w'.1, w'.2.1, w'.2.2)) (l2 : Nat) (l5 : Int32) (l6 : Int32) (w : Wd) (h : (DJ6_getChars_ba4f3_b104 l2 l5 l6).1 w = some (v, w')) : WM G X 104 [(2, .ref l2), (5, .int l5), (6, .int l6)] [] w.1 w.2.1 w.2.2 := by
  unfold DJ6_getChars_ba4f3_b104 at h
  refine w_iload 2 104 hX rfl dJ6_getChars_ba4f3_104 ?_
  refine w_if_eq (tgt := 118) 106 hX dJ6_getChars_ba4f3_106 (by decide) (fun c1 => ?_) (fun c1 => ?_)
  · have h := dit h c1
    exact w_sub [1] rfl (bDJ6_getChars_ba4f3_118 hX hR l5 _ h)
  · have h := die h c1
    refine w_aload_n 0 109 hX rfl rfl dJ6_getChars_ba4f3_109 ?_
    refine w_iinc (lv' := [(5, .int (l5 + (-1))), (2, .ref l2), (6, .int l6)]) 110 1 hX dJ6_getChars_ba4f3_110 rfl (inc_m1 _) (by decide) rfl ?_
    refine w_iload 0 113 hX rfl dJ6_getChars_ba4f3_113 ?_
    refine w_bipush 45 115 hX ib_45 dJ6_getChars_ba4f3_115 ?_
    obtain ⟨x2, wx2, gx2, h⟩ := d_bind h
    refine x_bast 117 hX gx2 dJ6_getChars_ba4f3_117 ?_
    exact w_sub [0] rfl (bDJ6_getChars_ba4f3_118 hX hR (l5 + (-1)) _ h)
noncomputable def DJ6_getChars_ba4f3_b22 (k22 : Int32 → Nat → Int32 → Int32 → Dm Int32) (l0 : Int32) (l2 : Nat) (l5 : Int32) (l6 : Int32) : Dm Int32 :=
  (if (-100) < l0 then (dbind (dlift (dgO (-l0))) fun x2 => dbind (dput (bast l2 (l5 + (-1)) x2)) fun _ => (if (-9) ≤ l0 then (DJ6_getChars_ba4f3_b104 l2 (l5 + (-1)) l6) else (dbind (dlift (dgT (-l0))) fun x5 => dbind (dput (bast l2 ((l5 + (-1)) + (-1)) x5)) fun _ => DJ6_getChars_ba4f3_b104 l2 ((l5 + (-1)) + (-1)) l6))) else (dbind (dlift (dvI l0 100)) fun x7 => dbind (dlift (dgO ((x7 * 100) - l0))) fun x8 => dbind (dput (bast l2 (l5 + (-1)) x8)) fun _ => dbind (dlift (dgT ((x7 * 100) - l0))) fun x10 => dbind (dput (bast l2 ((l5 + (-1)) + (-1)) x10)) fun _ => k22 x7 l2 ((l5 + (-1)) + (-1)) l6))
theorem bDJ6_getChars_ba4f3_22 {G : Gt} {X : Xt} {w' : Wd} {v : Int32} (hX : CxOk G X cJ6_getChars_ba4f3 7 RJ6 (some (.int v), w'.1, w'.2.1, w'.2.2) 1) (hR : CxRet G X (some .int) (some (.int v), w'.1, w'.2.1, w'.2.2)) {k22 : Int32 → Nat → Int32 → Int32 → Dm Int32} (hk22 : ∀ (l0 : Int32) (l2 : Nat) (l5 : Int32) (l6 : Int32) (w : Wd), (k22 l0 l2 l5 l6).1 w = some (v, w') → WM G X 22 [(0, .int l0), (2, .ref l2), (5, .int l5), (6, .int l6)] [] w.1 w.2.1 w.2.2) (l0 : Int32) (l2 : Nat) (l5 : Int32) (l6 : Int32) (w : Wd) (h : (DJ6_getChars_ba4f3_b22 k22 l0 l2 l5 l6).1 w = some (v, w')) : WM G X 22 [(0, .int l0), (2, .ref l2), (5, .int l5), (6, .int l6)] [] w.1 w.2.1 w.2.2 := by
  unfold DJ6_getChars_ba4f3_b22 at h
  refine w_iload_n 0 22 hX rfl rfl dJ6_getChars_ba4f3_22 ?_
  refine w_bipush (-100) 23 hX ib_m100 dJ6_getChars_ba4f3_23 ?_
  refine w_icmp_gt (tgt := 72) 25 hX dJ6_getChars_ba4f3_25 (by decide) (fun c1 => ?_) (fun c1 => ?_)
  · have h := dit h c1
    refine w_aload_n 1 72 hX rfl rfl dJ6_getChars_ba4f3_72 ?_
    refine w_iinc (lv' := [(5, .int (l5 + (-1))), (0, .int l0), (2, .ref l2), (6, .int l6)]) 73 2 hX dJ6_getChars_ba4f3_73 rfl (inc_m1 _) (by decide) rfl ?_
    refine w_iload 0 76 hX rfl dJ6_getChars_ba4f3_76 ?_
    refine w_gsO 78 hX (tw_of 1009 (by decide +kernel) rfl) dJ6_getChars_ba4f3_78 ?_
    refine w_iload_n 1 81 hX rfl rfl dJ6_getChars_ba4f3_81 ?_
    refine w_ineg 82 hX dJ6_getChars_ba4f3_82 ?_
    obtain ⟨x2, gx2, h⟩ := d_lf h
    refine x_baldO 83 hX gx2 dJ6_getChars_ba4f3_83 ?_
    obtain ⟨x3, wx3, gx3, h⟩ := d_bind h
    refine x_bast 84 hX gx3 dJ6_getChars_ba4f3_84 ?_
    refine w_iload_n 1 85 hX rfl rfl dJ6_getChars_ba4f3_85 ?_
    refine w_bipush (-9) 86 hX ib_m9 dJ6_getChars_ba4f3_86 ?_
    refine w_icmp_ge (tgt := 104) 88 hX dJ6_getChars_ba4f3_88 (by decide) (fun c4 => ?_) (fun c4 => ?_)
    · have h := dit h c4
      exact w_sub [2, 0, 3] rfl (bDJ6_getChars_ba4f3_104 hX hR l2 (l5 + (-1)) l6 _ h)
    · have h := die h c4
      refine w_aload_n 2 91 hX rfl rfl dJ6_getChars_ba4f3_91 ?_
      refine w_iinc (lv' := [(5, .int ((l5 + (-1)) + (-1))), (0, .int l0), (2, .ref l2), (6, .int l6)]) 92 0 hX dJ6_getChars_ba4f3_92 rfl (inc_m1 _) (by decide) rfl ?_
      refine w_iload 0 95 hX rfl dJ6_getChars_ba4f3_95 ?_
      refine w_gsT 97 hX (tw_of 1011 (by decide +kernel) rfl) dJ6_getChars_ba4f3_97 ?_
      refine w_iload_n 1 100 hX rfl rfl dJ6_getChars_ba4f3_100 ?_
      refine w_ineg 101 hX dJ6_getChars_ba4f3_101 ?_
      obtain ⟨x5, gx5, h⟩ := d_lf h
      refine x_baldT 102 hX gx5 dJ6_getChars_ba4f3_102 ?_
      obtain ⟨x6, wx6, gx6, h⟩ := d_bind h
      refine x_bast 103 hX gx6 dJ6_getChars_ba4f3_103 ?_
      exact w_sub [2, 0, 3] rfl (bDJ6_getChars_ba4f3_104 hX hR l2 ((l5 + (-1)) + (-1)) l6 _ h)
  · have h := die h c1
    refine w_iload_n 0 28 hX rfl rfl dJ6_getChars_ba4f3_28 ?_
    refine w_bipush 100 29 hX ib_100 dJ6_getChars_ba4f3_29 ?_
    obtain ⟨x7, gx7, h⟩ := d_lf h
    obtain ⟨qx7, jx7⟩ := dvI_ok gx7
    refine w_idiv 31 hX qx7 dJ6_getChars_ba4f3_31 ?_
    rw [jx7]
    refine w_istore_n (lv' := [(3, .int x7), (0, .int l0), (2, .ref l2), (5, .int l5), (6, .int l6)]) 32 hX rfl dJ6_getChars_ba4f3_32 (by decide) rfl ?_
    refine w_iload_n 0 33 hX rfl rfl dJ6_getChars_ba4f3_33 ?_
    refine w_bipush 100 34 hX ib_100 dJ6_getChars_ba4f3_34 ?_
    refine w_imul 36 hX dJ6_getChars_ba4f3_36 ?_
    refine w_iload_n 1 37 hX rfl rfl dJ6_getChars_ba4f3_37 ?_
    refine w_isub 38 hX dJ6_getChars_ba4f3_38 ?_
    refine w_istore (lv' := [(4, .int ((x7 * 100) - l0)), (3, .int x7), (0, .int l0), (2, .ref l2), (5, .int l5), (6, .int l6)]) 39 hX dJ6_getChars_ba4f3_39 (by decide) rfl ?_
    refine w_iload_n 1 41 hX rfl rfl dJ6_getChars_ba4f3_41 ?_
    refine w_istore_n (lv' := [(0, .int x7), (4, .int ((x7 * 100) - l0)), (3, .int x7), (2, .ref l2), (5, .int l5), (6, .int l6)]) 42 hX rfl dJ6_getChars_ba4f3_42 (by decide) rfl ?_
    refine w_aload_n 3 43 hX rfl rfl dJ6_getChars_ba4f3_43 ?_
    refine w_iinc (lv' := [(5, .int (l5 + (-1))), (0, .int x7), (4, .int ((x7 * 100) - l0)), (3, .int x7), (2, .ref l2), (6, .int l6)]) 44 4 hX dJ6_getChars_ba4f3_44 rfl (inc_m1 _) (by decide) rfl ?_
    refine w_iload 0 47 hX rfl dJ6_getChars_ba4f3_47 ?_
    refine w_gsO 49 hX (tw_of 1009 (by decide +kernel) rfl) dJ6_getChars_ba4f3_49 ?_
    refine w_iload 2 52 hX rfl dJ6_getChars_ba4f3_52 ?_
    obtain ⟨x8, gx8, h⟩ := d_lf h
    refine x_baldO 54 hX gx8 dJ6_getChars_ba4f3_54 ?_
    obtain ⟨x9, wx9, gx9, h⟩ := d_bind h
    refine x_bast 55 hX gx9 dJ6_getChars_ba4f3_55 ?_
    refine w_aload_n 4 56 hX rfl rfl dJ6_getChars_ba4f3_56 ?_
    refine w_iinc (lv' := [(5, .int ((l5 + (-1)) + (-1))), (0, .int x7), (4, .int ((x7 * 100) - l0)), (3, .int x7), (2, .ref l2), (6, .int l6)]) 57 0 hX dJ6_getChars_ba4f3_57 rfl (inc_m1 _) (by decide) rfl ?_
    refine w_iload 0 60 hX rfl dJ6_getChars_ba4f3_60 ?_
    refine w_gsT 62 hX (tw_of 1011 (by decide +kernel) rfl) dJ6_getChars_ba4f3_62 ?_
    refine w_iload 2 65 hX rfl dJ6_getChars_ba4f3_65 ?_
    obtain ⟨x10, gx10, h⟩ := d_lf h
    refine x_baldT 67 hX gx10 dJ6_getChars_ba4f3_67 ?_
    obtain ⟨x11, wx11, gx11, h⟩ := d_bind h
    refine x_bast 68 hX gx11 dJ6_getChars_ba4f3_68 ?_
    refine w_goto (tgt := 22) 69 hX (by decide) dJ6_getChars_ba4f3_69 ?_
    exact w_sub [1, 4, 0, 5] rfl (hk22 x7 l2 ((l5 + (-1)) + (-1)) l6 _ h)
noncomputable def DJ6_getChars_ba4f3_L22 : Nat → Int32 → Nat → Int32 → Int32 → Dm Int32
  | 0, _, _, _, _ => dno
  | n + 1, l0, l2, l5, l6 => DJ6_getChars_ba4f3_b22 (DJ6_getChars_ba4f3_L22 n) l0 l2 l5 l6
theorem lDJ6_getChars_ba4f3_22 {G : Gt} {X : Xt} {w' : Wd} {v : Int32} (hX : CxOk G X cJ6_getChars_ba4f3 7 RJ6 (some (.int v), w'.1, w'.2.1, w'.2.2) 1) (hR : CxRet G X (some .int) (some (.int v), w'.1, w'.2.1, w'.2.2)) : ∀ (n : Nat) (l0 : Int32) (l2 : Nat) (l5 : Int32) (l6 : Int32) (w : Wd), (DJ6_getChars_ba4f3_L22 n l0 l2 l5 l6).1 w = some (v, w') → WM G X 22 [(0, .int l0), (2, .ref l2), (5, .int l5), (6, .int l6)] [] w.1 w.2.1 w.2.2 := by
  intro n
  induction n with
  | zero =>
    intro l0 l2 l5 l6 w h
    exact dn_ h
  | succ n ih =>
    intro l0 l2 l5 l6 w h
    exact bDJ6_getChars_ba4f3_22 hX hR ih l0 l2 l5 l6 w h
noncomputable def DJ6_getChars_ba4f3_b12 (l0 : Int32) (l2 : Nat) (l5 : Int32) (t0 : Int32) : Dm Int32 :=
  (if t0 = 0 then (DJ6_getChars_ba4f3_L22 FU (-l0) l2 l5 t0) else (DJ6_getChars_ba4f3_L22 FU l0 l2 l5 t0))
theorem bDJ6_getChars_ba4f3_12 {G : Gt} {X : Xt} {w' : Wd} {v : Int32} (hX : CxOk G X cJ6_getChars_ba4f3 7 RJ6 (some (.int v), w'.1, w'.2.1, w'.2.2) 1) (hR : CxRet G X (some .int) (some (.int v), w'.1, w'.2.1, w'.2.2)) (l0 : Int32) (l2 : Nat) (l5 : Int32) (t0 : Int32) (w : Wd) (h : (DJ6_getChars_ba4f3_b12 l0 l2 l5 t0).1 w = some (v, w')) : WM G X 12 [(0, .int l0), (2, .ref l2), (5, .int l5)] [.int t0] w.1 w.2.1 w.2.2 := by
  unfold DJ6_getChars_ba4f3_b12 at h
  refine w_istore (lv' := [(6, .int t0), (0, .int l0), (2, .ref l2), (5, .int l5)]) 12 hX dJ6_getChars_ba4f3_12 (by decide) rfl ?_
  refine w_iload 0 14 hX rfl dJ6_getChars_ba4f3_14 ?_
  refine w_if_ne (tgt := 22) 16 hX dJ6_getChars_ba4f3_16 (by decide) (fun c1 => ?_) (fun c1 => ?_)
  · have h := die h c1
    exact w_sub [1, 2, 3, 0] rfl (lDJ6_getChars_ba4f3_22 hX hR FU l0 l2 l5 t0 _ h)
  · have h := dit h c1
    refine w_iload_n 1 19 hX rfl rfl dJ6_getChars_ba4f3_19 ?_
    refine w_ineg 20 hX dJ6_getChars_ba4f3_20 ?_
    refine w_istore_n (lv' := [(0, .int (-l0)), (6, .int t0), (2, .ref l2), (5, .int l5)]) 21 hX rfl dJ6_getChars_ba4f3_21 (by decide) rfl ?_
    exact w_sub [0, 2, 3, 1] rfl (lDJ6_getChars_ba4f3_22 hX hR FU (-l0) l2 l5 t0 _ h)
noncomputable def DJ6_getChars_ba4f3 (p0 : Int32) (p1 : Int32) (p2 : Nat) : Dm Int32 :=
  (if 0 ≤ p0 then (DJ6_getChars_ba4f3_b12 p0 p2 p1 0) else (DJ6_getChars_ba4f3_b12 p0 p2 p1 1))
theorem CDJ6_getChars_ba4f3 {G : Gt} (p0 : Int32) (p1 : Int32) (p2 : Nat) {w w' : Wd} {v : Int32} (h : (DJ6_getChars_ba4f3 p0 p1 p2).1 w = some (v, w')) : CN G yJ6_getChars_ba4f3 cJ6_getChars_ba4f3 7 (some .int) 1 [.int p0, .int p1, .ref p2] w (some (.int v)) w' :=
  cn_of (by decide) rfl (Nat.le_of_ble_eq_true rfl) (d_le h) (fun X hX _ hR => by
  unfold DJ6_getChars_ba4f3 at h
  refine w_iload_n 1 0 hX rfl rfl dJ6_getChars_ba4f3_0 ?_
  refine w_istore (lv' := [(5, .int p1), (0, .int p0), (1, .int p1), (2, .ref p2)]) 1 hX dJ6_getChars_ba4f3_1 (by decide) rfl ?_
  refine w_iload_n 1 3 hX rfl rfl dJ6_getChars_ba4f3_3 ?_
  refine w_if_ge (tgt := 11) 4 hX dJ6_getChars_ba4f3_4 (by decide) (fun c1 => ?_) (fun c1 => ?_)
  · have h := dit h c1
    refine w_iconst 0 11 hX ic_0 dJ6_getChars_ba4f3_11 ?_
    exact w_sub [1, 3, 0] rfl (bDJ6_getChars_ba4f3_12 hX hR p0 p2 p1 0 _ h)
  · have h := die h c1
    refine w_iconst 1 7 hX ic_1 dJ6_getChars_ba4f3_7 ?_
    refine w_goto (tgt := 12) 8 hX (by decide) dJ6_getChars_ba4f3_8 ?_
    exact w_sub [1, 3, 0] rfl (bDJ6_getChars_ba4f3_12 hX hR p0 p2 p1 1 _ h))
noncomputable def DJ5_append_c97b9_b48 (l0 : Nat) (l3 : Int32) : Dm Nat :=
  dbind (dput (pfI l0 14 3 l3)) fun _ => dret l0
theorem bDJ5_append_c97b9_48 {G : Gt} {X : Xt} {w' : Wd} {v : Nat} (hX : CxOk G X cJ5_append_c97b9 4 RJ5 (some (.ref v), w'.1, w'.2.1, w'.2.2) 5) (hR : CxRet G X (some (.object "java/lang/AbstractStringBuilder")) (some (.ref v), w'.1, w'.2.1, w'.2.2)) (l0 : Nat) (l3 : Int32) (w : Wd) (h : (DJ5_append_c97b9_b48 l0 l3).1 w = some (v, w')) : WM G X 48 [(0, .ref l0), (3, .int l3)] [] w.1 w.2.1 w.2.2 := by
  unfold DJ5_append_c97b9_b48 at h
  refine w_aload_n 0 48 hX rfl rfl dJ5_append_c97b9_48 ?_
  refine w_iload_n 1 49 hX rfl rfl dJ5_append_c97b9_49 ?_
  obtain ⟨x1, wx1, gx1, h⟩ := d_bind h
  refine x_putI 50 hX CI_14 gx1 rfl fl_J5_79 rfl rfl rfl rfl dJ5_append_c97b9_50 ?_
  refine w_aload_n 0 53 hX rfl rfl dJ5_append_c97b9_53 ?_
  obtain ⟨rfl, rfl⟩ := d_ret h
  exact w_aret 54 hX hR (Or.inl ⟨_, rfl⟩) dJ5_append_c97b9_54 rfl
noncomputable def DJ5_append_c97b9 (p0 : Nat) (p1 : Int32) : Dm Nat :=
  dbind (dread (gfI p0 14 3)) fun x1 => dbind (DJ6_stringSize_0f7a4 p1) fun x2 => dbind (dread (isC p0 14)) fun x3 => dbind (DJ5_ensureCapacityInternal_d00df p0 (x1 + x2)) fun _ => dbind (dread (isC p0 14)) fun x5 => dbind (DJ5_isLatin1_aae02 p0) fun x6 => (if x6 = 0 then (dbind (dread (gfR p0 14 0)) fun x8 => dno) else (dbind (dread (gfR p0 14 0)) fun x9 => dbind (DJ6_getChars_ba4f3 p1 (x1 + x2) x9) fun x10 => DJ5_append_c97b9_b48 p0 (x1 + x2)))
theorem CDJ5_append_c97b9 {G : Gt} (p0 : Nat) (p1 : Int32) {w w' : Wd} {v : Nat} (h : (DJ5_append_c97b9 p0 p1).1 w = some (v, w')) : CN G yJ5_append_c97b9 cJ5_append_c97b9 4 (some (.object "java/lang/AbstractStringBuilder")) 5 [.ref p0, .int p1] w (some (.ref v)) w' :=
  cn_of (by decide) rfl (Nat.le_of_ble_eq_true rfl) (d_le h) (fun X hX _ hR => by
  unfold DJ5_append_c97b9 at h
  refine w_aload_n 0 0 hX rfl rfl dJ5_append_c97b9_0 ?_
  obtain ⟨x1, gx1, h⟩ := d_rd h
  refine x_getI 1 hX CI_14 gx1 rfl fl_J5_79 rfl dJ5_append_c97b9_1 ?_
  refine w_istore_n (lv' := [(2, .int x1), (0, .ref p0), (1, .int p1)]) 4 hX rfl dJ5_append_c97b9_4 (by decide) rfl ?_
  refine w_iload_n 0 5 hX rfl rfl dJ5_append_c97b9_5 ?_
  refine w_iload_n 2 6 hX rfl rfl dJ5_append_c97b9_6 ?_
  obtain ⟨x2, wx2, gx2, h⟩ := d_bind h
  refine w_invSi (av := [.int p1]) (st := [.int x1]) 7 hX ms_yJ6_stringSize_0f7a4 mi_yJ6_stringSize_0f7a4 ml_J5_245 (CDJ6_stringSize_0f7a4 p1 gx2) rfl (by decide) (Nat.le_of_ble_eq_true rfl) (d_le h).1 (d_le h).2 dJ5_append_c97b9_7 ?_
  refine w_iadd 10 hX dJ5_append_c97b9_10 ?_
  refine w_istore_n (lv' := [(3, .int (x1 + x2)), (2, .int x1), (0, .ref p0), (1, .int p1)]) 11 hX rfl dJ5_append_c97b9_11 (by decide) rfl ?_
  refine w_aload_n 2 12 hX rfl rfl dJ5_append_c97b9_12 ?_
  refine w_iload_n 0 13 hX rfl rfl dJ5_append_c97b9_13 ?_
  obtain ⟨x3, gx3, h⟩ := d_rd h
  obtain ⟨x4, wx4, gx4, h⟩ := d_bind h
  refine x_invU (x := yJ5_ensureCapacityInternal_d00df) (av := [.int (x1 + x2)]) (st := []) 14 hX (isC_ok gx3) wu_yJ5_ensureCapacityInternal_d00df_1 wu_yJ5_ensureCapacityInternal_d00df_2 mo_yJ5_ensureCapacityInternal_d00df mo_yJ5_ensureCapacityInternal_d00df mi_yJ5_ensureCapacityInternal_d00df.1 ⟨by decide, by decide, by decide +kernel⟩ mi_yJ5_ensureCapacityInternal_d00df ml_J5_100 (CDJ5_ensureCapacityInternal_d00df p0 (x1 + x2) gx4) rfl (by decide) (Nat.le_of_ble_eq_true rfl) (d_le h).1 (d_le h).2 dJ5_append_c97b9_14 ?_
  refine w_aload_n 2 17 hX rfl rfl dJ5_append_c97b9_17 ?_
  obtain ⟨x5, gx5, h⟩ := d_rd h
  obtain ⟨x6, wx6, gx6, h⟩ := d_bind h
  refine x_invU (x := yJ5_isLatin1_aae02) (av := []) (st := []) 18 hX (isC_ok gx5) wu_yJ5_isLatin1_aae02_1 wu_yJ5_isLatin1_aae02_2 mo_yJ5_isLatin1_aae02 mo_yJ5_isLatin1_aae02 mi_yJ5_isLatin1_aae02.1 ⟨by decide, by decide, by decide +kernel⟩ mi_yJ5_isLatin1_aae02 ml_J5_83 (CDJ5_isLatin1_aae02 p0 gx6) rfl (by decide) (Nat.le_of_ble_eq_true rfl) (d_le h).1 (d_le h).2 dJ5_append_c97b9_18 ?_
  refine w_if_eq (tgt := 37) 21 hX dJ5_append_c97b9_21 (by decide) (fun c7 => ?_) (fun c7 => ?_)
  · have h := dit h c7
    refine w_iload_n 3 37 hX rfl rfl dJ5_append_c97b9_37 ?_
    refine w_iload_n 1 38 hX rfl rfl dJ5_append_c97b9_38 ?_
    refine w_iload_n 0 39 hX rfl rfl dJ5_append_c97b9_39 ?_
    refine w_aload_n 2 40 hX rfl rfl dJ5_append_c97b9_40 ?_
    obtain ⟨x8, gx8, h⟩ := d_rd h
    refine x_getR 41 hX CI_14 gx8 rfl fl_J5_15 rfl dJ5_append_c97b9_41 ?_
    exact dn_ h
  · have h := die h c7
    refine w_iload_n 3 24 hX rfl rfl dJ5_append_c97b9_24 ?_
    refine w_iload_n 0 25 hX rfl rfl dJ5_append_c97b9_25 ?_
    refine w_aload_n 2 26 hX rfl rfl dJ5_append_c97b9_26 ?_
    obtain ⟨x9, gx9, h⟩ := d_rd h
    refine x_getR 27 hX CI_14 gx9 rfl fl_J5_15 rfl dJ5_append_c97b9_27 ?_
    obtain ⟨x10, wx10, gx10, h⟩ := d_bind h
    refine w_invSi (av := [.int p1, .int (x1 + x2), .ref x9]) (st := []) 30 hX ms_yJ6_getChars_ba4f3 mi_yJ6_getChars_ba4f3 ml_J5_248 (CDJ6_getChars_ba4f3 p1 (x1 + x2) x9 gx10) rfl (by decide) (Nat.le_of_ble_eq_true rfl) (d_le h).1 (d_le h).2 dJ5_append_c97b9_30 ?_
    refine w_pop 33 hX rfl dJ5_append_c97b9_33 ?_
    refine w_goto (tgt := 48) 34 hX (by decide) dJ5_append_c97b9_34 ?_
    exact w_sub [2, 0] rfl (bDJ5_append_c97b9_48 hX hR p0 (x1 + x2) _ h))
noncomputable def DJ4_append_bf812 (p0 : Nat) (p1 : Int32) : Dm Nat :=
  dbind (dread (isC p0 14)) fun x1 => dbind (DJ5_append_c97b9 p0 p1) fun x2 => dret p0
theorem CDJ4_append_bf812 {G : Gt} (p0 : Nat) (p1 : Int32) {w w' : Wd} {v : Nat} (h : (DJ4_append_bf812 p0 p1).1 w = some (v, w')) : CN G yJ4_append_bf812 cJ4_append_bf812 2 (some (.object "java/lang/StringBuilder")) 6 [.ref p0, .int p1] w (some (.ref v)) w' :=
  cn_of (by decide) rfl (Nat.le_of_ble_eq_true rfl) (d_le h) (fun X hX _ hR => by
  unfold DJ4_append_bf812 at h
  refine w_aload_n 0 0 hX rfl rfl dJ4_append_bf812_0 ?_
  refine w_iload_n 1 1 hX rfl rfl dJ4_append_bf812_1 ?_
  obtain ⟨x1, gx1, h⟩ := d_rd h
  obtain ⟨x2, wx2, gx2, h⟩ := d_bind h
  refine x_invSU (av := [.int p1]) (st := []) 2 hX (isC_ok gx1) wu_yJ5_append_c97b9_1 wu_sup mo_yJ5_append_c97b9 (by decide) mi_yJ5_append_c97b9 ml_J4_53 (CDJ5_append_c97b9 p0 p1 gx2) rfl (by decide) (Nat.le_of_ble_eq_true rfl) (d_le h).1 (d_le h).2 dJ4_append_bf812_2 ?_
  refine w_pop 5 hX rfl dJ4_append_bf812_5 ?_
  refine w_aload_n 0 6 hX rfl rfl dJ4_append_bf812_6 ?_
  obtain ⟨rfl, rfl⟩ := d_ret h
  exact w_aret 7 hX hR (Or.inl ⟨_, rfl⟩) dJ4_append_bf812_7 rfl)
