/-! a War begun: its law, told or not -/
theorem bsS_L : (bsS 14).length = 9 ∧ (bsS 15).length = 15 ∧ (bsS 16).length = 54 ∧ (bsS 17).length = 33 ∧ (bsS 18).length = 11 ∧ (bsS 19).length = 7 ∧ (bsS 20).length = 13 ∧ (bsS 21).length = 24 ∧ (bsS 22).length = 8 := by decide +kernel
def dLaw (x : Int32) (k : Nat) : Nat := if k = 0 then btN x 0 80 else if k = 1 then btN (x >>> ((3 : Int32) &&& 31)) 0 9 else if k = 2 then btN (x >>> ((5 : Int32) &&& 31)) 0 9 else if k = 3 then btN (x >>> ((6 : Int32) &&& 31)) 0 4 else if k = 4 then btN (x >>> ((4 : Int32) &&& 31)) 0 60 else if k = 5 then btN (x >>> ((7 : Int32) &&& 31)) 0 20 else if k = 6 then btN (x >>> ((2 : Int32) &&& 31)) 0 400 else 0
theorem dLaw_lt (x : Int32) (k : Nat) : dLaw x k < 1000 := by
  unfold dLaw
  have h0 := btN_r x (show 0 ≤ 80 by omega)
  have h1 := btN_r (x >>> ((3 : Int32) &&& 31)) (show 0 ≤ 9 by omega)
  have h2 := btN_r (x >>> ((5 : Int32) &&& 31)) (show 0 ≤ 9 by omega)
  have h3 := btN_r (x >>> ((6 : Int32) &&& 31)) (show 0 ≤ 4 by omega)
  have h4 := btN_r (x >>> ((4 : Int32) &&& 31)) (show 0 ≤ 60 by omega)
  have h5 := btN_r (x >>> ((7 : Int32) &&& 31)) (show 0 ≤ 20 by omega)
  have h6 := btN_r (x >>> ((2 : Int32) &&& 31)) (show 0 ≤ 400 by omega)
  split
  · omega
  · split
    · omega
    · split
      · omega
      · split
        · omega
        · split
          · omega
          · split
            · omega
            · split <;> omega
def dV (x : Int32) : Wt := upd (upd (upd (upd (upd (upd (upd (fun _ => 0) 0 (nI (btN x 0 80))) 1 (nI (btN (x >>> ((3 : Int32) &&& 31)) 0 9))) 2 (nI (btN (x >>> ((5 : Int32) &&& 31)) 0 9))) 3 (nI (btN (x >>> ((6 : Int32) &&& 31)) 0 4))) 4 (nI (btN (x >>> ((4 : Int32) &&& 31)) 0 60))) 5 (nI (btN (x >>> ((7 : Int32) &&& 31)) 0 20))) 6 (nI (btN (x >>> ((2 : Int32) &&& 31)) 0 400))
theorem dV_at (x : Int32) : ∀ k, k < 7 → dV x k = nI (dLaw x k) := by
  intro k hk
  rcases (by omega : k = 0 ∨ k = 1 ∨ k = 2 ∨ k = 3 ∨ k = 4 ∨ k = 5 ∨ k = 6) with rfl | rfl | rfl | rfl | rfl | rfl | rfl <;> rfl
theorem iR_at (a : Nat) : ∀ j, 13 ≤ j → j ≤ 18 → iR (a + 1) j = some (a + (j - 12)) := by
  intro j h1 h2
  rcases (by omega : j = 13 ∨ j = 14 ∨ j = 15 ∨ j = 16 ∨ j = 17 ∨ j = 18) with rfl | rfl | rfl | rfl | rfl | rfl <;> rfl
theorem r_war1 {w : Wd} {g : Mem} {n SL : Nat} (xs : Nat → Int32) (hL : SL ≤ 260) (hl : Lw w g) (hG : GS g rW0 []) (hR : Rm w (n + 2100)) : ∃ w' g' W a o y0, (DL_war SL xs 0).1 w = (DL_war_b266 SL xs 0 a y0).1 w' ∧ Wv w' a (nL a o) W ∧ Lw w' g' ∧ GS g' W [] ∧ Rm w' n ∧ l9 rW0 W ∧ w.1.length ≤ a := by
  obtain ⟨y0, hy0⟩ := r_cell SL xs hL (k := 0) (by decide) 0 (by decide)
  obtain ⟨y1, hy1⟩ := r_cell SL xs hL (k := 1) (by decide) (0 + 1) (by decide)
  have ha : 146 ≤ w.1.length := OKs_len hl.1
  -- the War
  have kq := Kp_nq (fun _ => False) w (.inr (.inl 12)) (fun _ => none) (fun _ => 0)
  have nq' := Kn_nq w (.inr (.inl 12)) (fun _ => none) (fun _ => 0)
  have lq := len_nq w (.inr (.inl 12)) (fun _ => none) (fun _ => 0)
  have rq : Rm (nq w (.inr (.inl 12)) (fun _ => none) (fun _ => 0)) (n + 2079) := Rm_nq (n := n + 2079) (c := 2) (Rm_le hR (by omega)) (by decide) (by decide)
  have e0 : ∀ (β : Type) (k : Nat → Dm β), (dbind (dnew (nwO 12)) k).1 w = (k w.1.length).1 (nq w (.inr (.inl 12)) (fun _ => none) (fun _ => 0)) := fun β k => b_nw (show nwO 12 w = some (.inr (.inl 12), fun _ => none, fun _ => 0) from rfl) (n := n + 2079) (c := 2) (Rm_le hR (by omega)) (by decide) (by decide)
  obtain ⟨z0, hz0⟩ : ∃ z0, z0 = nq w (.inr (.inl 12)) (fun _ => none) (fun _ => 0) := ⟨_, rfl⟩
  rw [← hz0] at kq nq' lq rq e0
  obtain ⟨z1, e1, n0, n1, n2, n3, n4, n5, n6, k1, r1, l1⟩ := r_init (n := n + 2061) nq' rq
  rw [lq] at n0 n1 n2 n3 n4 n5 n6 l1
  -- the law's numbers
  have kd := Kp_nq (fun _ => False) z1 (.inl 7) (fun _ => none) (dV y1)
  have nd := Kn_nq z1 (.inl 7) (fun _ => none) (dV y1)
  have rd : Rm (nq z1 (.inl 7) (fun _ => none) (dV y1)) (n + 2060) := Rm_nq1 (n := n + 2060) r1 (by decide)
  have e2 : ∀ (β : Type) (k : Nat → Dm β), (dbind (dnew (nwI 7)) k).1 z1 = (k z1.1.length).1 (nq z1 (.inl 7) (fun _ => none) (fun _ => 0)) := fun β k => b_nw (show nwI 7 z1 = _ from nwI_n (n := 7) (by decide) z1) (n := n + 2060) (c := 1) r1 (by decide) (by decide)
  obtain ⟨z2, hz2⟩ : ∃ z2, z2 = nq z1 (.inl 7) (fun _ => none) (dV y1) := ⟨_, rfl⟩
  rw [← hz2] at kd nd rd
  have hl2 : Lw z2 g := Lw_kp (Lw_kp (Lw_kp hl kq (fun _ _ z => z)) k1 (fun c hc z => by have : c = w.1.length := z; omega)) kd (fun _ _ z => z)
  have m0 := Kn_kp n0 kd (fun z => z)
  have m1 := Kn_kp n1 kd (fun z => z)
  have m2 := Kn_kp n2 kd (fun z => z)
  have m3 := Kn_kp n3 kd (fun z => z)
  have m4 := Kn_kp n4 kd (fun z => z)
  have m5 := Kn_kp n5 kd (fun z => z)
  have m6 := Kn_kp n6 kd (fun z => z)
  have pre : (DL_war SL xs 0).1 w = (if ((y0 >>> ((3 : Int32) &&& 31)) &&& 7) ≤ 0 then DL_war_b266 SL xs 0 w.1.length y0 else (dbind (dput (pfO w.1.length 12 19 (some z1.1.length))) fun _ => dbind (dnew (nwO 14)) fun x23 => dbind (dread (isC x23 14)) fun x24 => dbind (DJ4_init_da8c8 x23) fun _ => dbind (dread (isC x23 14)) fun x26 => dbind (DJ4_append_15ec4 x23 2000014) fun x27 => dbind (dread (iald z1.1.length 0)) fun x28 => dbind (dread (isC x27 14)) fun x29 => dbind (DJ4_append_bf812 x27 x28) fun x30 => dbind (dread (isC x30 14)) fun x31 => dbind (DJ4_append_15ec4 x30 2000015) fun x32 => dbind (dread (iald z1.1.length 0)) fun x33 => dbind (dread (isC x32 14)) fun x34 => dbind (DJ4_append_bf812 x32 x33) fun x35 => dbind (dread (isC x35 14)) fun x36 => dbind (DJ4_append_15ec4 x35 2000016) fun x37 => dbind (dread (iald z1.1.length 1)) fun x38 => dbind (dread (isC x37 14)) fun x39 => dbind (DJ4_append_bf812 x37 x38) fun x40 => dbind (dread (isC x40 14)) fun x41 => dbind (DJ4_append_15ec4 x40 2000017) fun x42 => dbind (dread (iald z1.1.length 2)) fun x43 => dbind (dread (isC x42 14)) fun x44 => dbind (DJ4_append_bf812 x42 x43) fun x45 => dbind (dread (isC x45 14)) fun x46 => dbind (DJ4_append_15ec4 x45 2000018) fun x47 => dbind (dread (iald z1.1.length 3)) fun x48 => dbind (dread (isC x47 14)) fun x49 => dbind (DJ4_append_bf812 x47 x48) fun x50 => dbind (dread (isC x50 14)) fun x51 => dbind (DJ4_append_15ec4 x50 2000019) fun x52 => dbind (dread (iald z1.1.length 5)) fun x53 => dbind (dread (isC x52 14)) fun x54 => dbind (DJ4_append_bf812 x52 x53) fun x55 => dbind (dread (isC x55 14)) fun x56 => dbind (DJ4_append_15ec4 x55 2000020) fun x57 => dbind (dread (iald z1.1.length 4)) fun x58 => dbind (dread (isC x57 14)) fun x59 => dbind (DJ4_append_bf812 x57 x58) fun x60 => dbind (dread (isC x60 14)) fun x61 => dbind (DJ4_append_15ec4 x60 2000021) fun x62 => dbind (dread (iald z1.1.length 6)) fun x63 => dbind (dread (isC x62 14)) fun x64 => dbind (DJ4_append_bf812 x62 x63) fun x65 => dbind (dread (isC x65 14)) fun x66 => dbind (DJ4_append_15ec4 x65 2000022) fun x67 => dbind (dread (isC x67 14)) fun x68 => dbind (DJ4_toString_0e30d x67) fun x69 => dbind (DL_say x69) fun _ => dbind (dclW (fun u => FX11_text_0 0 u)) fun x71 => (if x71 = 6 then (DL_war_b266 SL xs 0 w.1.length y0) else (dret none)))).1 z2 := by
    unfold DL_war
    rw [e0, b_rd (isC_s nq'.1), b_ok e1, hy0, hy1, e2, b_bt _ 0 80 (by omega) (by omega) _ _ (by decide) (by decide), ia_nq rfl 0 0 _ (by decide) (by decide) (by decide), b_bt _ 0 9 (by omega) (by omega) _ _ (by decide) (by decide), ia_nq rfl 1 1 _ (by decide) (by decide) (by decide), b_bt _ 0 9 (by omega) (by omega) _ _ (by decide) (by decide), ia_nq rfl 2 2 _ (by decide) (by decide) (by decide), b_bt _ 0 4 (by omega) (by omega) _ _ (by decide) (by decide), ia_nq rfl 3 3 _ (by decide) (by decide) (by decide), b_bt _ 0 60 (by omega) (by omega) _ _ (by decide) (by decide), ia_nq rfl 4 4 _ (by decide) (by decide) (by decide), b_bt _ 0 20 (by omega) (by omega) _ _ (by decide) (by decide), ia_nq rfl 5 5 _ (by decide) (by decide) (by decide), b_bt _ 0 400 (by omega) (by omega) _ _ (by decide) (by decide), ia_nq rfl 6 6 _ (by decide) (by decide) (by decide), hz2]
    rfl
  by_cases c : ((y0 >>> ((3 : Int32) &&& 31)) &&& 7) ≤ 0
  · rw [i_t c] at pre
    refine ⟨z2, g, rW0, w.1.length, none, y0, pre, ⟨WA_new m0 (iR_at _) rfl m1 m2 m3 m4 m5 m6 (fun _ _ _ => rfl) (Lq_none (by decide)), hl2.1, w0_WO, nL_b ha (fun q hq => by cases hq) (fun _ _ _ => rfl)⟩, hl2, hG, Rm_le rd (by omega), fun _ _ _ => rfl, Nat.le_refl _⟩
  · rw [i_f c] at pre
    have l2 : z1.1.length = w.1.length + 7 := by rw [l1]
    have kw := Kp_wo z2 w.1.length (oupd (iR (w.1.length + 1)) 19 (some z1.1.length))
    have p0 := Kn_wo m0 (oupd (iR (w.1.length + 1)) 19 (some z1.1.length))
    have p1 := Kn_kp m1 kw (by omega)
    have p2 := Kn_kp m2 kw (by omega)
    have p3 := Kn_kp m3 kw (by omega)
    have p4 := Kn_kp m4 kw (by omega)
    have p5 := Kn_kp m5 kw (by omega)
    have p6 := Kn_kp m6 kw (by omega)
    have pd := Kn_kp nd kw (by omega)
    have hl3 : Lw (wo z2 w.1.length (oupd (iR (w.1.length + 1)) 19 (some z1.1.length))) g := Lw_kp hl2 kw (fun c hc z => by have : c = w.1.length := z; omega)
    have r3 : Rm (wo z2 w.1.length (oupd (iR (w.1.length + 1)) 19 (some z1.1.length))) (n + 2060) := Rm_wo rd
    have e3 := fun (k : Unit → Dm (Option Nat)) => b_po (k := k) m0 19 (some z1.1.length)
    obtain ⟨z3, hz3⟩ : ∃ z3, z3 = wo z2 w.1.length (oupd (iR (w.1.length + 1)) 19 (some z1.1.length)) := ⟨_, rfl⟩
    rw [← hz3] at p0 p1 p2 p3 p4 p5 p6 pd hl3 r3
    have e3 : ∀ k : Unit → Dm (Option Nat), (dbind (dput (pfO w.1.length 12 19 (some z1.1.length))) k).1 z2 = (k ()).1 z3 := fun k => by rw [e3 k, ← hz3]
    have gd : ∀ {z : Wd}, Kp (fun _ => False) z3 z → ∀ k, k < 7 → iald z1.1.length (nI k) z = some (nI (dLaw y1 k)) := fun {z} kz k hk => by
      rw [g_ki (Kn_kp pd kz (fun z => z)) k (nI k) rfl hk (by decide), dV_at y1 k hk]
    have dl : ∀ k, (dg (dLaw y1 k)).length ≤ 3 := fun k => (dg_d _ (dLaw_lt y1 k)).2.2
    obtain ⟨b14, b15, b16, b17, b18, b19, b20, b21, b22⟩ := bsS_L
    obtain ⟨u0, f0, c0⟩ := ck_new (n := n + 2057) r3
    have d0 := dl 0
    have d1 := dl 1
    have d2 := dl 2
    have d3 := dl 3
    have d4 := dl 4
    have d5 := dl 5
    have d6 := dl 6
    obtain ⟨u1, v1, f1, c1, -⟩ := ck_con (n := n + 1989) (k := 14) c0 (by decide) 2000014 rfl (by simp only [List.length_append, List.length_nil, b14, b15, b16, b17, b18, b19, b20, b21, b22]; omega)
    obtain ⟨u2, v2, f2, c2, -⟩ := ck_num (n := n + 1921) c1 (dLaw_lt y1 0) (nI (dLaw y1 0)) rfl (by simp only [List.length_append, List.length_nil, b14, b15, b16, b17, b18, b19, b20, b21, b22]; omega)
    obtain ⟨u3, v3, f3, c3, -⟩ := ck_con (n := n + 1853) (k := 15) c2 (by decide) 2000015 rfl (by simp only [List.length_append, List.length_nil, b14, b15, b16, b17, b18, b19, b20, b21, b22]; omega)
    obtain ⟨u4, v4, f4, c4, -⟩ := ck_num (n := n + 1785) c3 (dLaw_lt y1 0) (nI (dLaw y1 0)) rfl (by simp only [List.length_append, List.length_nil, b14, b15, b16, b17, b18, b19, b20, b21, b22]; omega)
    obtain ⟨u5, v5, f5, c5, -⟩ := ck_con (n := n + 1717) (k := 16) c4 (by decide) 2000016 rfl (by simp only [List.length_append, List.length_nil, b14, b15, b16, b17, b18, b19, b20, b21, b22]; omega)
    obtain ⟨u6, v6, f6, c6, -⟩ := ck_num (n := n + 1649) c5 (dLaw_lt y1 1) (nI (dLaw y1 1)) rfl (by simp only [List.length_append, List.length_nil, b14, b15, b16, b17, b18, b19, b20, b21, b22]; omega)
    obtain ⟨u7, v7, f7, c7, -⟩ := ck_con (n := n + 1581) (k := 17) c6 (by decide) 2000017 rfl (by simp only [List.length_append, List.length_nil, b14, b15, b16, b17, b18, b19, b20, b21, b22]; omega)
    obtain ⟨u8, v8, f8, c8, -⟩ := ck_num (n := n + 1513) c7 (dLaw_lt y1 2) (nI (dLaw y1 2)) rfl (by simp only [List.length_append, List.length_nil, b14, b15, b16, b17, b18, b19, b20, b21, b22]; omega)
    obtain ⟨u9, v9, f9, c9, -⟩ := ck_con (n := n + 1445) (k := 18) c8 (by decide) 2000018 rfl (by simp only [List.length_append, List.length_nil, b14, b15, b16, b17, b18, b19, b20, b21, b22]; omega)
    obtain ⟨u10, v10, f10, c10, -⟩ := ck_num (n := n + 1377) c9 (dLaw_lt y1 3) (nI (dLaw y1 3)) rfl (by simp only [List.length_append, List.length_nil, b14, b15, b16, b17, b18, b19, b20, b21, b22]; omega)
    obtain ⟨u11, v11, f11, c11, -⟩ := ck_con (n := n + 1309) (k := 19) c10 (by decide) 2000019 rfl (by simp only [List.length_append, List.length_nil, b14, b15, b16, b17, b18, b19, b20, b21, b22]; omega)
    obtain ⟨u12, v12, f12, c12, -⟩ := ck_num (n := n + 1241) c11 (dLaw_lt y1 5) (nI (dLaw y1 5)) rfl (by simp only [List.length_append, List.length_nil, b14, b15, b16, b17, b18, b19, b20, b21, b22]; omega)
    obtain ⟨u13, v13, f13, c13, -⟩ := ck_con (n := n + 1173) (k := 20) c12 (by decide) 2000020 rfl (by simp only [List.length_append, List.length_nil, b14, b15, b16, b17, b18, b19, b20, b21, b22]; omega)
    obtain ⟨u14, v14, f14, c14, -⟩ := ck_num (n := n + 1105) c13 (dLaw_lt y1 4) (nI (dLaw y1 4)) rfl (by simp only [List.length_append, List.length_nil, b14, b15, b16, b17, b18, b19, b20, b21, b22]; omega)
    obtain ⟨u15, v15, f15, c15, -⟩ := ck_con (n := n + 1037) (k := 21) c14 (by decide) 2000021 rfl (by simp only [List.length_append, List.length_nil, b14, b15, b16, b17, b18, b19, b20, b21, b22]; omega)
    obtain ⟨u16, v16, f16, c16, -⟩ := ck_num (n := n + 969) c15 (dLaw_lt y1 6) (nI (dLaw y1 6)) rfl (by simp only [List.length_append, List.length_nil, b14, b15, b16, b17, b18, b19, b20, b21, b22]; omega)
    obtain ⟨u17, v17, f17, c17, -⟩ := ck_con (n := n + 901) (k := 22) c16 (by decide) 2000022 rfl (by simp only [List.length_append, List.length_nil, b14, b15, b16, b17, b18, b19, b20, b21, b22]; omega)
    have et : ((((((((((((((((([] ++ bsS 14) ++ dg (dLaw y1 0)) ++ bsS 15) ++ dg (dLaw y1 0)) ++ bsS 16) ++ dg (dLaw y1 1)) ++ bsS 17) ++ dg (dLaw y1 2)) ++ bsS 18) ++ dg (dLaw y1 3)) ++ bsS 19) ++ dg (dLaw y1 5)) ++ bsS 20) ++ dg (dLaw y1 4)) ++ bsS 21) ++ dg (dLaw y1 6)) ++ bsS 22) = tkX (VF (dLaw y1)) KZ 0 := by
      rw [law_bytes]
      simp only [List.append_assoc, List.nil_append]
    rw [et] at c17
    have hlen : (tkX (VF (dLaw y1)) KZ 0).length ≤ 400 := by
      rw [← et]
      simp only [List.length_append, List.length_nil, b14, b15, b16, b17, b18, b19, b20, b21, b22]
      omega
    obtain ⟨u20, g20, f20, l20, ⟨W', q1, q2, q3, q4⟩, k20, r20⟩ := say_txt1 (n := n) (p := 0) (r := 6) c17.1 (Lw_kp hl3 c17.2.2.2.1 (fun _ _ z => z)) hG hlen (tkX_c (VF_lt (dLaw_lt y1)) KZ 0 KZ_Y) (Rm_le c17.2.2.2.2 (by omega)) (fun g' => ∃ W', GS g' W' [] ∧ l9 rW0 W' ∧ W' 84 = nI 6 ∧ Lq (some (dV y1)) W') (fun g1 h1 => by
      obtain ⟨g', W', V, t1, t2, t3, t4, t5, t6, t7⟩ := ge_text0 (dLaw_lt y1) rfl h1
      exact ⟨g', t1, W', t2, t3, t4, Lq_law t4 t5 t6 t7 (dV_at y1)⟩)
    have hW' : WO W' := by have := SP_a l20.2; rw [q1.1] at this; exact this
    have K : Kp (fun c => c < 146) z3 u20 := Kp_tr (Kp_F c17.2.2.2.1) k20 (fun _ _ z => z)
    have pdd := Kn_kp pd K (by omega)
    refine ⟨u20, g20, W', w.1.length, some z1.1.length, y0, ?_, ⟨WA_new (Kn_kp p0 K (by omega)) (fun j j1 j2 => by rw [ou_ne (by omega)]; exact iR_at _ j j1 j2) (ou_eq _ _ _) (Kn_kp p1 K (by omega)) (Kn_kp p2 K (by omega)) (Kn_kp p3 K (by omega)) (Kn_kp p4 K (by omega)) (Kn_kp p5 K (by omega)) (Kn_kp p6 K (by omega)) q2 ⟨pdd.1, by rw [pdd.2.2]; exact q4⟩, l20.1, hW', nL_b ha (fun q hq => by cases hq; omega) q2⟩, l20, q1, r20, q2, Nat.le_refl _⟩
    rw [pre]
    refine (e3 _).trans ?_
    refine (f0 _ _).trans ?_
    refine (f1 _ _).trans ?_
    refine (b_rd (gd c1.2.2.2.1 0 (by decide))).trans ?_
    refine (f2 _ _).trans ?_
    refine (f3 _ _).trans ?_
    refine (b_rd (gd c3.2.2.2.1 0 (by decide))).trans ?_
    refine (f4 _ _).trans ?_
    refine (f5 _ _).trans ?_
    refine (b_rd (gd c5.2.2.2.1 1 (by decide))).trans ?_
    refine (f6 _ _).trans ?_
    refine (f7 _ _).trans ?_
    refine (b_rd (gd c7.2.2.2.1 2 (by decide))).trans ?_
    refine (f8 _ _).trans ?_
    refine (f9 _ _).trans ?_
    refine (b_rd (gd c9.2.2.2.1 3 (by decide))).trans ?_
    refine (f10 _ _).trans ?_
    refine (f11 _ _).trans ?_
    refine (b_rd (gd c11.2.2.2.1 5 (by decide))).trans ?_
    refine (f12 _ _).trans ?_
    refine (f13 _ _).trans ?_
    refine (b_rd (gd c13.2.2.2.1 4 (by decide))).trans ?_
    refine (f14 _ _).trans ?_
    refine (f15 _ _).trans ?_
    refine (b_rd (gd c15.2.2.2.1 6 (by decide))).trans ?_
    refine (f16 _ _).trans ?_
    refine (f17 _ _).trans ?_
    refine (f20 _ _).trans ?_
    rw [i_t rfl]
