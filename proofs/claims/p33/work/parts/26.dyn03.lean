noncomputable def DX12_says_b209 (l3 : Nat) : Dm Int32 :=
  dbind (dread (iald l3 2)) fun x1 => dbind (dlift (dvI x1 2)) fun x2 => dbind (DL_held x2 0 9) fun x3 => dret x3
theorem bDX12_says_209 {G : Gt} {X : Xt} {w' : Wd} {v : Int32} (hX : CxOk G X cX12_says 8 RX12 (some (.int v), w'.1, w'.2.1, w'.2.2) 3) (hR : CxRet G X (some .int) (some (.int v), w'.1, w'.2.1, w'.2.2)) (l3 : Nat) (w : Wd) (h : (DX12_says_b209 l3).1 w = some (v, w')) : WM G X 209 [(3, .ref l3)] [] w.1 w.2.1 w.2.2 := by
  unfold DX12_says_b209 at h
  refine w_aload_n 0 209 hX rfl rfl dX12_says_209 ?_
  refine w_iconst 2 210 hX ic_2 dX12_says_210 ?_
  obtain ⟨x1, gx1, h⟩ := d_rd h
  refine x_iald 211 hX gx1 dX12_says_211 ?_
  refine w_iconst 2 212 hX ic_2 dX12_says_212 ?_
  obtain ⟨x2, gx2, h⟩ := d_lf h
  obtain ⟨qx2, jx2⟩ := dvI_ok gx2
  refine w_idiv 213 hX qx2 dX12_says_213 ?_
  rw [jx2]
  refine w_iconst 0 214 hX ic_0 dX12_says_214 ?_
  refine w_bipush 9 215 hX ib_9 dX12_says_215 ?_
  obtain ⟨x3, wx3, gx3, h⟩ := d_bind h
  refine w_invSNi (av := [.int x2, .int 0, .int 9]) (st := []) 217 hX ms_yL_held mi_yL_held ml_X12_80 (CDL_held x2 0 9 gx3) rfl (by decide) (Nat.le_of_ble_eq_true rfl) (d_le h).1 (d_le h).2 dX12_says_217 ?_
  refine w_goto (tgt := 239) 220 hX (by decide) dX12_says_220 ?_
  obtain ⟨rfl, rfl⟩ := d_ret h
  exact w_iret 239 hX hR dX12_says_239 rfl
noncomputable def DX12_says_b170 (l3 : Nat) (l4 : Nat) : Dm Int32 :=
  dbind (dread (iald l3 1)) fun x1 => dbind (dlift (dvI x1 9)) fun x2 => dbind (dread (iald l4 1)) fun x3 => dbind (DL_held (x2 - x3) 0 120) fun x4 => dret x4
theorem bDX12_says_170 {G : Gt} {X : Xt} {w' : Wd} {v : Int32} (hX : CxOk G X cX12_says 8 RX12 (some (.int v), w'.1, w'.2.1, w'.2.2) 3) (hR : CxRet G X (some .int) (some (.int v), w'.1, w'.2.1, w'.2.2)) (l3 : Nat) (l4 : Nat) (w : Wd) (h : (DX12_says_b170 l3 l4).1 w = some (v, w')) : WM G X 170 [(3, .ref l3), (4, .ref l4)] [] w.1 w.2.1 w.2.2 := by
  unfold DX12_says_b170 at h
  refine w_aload_n 0 170 hX rfl rfl dX12_says_170 ?_
  refine w_iconst 1 171 hX ic_1 dX12_says_171 ?_
  obtain ⟨x1, gx1, h⟩ := d_rd h
  refine x_iald 172 hX gx1 dX12_says_172 ?_
  refine w_bipush 9 173 hX ib_9 dX12_says_173 ?_
  obtain ⟨x2, gx2, h⟩ := d_lf h
  obtain ⟨qx2, jx2⟩ := dvI_ok gx2
  refine w_idiv 175 hX qx2 dX12_says_175 ?_
  rw [jx2]
  refine w_aload 1 176 hX rfl dX12_says_176 ?_
  refine w_iconst 1 178 hX ic_1 dX12_says_178 ?_
  obtain ⟨x3, gx3, h⟩ := d_rd h
  refine x_iald 179 hX gx3 dX12_says_179 ?_
  refine w_isub 180 hX dX12_says_180 ?_
  refine w_iconst 0 181 hX ic_0 dX12_says_181 ?_
  refine w_bipush 120 182 hX ib_120 dX12_says_182 ?_
  obtain ⟨x4, wx4, gx4, h⟩ := d_bind h
  refine w_invSNi (av := [.int (x2 - x3), .int 0, .int 120]) (st := []) 184 hX ms_yL_held mi_yL_held ml_X12_80 (CDL_held (x2 - x3) 0 120 gx4) rfl (by decide) (Nat.le_of_ble_eq_true rfl) (d_le h).1 (d_le h).2 dX12_says_184 ?_
  obtain ⟨rfl, rfl⟩ := d_ret h
  exact w_iret 187 hX hR dX12_says_187 rfl
noncomputable def DX12_says_b149 (l3 : Nat) (l4 : Nat) : Dm Int32 :=
  dbind (dread (iald l3 1)) fun x1 => dbind (dread (iald l4 0)) fun x2 => dbind (dread (iald l3 2)) fun x3 => dbind (DL_held ((x1 - x2) + x3) 0 120) fun x4 => dret x4
theorem bDX12_says_149 {G : Gt} {X : Xt} {w' : Wd} {v : Int32} (hX : CxOk G X cX12_says 8 RX12 (some (.int v), w'.1, w'.2.1, w'.2.2) 3) (hR : CxRet G X (some .int) (some (.int v), w'.1, w'.2.1, w'.2.2)) (l3 : Nat) (l4 : Nat) (w : Wd) (h : (DX12_says_b149 l3 l4).1 w = some (v, w')) : WM G X 149 [(3, .ref l3), (4, .ref l4)] [] w.1 w.2.1 w.2.2 := by
  unfold DX12_says_b149 at h
  refine w_aload_n 0 149 hX rfl rfl dX12_says_149 ?_
  refine w_iconst 1 150 hX ic_1 dX12_says_150 ?_
  obtain ⟨x1, gx1, h⟩ := d_rd h
  refine x_iald 151 hX gx1 dX12_says_151 ?_
  refine w_aload 1 152 hX rfl dX12_says_152 ?_
  refine w_iconst 0 154 hX ic_0 dX12_says_154 ?_
  obtain ⟨x2, gx2, h⟩ := d_rd h
  refine x_iald 155 hX gx2 dX12_says_155 ?_
  refine w_isub 156 hX dX12_says_156 ?_
  refine w_aload_n 0 157 hX rfl rfl dX12_says_157 ?_
  refine w_iconst 2 158 hX ic_2 dX12_says_158 ?_
  obtain ⟨x3, gx3, h⟩ := d_rd h
  refine x_iald 159 hX gx3 dX12_says_159 ?_
  refine w_iadd 160 hX dX12_says_160 ?_
  refine w_iconst 0 161 hX ic_0 dX12_says_161 ?_
  refine w_bipush 120 162 hX ib_120 dX12_says_162 ?_
  obtain ⟨x4, wx4, gx4, h⟩ := d_bind h
  refine w_invSNi (av := [.int ((x1 - x2) + x3), .int 0, .int 120]) (st := []) 164 hX ms_yL_held mi_yL_held ml_X12_80 (CDL_held ((x1 - x2) + x3) 0 120 gx4) rfl (by decide) (Nat.le_of_ble_eq_true rfl) (d_le h).1 (d_le h).2 dX12_says_164 ?_
  refine w_goto (tgt := 187) 167 hX (by decide) dX12_says_167 ?_
  obtain ⟨rfl, rfl⟩ := d_ret h
  exact w_iret 187 hX hR dX12_says_187 rfl
noncomputable def DX12_says_b57 (l0 : Nat) (l1 : Int32) (l3 : Nat) (l5 : Int32) (t0 : Int32) : Dm Int32 :=
  dbind (dread (iald l3 4)) fun x1 => dbind (dclR (fun _ => FJ6_bitCount_0f7a4 x1)) fun x2 => (if l1 = 0 then (dbind (dread (iald l3 1)) fun x7 => dbind (DL_held (x7 - 59) 0 120) fun x8 => dret x8) else ((if l1 = 1 then (dbind (dread (iald l3 2)) fun x6 => dret x6) else ((if l1 = 2 then (dret 0) else (dret 50))))))
theorem bDX12_says_57 {G : Gt} {X : Xt} {w' : Wd} {v : Int32} (hX : CxOk G X cX12_says 8 RX12 (some (.int v), w'.1, w'.2.1, w'.2.2) 3) (hR : CxRet G X (some .int) (some (.int v), w'.1, w'.2.1, w'.2.2)) (l0 : Nat) (l1 : Int32) (l3 : Nat) (l5 : Int32) (t0 : Int32) (w : Wd) (h : (DX12_says_b57 l0 l1 l3 l5 t0).1 w = some (v, w')) : WM G X 57 [(0, .ref l0), (1, .int l1), (3, .ref l3), (4, .null), (5, .int l5)] [.int t0] w.1 w.2.1 w.2.2 := by
  unfold DX12_says_b57 at h
  refine w_istore (lv' := [(6, .int t0), (0, .ref l0), (1, .int l1), (3, .ref l3), (4, .null), (5, .int l5)]) 57 hX dX12_says_57 (by decide) rfl ?_
  refine w_aload_n 3 59 hX rfl rfl dX12_says_59 ?_
  refine w_iconst 4 60 hX ic_4 dX12_says_60 ?_
  obtain ⟨x1, gx1, h⟩ := d_rd h
  refine x_iald 61 hX gx1 dX12_says_61 ?_
  obtain ⟨x2, wx2, gx2, h⟩ := d_bind h
  refine w_invSi (av := [.int x1]) (st := []) 62 hX ms_yJ6_bitCount_0f7a4 mi_yJ6_bitCount_0f7a4 ml_X12_74 (cs_R (fun G g => CJ6_bitCount_0f7a4 (G := G) x1 _ g) gx2) rfl (by decide) (Nat.le_of_ble_eq_true rfl) (d_le h).1 (d_le h).2 dX12_says_62 ?_
  refine w_istore (lv' := [(7, .int x2), (6, .int t0), (0, .ref l0), (1, .int l1), (3, .ref l3), (4, .null), (5, .int l5)]) 65 hX dX12_says_65 (by decide) rfl ?_
  refine w_aloadN 5 67 hX rfl dX12_says_67 ?_
  refine w_ifnonnullN 69 hX dX12_says_69 ?_
  refine w_iload_n 3 72 hX rfl rfl dX12_says_72 ?_
  refine w_if_ne (tgt := 91) 73 hX dX12_says_73 (by decide) (fun c3 => ?_) (fun c3 => ?_)
  · have h := die h c3
    refine w_iload_n 3 91 hX rfl rfl dX12_says_91 ?_
    refine w_iconst 1 92 hX ic_1 dX12_says_92 ?_
    refine w_icmp_ne (tgt := 102) 93 hX dX12_says_93 (by decide) (fun c4 => ?_) (fun c4 => ?_)
    · have h := die h c4
      refine w_iload_n 3 102 hX rfl rfl dX12_says_102 ?_
      refine w_iconst 2 103 hX ic_2 dX12_says_103 ?_
      refine w_icmp_ne (tgt := 111) 104 hX dX12_says_104 (by decide) (fun c5 => ?_) (fun c5 => ?_)
      · have h := die h c5
        refine w_bipush 50 111 hX ib_50 dX12_says_111 ?_
        obtain ⟨rfl, rfl⟩ := d_ret h
        exact w_iret 113 hX hR dX12_says_113 rfl
      · have h := dit h c5
        refine w_iconst 0 107 hX ic_0 dX12_says_107 ?_
        refine w_goto (tgt := 113) 108 hX (by decide) dX12_says_108 ?_
        obtain ⟨rfl, rfl⟩ := d_ret h
        exact w_iret 113 hX hR dX12_says_113 rfl
    · have h := dit h c4
      refine w_aload_n 4 96 hX rfl rfl dX12_says_96 ?_
      refine w_iconst 2 97 hX ic_2 dX12_says_97 ?_
      obtain ⟨x6, gx6, h⟩ := d_rd h
      refine x_iald 98 hX gx6 dX12_says_98 ?_
      refine w_goto (tgt := 113) 99 hX (by decide) dX12_says_99 ?_
      obtain ⟨rfl, rfl⟩ := d_ret h
      exact w_iret 113 hX hR dX12_says_113 rfl
  · have h := dit h c3
    refine w_aload_n 4 76 hX rfl rfl dX12_says_76 ?_
    refine w_iconst 1 77 hX ic_1 dX12_says_77 ?_
    obtain ⟨x7, gx7, h⟩ := d_rd h
    refine x_iald 78 hX gx7 dX12_says_78 ?_
    refine w_bipush 59 79 hX ib_59 dX12_says_79 ?_
    refine w_isub 81 hX dX12_says_81 ?_
    refine w_iconst 0 82 hX ic_0 dX12_says_82 ?_
    refine w_bipush 120 83 hX ib_120 dX12_says_83 ?_
    obtain ⟨x8, wx8, gx8, h⟩ := d_bind h
    refine w_invSNi (av := [.int (x7 - 59), .int 0, .int 120]) (st := []) 85 hX ms_yL_held mi_yL_held ml_X12_80 (CDL_held (x7 - 59) 0 120 gx8) rfl (by decide) (Nat.le_of_ble_eq_true rfl) (d_le h).1 (d_le h).2 dX12_says_85 ?_
    refine w_goto (tgt := 113) 88 hX (by decide) dX12_says_88 ?_
    obtain ⟨rfl, rfl⟩ := d_ret h
    exact w_iret 113 hX hR dX12_says_113 rfl
noncomputable def DX12_says_b57a (l0 : Nat) (l1 : Int32) (l3 : Nat) (l4 : Nat) (l5 : Int32) (t0 : Int32) : Dm Int32 :=
  dbind (dread (iald l3 4)) fun x1 => dbind (dclR (fun _ => FJ6_bitCount_0f7a4 x1)) fun x2 => (if l1 = 0 then (dbind (dread (iald l3 1)) fun x23 => dbind (dread (iald l4 0)) fun x24 => (if x23 ≤ x24 then (DX12_says_b170 l3 l4) else ((if 3 < x2 then (DX12_says_b170 l3 l4) else (dbind (dread (iald l3 0)) fun x27 => (if x27 = 1 then (dbind (dread (gfI l0 12 4)) fun x29 => (if 5 < x29 then (DX12_says_b170 l3 l4) else (DX12_says_b149 l3 l4))) else (DX12_says_b149 l3 l4))))))) else ((if l1 = 1 then ((if t0 = 0 then (dbind (dread (gfI l0 12 4)) fun x17 => dbind (dread (iald l4 2)) fun x18 => (if x17 ≤ x18 then (dbind (dread (iald l3 2)) fun x20 => dbind (dread (iald l4 3)) fun x21 => dbind (DL_held ((x20 + x21) - 3) 0 9) fun x22 => dret x22) else (DX12_says_b209 l3))) else (DX12_says_b209 l3))) else ((if l1 = 2 then (dbind (dread (iald l3 3)) fun x8 => dbind (dread (iald l4 4)) fun x9 => (if x9 ≤ x8 then (dret 0) else (dbind (dread (gfI l0 12 1)) fun x11 => dbind (dlift (rmI x11 2)) fun x12 => (if x12 = 0 then (dbind (dread (iald l4 5)) fun x14 => dbind (DL_held x14 0 99) fun x15 => dret x15) else (dret 0))))) else (dbind (dread (iald l4 6)) fun x6 => dbind (DL_held (x6 + (l5 * 3)) 0 1000) fun x7 => dret x7))))))
theorem bDX12_says_57a {G : Gt} {X : Xt} {w' : Wd} {v : Int32} (hX : CxOk G X cX12_says 8 RX12 (some (.int v), w'.1, w'.2.1, w'.2.2) 3) (hR : CxRet G X (some .int) (some (.int v), w'.1, w'.2.1, w'.2.2)) (l0 : Nat) (l1 : Int32) (l3 : Nat) (l4 : Nat) (l5 : Int32) (t0 : Int32) (w : Wd) (h : (DX12_says_b57a l0 l1 l3 l4 l5 t0).1 w = some (v, w')) : WM G X 57 [(0, .ref l0), (1, .int l1), (3, .ref l3), (4, .ref l4), (5, .int l5)] [.int t0] w.1 w.2.1 w.2.2 := by
  unfold DX12_says_b57a at h
  refine w_istore (lv' := [(6, .int t0), (0, .ref l0), (1, .int l1), (3, .ref l3), (4, .ref l4), (5, .int l5)]) 57 hX dX12_says_57 (by decide) rfl ?_
  refine w_aload_n 3 59 hX rfl rfl dX12_says_59 ?_
  refine w_iconst 4 60 hX ic_4 dX12_says_60 ?_
  obtain ⟨x1, gx1, h⟩ := d_rd h
  refine x_iald 61 hX gx1 dX12_says_61 ?_
  obtain ⟨x2, wx2, gx2, h⟩ := d_bind h
  refine w_invSi (av := [.int x1]) (st := []) 62 hX ms_yJ6_bitCount_0f7a4 mi_yJ6_bitCount_0f7a4 ml_X12_74 (cs_R (fun G g => CJ6_bitCount_0f7a4 (G := G) x1 _ g) gx2) rfl (by decide) (Nat.le_of_ble_eq_true rfl) (d_le h).1 (d_le h).2 dX12_says_62 ?_
  refine w_istore (lv' := [(7, .int x2), (6, .int t0), (0, .ref l0), (1, .int l1), (3, .ref l3), (4, .ref l4), (5, .int l5)]) 65 hX dX12_says_65 (by decide) rfl ?_
  refine w_aload 5 67 hX rfl dX12_says_67 ?_
  refine w_ifnonnull (tgt := 114) 69 hX (by decide) dX12_says_69 ?_
  refine w_iload_n 3 114 hX rfl rfl dX12_says_114 ?_
  refine w_if_ne (tgt := 188) 115 hX dX12_says_115 (by decide) (fun c3 => ?_) (fun c3 => ?_)
  · have h := die h c3
    refine w_iload_n 3 188 hX rfl rfl dX12_says_188 ?_
    refine w_iconst 1 189 hX ic_1 dX12_says_189 ?_
    refine w_icmp_ne (tgt := 240) 190 hX dX12_says_190 (by decide) (fun c4 => ?_) (fun c4 => ?_)
    · have h := die h c4
      refine w_iload_n 3 240 hX rfl rfl dX12_says_240 ?_
      refine w_iconst 2 241 hX ic_2 dX12_says_241 ?_
      refine w_icmp_ne (tgt := 279) 242 hX dX12_says_242 (by decide) (fun c5 => ?_) (fun c5 => ?_)
      · have h := die h c5
        refine w_aload 5 279 hX rfl dX12_says_279 ?_
        refine w_bipush 6 281 hX ib_6 dX12_says_281 ?_
        obtain ⟨x6, gx6, h⟩ := d_rd h
        refine x_iald 283 hX gx6 dX12_says_283 ?_
        refine w_iload 6 284 hX rfl dX12_says_284 ?_
        refine w_iconst 3 286 hX ic_3 dX12_says_286 ?_
        refine w_imul 287 hX dX12_says_287 ?_
        refine w_iadd 288 hX dX12_says_288 ?_
        refine w_iconst 0 289 hX ic_0 dX12_says_289 ?_
        refine w_sipush 1000 290 hX isp_1000 dX12_says_290 ?_
        obtain ⟨x7, wx7, gx7, h⟩ := d_bind h
        refine w_invSNi (av := [.int (x6 + (l5 * 3)), .int 0, .int 1000]) (st := []) 293 hX ms_yL_held mi_yL_held ml_X12_80 (CDL_held (x6 + (l5 * 3)) 0 1000 gx7) rfl (by decide) (Nat.le_of_ble_eq_true rfl) (d_le h).1 (d_le h).2 dX12_says_293 ?_
        obtain ⟨rfl, rfl⟩ := d_ret h
        exact w_iret 296 hX hR dX12_says_296 rfl
      · have h := dit h c5
        refine w_aload_n 4 245 hX rfl rfl dX12_says_245 ?_
        refine w_iconst 3 246 hX ic_3 dX12_says_246 ?_
        obtain ⟨x8, gx8, h⟩ := d_rd h
        refine x_iald 247 hX gx8 dX12_says_247 ?_
        refine w_aload 5 248 hX rfl dX12_says_248 ?_
        refine w_iconst 4 250 hX ic_4 dX12_says_250 ?_
        obtain ⟨x9, gx9, h⟩ := d_rd h
        refine x_iald 251 hX gx9 dX12_says_251 ?_
        refine w_icmp_ge (tgt := 277) 252 hX dX12_says_252 (by decide) (fun c10 => ?_) (fun c10 => ?_)
        · have h := dit h c10
          refine w_iconst 0 277 hX ic_0 dX12_says_277 ?_
          obtain ⟨rfl, rfl⟩ := d_ret h
          exact w_iret 278 hX hR dX12_says_278 rfl
        · have h := die h c10
          refine w_aload_n 2 255 hX rfl rfl dX12_says_255 ?_
          obtain ⟨x11, gx11, h⟩ := d_rd h
          refine x_getI 256 hX CI_12 gx11 rfl fl_X12_44 rfl dX12_says_256 ?_
          refine w_iconst 2 259 hX ic_2 dX12_says_259 ?_
          obtain ⟨x12, gx12, h⟩ := d_lf h
          obtain ⟨qx12, jx12⟩ := rmI_ok gx12
          refine w_irem 260 hX qx12 dX12_says_260 ?_
          rw [jx12]
          refine w_if_ne (tgt := 277) 261 hX dX12_says_261 (by decide) (fun c13 => ?_) (fun c13 => ?_)
          · have h := die h c13
            refine w_iconst 0 277 hX ic_0 dX12_says_277 ?_
            obtain ⟨rfl, rfl⟩ := d_ret h
            exact w_iret 278 hX hR dX12_says_278 rfl
          · have h := dit h c13
            refine w_aload 5 264 hX rfl dX12_says_264 ?_
            refine w_iconst 5 266 hX ic_5 dX12_says_266 ?_
            obtain ⟨x14, gx14, h⟩ := d_rd h
            refine x_iald 267 hX gx14 dX12_says_267 ?_
            refine w_iconst 0 268 hX ic_0 dX12_says_268 ?_
            refine w_bipush 99 269 hX ib_99 dX12_says_269 ?_
            obtain ⟨x15, wx15, gx15, h⟩ := d_bind h
            refine w_invSNi (av := [.int x14, .int 0, .int 99]) (st := []) 271 hX ms_yL_held mi_yL_held ml_X12_80 (CDL_held x14 0 99 gx15) rfl (by decide) (Nat.le_of_ble_eq_true rfl) (d_le h).1 (d_le h).2 dX12_says_271 ?_
            refine w_goto (tgt := 278) 274 hX (by decide) dX12_says_274 ?_
            obtain ⟨rfl, rfl⟩ := d_ret h
            exact w_iret 278 hX hR dX12_says_278 rfl
    · have h := dit h c4
      refine w_iload 1 193 hX rfl dX12_says_193 ?_
      refine w_if_ne (tgt := 209) 195 hX dX12_says_195 (by decide) (fun c16 => ?_) (fun c16 => ?_)
      · have h := die h c16
        exact w_sub [4] rfl (bDX12_says_209 hX hR l3 _ h)
      · have h := dit h c16
        refine w_aload_n 2 198 hX rfl rfl dX12_says_198 ?_
        obtain ⟨x17, gx17, h⟩ := d_rd h
        refine x_getI 199 hX CI_12 gx17 rfl fl_X12_47 rfl dX12_says_199 ?_
        refine w_aload 5 202 hX rfl dX12_says_202 ?_
        refine w_iconst 2 204 hX ic_2 dX12_says_204 ?_
        obtain ⟨x18, gx18, h⟩ := d_rd h
        refine x_iald 205 hX gx18 dX12_says_205 ?_
        refine w_icmp_le (tgt := 223) 206 hX dX12_says_206 (by decide) (fun c19 => ?_) (fun c19 => ?_)
        · have h := dit h c19
          refine w_aload_n 4 223 hX rfl rfl dX12_says_223 ?_
          refine w_iconst 2 224 hX ic_2 dX12_says_224 ?_
          obtain ⟨x20, gx20, h⟩ := d_rd h
          refine x_iald 225 hX gx20 dX12_says_225 ?_
          refine w_aload 5 226 hX rfl dX12_says_226 ?_
          refine w_iconst 3 228 hX ic_3 dX12_says_228 ?_
          obtain ⟨x21, gx21, h⟩ := d_rd h
          refine x_iald 229 hX gx21 dX12_says_229 ?_
          refine w_iadd 230 hX dX12_says_230 ?_
          refine w_iconst 3 231 hX ic_3 dX12_says_231 ?_
          refine w_isub 232 hX dX12_says_232 ?_
          refine w_iconst 0 233 hX ic_0 dX12_says_233 ?_
          refine w_bipush 9 234 hX ib_9 dX12_says_234 ?_
          obtain ⟨x22, wx22, gx22, h⟩ := d_bind h
          refine w_invSNi (av := [.int ((x20 + x21) - 3), .int 0, .int 9]) (st := []) 236 hX ms_yL_held mi_yL_held ml_X12_80 (CDL_held ((x20 + x21) - 3) 0 9 gx22) rfl (by decide) (Nat.le_of_ble_eq_true rfl) (d_le h).1 (d_le h).2 dX12_says_236 ?_
          obtain ⟨rfl, rfl⟩ := d_ret h
          exact w_iret 239 hX hR dX12_says_239 rfl
        · have h := die h c19
          exact w_sub [4] rfl (bDX12_says_209 hX hR l3 _ h)
  · have h := dit h c3
    refine w_aload_n 4 118 hX rfl rfl dX12_says_118 ?_
    refine w_iconst 1 119 hX ic_1 dX12_says_119 ?_
    obtain ⟨x23, gx23, h⟩ := d_rd h
    refine x_iald 120 hX gx23 dX12_says_120 ?_
    refine w_aload 5 121 hX rfl dX12_says_121 ?_
    refine w_iconst 0 123 hX ic_0 dX12_says_123 ?_
    obtain ⟨x24, gx24, h⟩ := d_rd h
    refine x_iald 124 hX gx24 dX12_says_124 ?_
    refine w_icmp_le (tgt := 170) 125 hX dX12_says_125 (by decide) (fun c25 => ?_) (fun c25 => ?_)
    · have h := dit h c25
      exact w_sub [4, 5] rfl (bDX12_says_170 hX hR l3 l4 _ h)
    · have h := die h c25
      refine w_iload 0 128 hX rfl dX12_says_128 ?_
      refine w_iconst 3 130 hX ic_3 dX12_says_130 ?_
      refine w_icmp_gt (tgt := 170) 131 hX dX12_says_131 (by decide) (fun c26 => ?_) (fun c26 => ?_)
      · have h := dit h c26
        exact w_sub [4, 5] rfl (bDX12_says_170 hX hR l3 l4 _ h)
      · have h := die h c26
        refine w_aload_n 4 134 hX rfl rfl dX12_says_134 ?_
        refine w_iconst 0 135 hX ic_0 dX12_says_135 ?_
        obtain ⟨x27, gx27, h⟩ := d_rd h
        refine x_iald 136 hX gx27 dX12_says_136 ?_
        refine w_iconst 1 137 hX ic_1 dX12_says_137 ?_
        refine w_icmp_ne (tgt := 149) 138 hX dX12_says_138 (by decide) (fun c28 => ?_) (fun c28 => ?_)
        · have h := die h c28
          exact w_sub [4, 5] rfl (bDX12_says_149 hX hR l3 l4 _ h)
        · have h := dit h c28
          refine w_aload_n 2 141 hX rfl rfl dX12_says_141 ?_
          obtain ⟨x29, gx29, h⟩ := d_rd h
          refine x_getI 142 hX CI_12 gx29 rfl fl_X12_47 rfl dX12_says_142 ?_
          refine w_iconst 5 145 hX ic_5 dX12_says_145 ?_
          refine w_icmp_gt (tgt := 170) 146 hX dX12_says_146 (by decide) (fun c30 => ?_) (fun c30 => ?_)
          · have h := dit h c30
            exact w_sub [4, 5] rfl (bDX12_says_170 hX hR l3 l4 _ h)
          · have h := die h c30
            exact w_sub [4, 5] rfl (bDX12_says_149 hX hR l3 l4 _ h)
noncomputable def DX12_says_b29 (l0 : Nat) (l1 : Int32) (l3 : Nat) (t0 : Int32) : Dm Int32 :=
  dbind (dread (iald l3 6)) fun x1 => (if x1 = 1 then (dbind (dread (gfI l0 12 8)) fun x3 => (if ((x3 >>> (t0 &&& 31)) &&& 1) = 1 then (DX12_says_b57 l0 l1 l3 t0 1) else (DX12_says_b57 l0 l1 l3 t0 0))) else (DX12_says_b57 l0 l1 l3 t0 0))
theorem bDX12_says_29 {G : Gt} {X : Xt} {w' : Wd} {v : Int32} (hX : CxOk G X cX12_says 8 RX12 (some (.int v), w'.1, w'.2.1, w'.2.2) 3) (hR : CxRet G X (some .int) (some (.int v), w'.1, w'.2.1, w'.2.2)) (l0 : Nat) (l1 : Int32) (l3 : Nat) (t0 : Int32) (w : Wd) (h : (DX12_says_b29 l0 l1 l3 t0).1 w = some (v, w')) : WM G X 29 [(0, .ref l0), (1, .int l1), (3, .ref l3), (4, .null)] [.int t0] w.1 w.2.1 w.2.2 := by
  unfold DX12_says_b29 at h
  refine w_istore (lv' := [(5, .int t0), (0, .ref l0), (1, .int l1), (3, .ref l3), (4, .null)]) 29 hX dX12_says_29 (by decide) rfl ?_
  refine w_aload_n 3 31 hX rfl rfl dX12_says_31 ?_
  refine w_bipush 6 32 hX ib_6 dX12_says_32 ?_
  obtain ⟨x1, gx1, h⟩ := d_rd h
  refine x_iald 34 hX gx1 dX12_says_34 ?_
  refine w_iconst 1 35 hX ic_1 dX12_says_35 ?_
  refine w_icmp_ne (tgt := 56) 36 hX dX12_says_36 (by decide) (fun c2 => ?_) (fun c2 => ?_)
  · have h := die h c2
    refine w_iconst 0 56 hX ic_0 dX12_says_56 ?_
    exact w_sub [1, 2, 3, 4, 0] rfl (bDX12_says_57 hX hR l0 l1 l3 t0 0 _ h)
  · have h := dit h c2
    refine w_aload_n 1 39 hX rfl rfl dX12_says_39 ?_
    obtain ⟨x3, gx3, h⟩ := d_rd h
    refine x_getI 40 hX CI_12 gx3 rfl fl_X12_56 rfl dX12_says_40 ?_
    refine w_iload 0 43 hX rfl dX12_says_43 ?_
    refine w_ishr 45 hX dX12_says_45 ?_
    refine w_iconst 1 46 hX ic_1 dX12_says_46 ?_
    refine w_iand 47 hX dX12_says_47 ?_
    refine w_iconst 1 48 hX ic_1 dX12_says_48 ?_
    refine w_icmp_ne (tgt := 56) 49 hX dX12_says_49 (by decide) (fun c4 => ?_) (fun c4 => ?_)
    · have h := die h c4
      refine w_iconst 0 56 hX ic_0 dX12_says_56 ?_
      exact w_sub [1, 2, 3, 4, 0] rfl (bDX12_says_57 hX hR l0 l1 l3 t0 0 _ h)
    · have h := dit h c4
      refine w_iconst 1 52 hX ic_1 dX12_says_52 ?_
      refine w_goto (tgt := 57) 53 hX (by decide) dX12_says_53 ?_
      exact w_sub [1, 2, 3, 4, 0] rfl (bDX12_says_57 hX hR l0 l1 l3 t0 1 _ h)
noncomputable def DX12_says_b29a (l0 : Nat) (l1 : Int32) (l3 : Nat) (l4 : Nat) (t0 : Int32) : Dm Int32 :=
  dbind (dread (iald l3 6)) fun x1 => (if x1 = 1 then (dbind (dread (gfI l0 12 8)) fun x3 => (if ((x3 >>> (t0 &&& 31)) &&& 1) = 1 then (DX12_says_b57a l0 l1 l3 l4 t0 1) else (DX12_says_b57a l0 l1 l3 l4 t0 0))) else (DX12_says_b57a l0 l1 l3 l4 t0 0))
theorem bDX12_says_29a {G : Gt} {X : Xt} {w' : Wd} {v : Int32} (hX : CxOk G X cX12_says 8 RX12 (some (.int v), w'.1, w'.2.1, w'.2.2) 3) (hR : CxRet G X (some .int) (some (.int v), w'.1, w'.2.1, w'.2.2)) (l0 : Nat) (l1 : Int32) (l3 : Nat) (l4 : Nat) (t0 : Int32) (w : Wd) (h : (DX12_says_b29a l0 l1 l3 l4 t0).1 w = some (v, w')) : WM G X 29 [(0, .ref l0), (1, .int l1), (3, .ref l3), (4, .ref l4)] [.int t0] w.1 w.2.1 w.2.2 := by
  unfold DX12_says_b29a at h
  refine w_istore (lv' := [(5, .int t0), (0, .ref l0), (1, .int l1), (3, .ref l3), (4, .ref l4)]) 29 hX dX12_says_29 (by decide) rfl ?_
  refine w_aload_n 3 31 hX rfl rfl dX12_says_31 ?_
  refine w_bipush 6 32 hX ib_6 dX12_says_32 ?_
  obtain ⟨x1, gx1, h⟩ := d_rd h
  refine x_iald 34 hX gx1 dX12_says_34 ?_
  refine w_iconst 1 35 hX ic_1 dX12_says_35 ?_
  refine w_icmp_ne (tgt := 56) 36 hX dX12_says_36 (by decide) (fun c2 => ?_) (fun c2 => ?_)
  · have h := die h c2
    refine w_iconst 0 56 hX ic_0 dX12_says_56 ?_
    exact w_sub [1, 2, 3, 4, 0] rfl (bDX12_says_57a hX hR l0 l1 l3 l4 t0 0 _ h)
  · have h := dit h c2
    refine w_aload_n 1 39 hX rfl rfl dX12_says_39 ?_
    obtain ⟨x3, gx3, h⟩ := d_rd h
    refine x_getI 40 hX CI_12 gx3 rfl fl_X12_56 rfl dX12_says_40 ?_
    refine w_iload 0 43 hX rfl dX12_says_43 ?_
    refine w_ishr 45 hX dX12_says_45 ?_
    refine w_iconst 1 46 hX ic_1 dX12_says_46 ?_
    refine w_iand 47 hX dX12_says_47 ?_
    refine w_iconst 1 48 hX ic_1 dX12_says_48 ?_
    refine w_icmp_ne (tgt := 56) 49 hX dX12_says_49 (by decide) (fun c4 => ?_) (fun c4 => ?_)
    · have h := die h c4
      refine w_iconst 0 56 hX ic_0 dX12_says_56 ?_
      exact w_sub [1, 2, 3, 4, 0] rfl (bDX12_says_57a hX hR l0 l1 l3 l4 t0 0 _ h)
    · have h := dit h c4
      refine w_iconst 1 52 hX ic_1 dX12_says_52 ?_
      refine w_goto (tgt := 57) 53 hX (by decide) dX12_says_53 ?_
      exact w_sub [1, 2, 3, 4, 0] rfl (bDX12_says_57a hX hR l0 l1 l3 l4 t0 1 _ h)
noncomputable def DX12_says (p0 : Nat) (p1 : Int32) (p2 : Int32) : Dm Int32 :=
  dbind (dread (gfR p0 12 16)) fun x1 => dbind (dread (aald x1 p2)) fun x2 => dbind (dread (gfO p0 12 19)) fun x3 => dopt x3 (dbind (dread (iald x2 6)) fun x5 => (if x5 = 1 then (dbind (dread (iald x2 7)) fun x7 => DX12_says_b29 p0 p1 x2 x7) else (DX12_says_b29 p0 p1 x2 0))) (fun r4 => dbind (dread (iald x2 6)) fun x8 => (if x8 = 1 then (dbind (dread (iald x2 7)) fun x10 => DX12_says_b29a p0 p1 x2 r4 x10) else (DX12_says_b29a p0 p1 x2 r4 0)))
theorem CDX12_says {G : Gt} (p0 : Nat) (p1 : Int32) (p2 : Int32) {w w' : Wd} {v : Int32} (h : (DX12_says p0 p1 p2).1 w = some (v, w')) : CN G yX12_says cX12_says 8 (some .int) 3 [.ref p0, .int p1, .int p2] w (some (.int v)) w' :=
  cn_of (by decide) rfl (Nat.le_of_ble_eq_true rfl) (d_le h) (fun X hX _ hR => by
  unfold DX12_says at h
  refine w_aload_n 0 0 hX rfl rfl dX12_says_0 ?_
  obtain ⟨x1, gx1, h⟩ := d_rd h
  refine x_getR 1 hX CI_12 gx1 rfl fl_X12_30 rfl dX12_says_1 ?_
  refine w_iload_n 2 4 hX rfl rfl dX12_says_4 ?_
  obtain ⟨x2, gx2, h⟩ := d_rd h
  refine x_aald 5 hX gx2 dX12_says_5 ?_
  refine w_astore_n (lv' := [(3, .ref x2), (0, .ref p0), (1, .int p1), (2, .int p2)]) 6 hX rfl dX12_says_6 (by decide) rfl ?_
  refine w_aload_n 1 7 hX rfl rfl dX12_says_7 ?_
  obtain ⟨x3, gx3, h⟩ := d_rd h
  refine x_getO 8 hX CI_12 gx3 rfl fl_X12_69 rfl dX12_says_8 ?_
  rcases x3 with _ | r4
  · have h := dopt_n h
    refine w_astoreN (lv' := [(4, .null), (3, .ref x2), (0, .ref p0), (1, .int p1), (2, .int p2)]) 11 hX dX12_says_11 (by decide) rfl ?_
    refine w_aload_n 1 13 hX rfl rfl dX12_says_13 ?_
    refine w_bipush 6 14 hX ib_6 dX12_says_14 ?_
    obtain ⟨x5, gx5, h⟩ := d_rd h
    refine x_iald 16 hX gx5 dX12_says_16 ?_
    refine w_iconst 1 17 hX ic_1 dX12_says_17 ?_
    refine w_icmp_ne (tgt := 28) 18 hX dX12_says_18 (by decide) (fun c6 => ?_) (fun c6 => ?_)
    · have h := die h c6
      refine w_iconst 0 28 hX ic_0 dX12_says_28 ?_
      exact w_sub [2, 3, 1, 0] rfl (bDX12_says_29 hX hR p0 p1 x2 0 _ h)
    · have h := dit h c6
      refine w_aload_n 1 21 hX rfl rfl dX12_says_21 ?_
      refine w_bipush 7 22 hX ib_7 dX12_says_22 ?_
      obtain ⟨x7, gx7, h⟩ := d_rd h
      refine x_iald 24 hX gx7 dX12_says_24 ?_
      refine w_goto (tgt := 29) 25 hX (by decide) dX12_says_25 ?_
      exact w_sub [2, 3, 1, 0] rfl (bDX12_says_29 hX hR p0 p1 x2 x7 _ h)
  · have h := dopt_s h
    refine w_astore (lv' := [(4, .ref r4), (3, .ref x2), (0, .ref p0), (1, .int p1), (2, .int p2)]) 11 hX dX12_says_11 (by decide) rfl ?_
    refine w_aload_n 1 13 hX rfl rfl dX12_says_13 ?_
    refine w_bipush 6 14 hX ib_6 dX12_says_14 ?_
    obtain ⟨x8, gx8, h⟩ := d_rd h
    refine x_iald 16 hX gx8 dX12_says_16 ?_
    refine w_iconst 1 17 hX ic_1 dX12_says_17 ?_
    refine w_icmp_ne (tgt := 28) 18 hX dX12_says_18 (by decide) (fun c9 => ?_) (fun c9 => ?_)
    · have h := die h c9
      refine w_iconst 0 28 hX ic_0 dX12_says_28 ?_
      exact w_sub [2, 3, 1, 0] rfl (bDX12_says_29a hX hR p0 p1 x2 r4 0 _ h)
    · have h := dit h c9
      refine w_aload_n 1 21 hX rfl rfl dX12_says_21 ?_
      refine w_bipush 7 22 hX ib_7 dX12_says_22 ?_
      obtain ⟨x10, gx10, h⟩ := d_rd h
      refine x_iald 24 hX gx10 dX12_says_24 ?_
      refine w_goto (tgt := 29) 25 hX (by decide) dX12_says_25 ?_
      exact w_sub [2, 3, 1, 0] rfl (bDX12_says_29a hX hR p0 p1 x2 r4 x10 _ h))
noncomputable def DX12_call (p0 : Nat) (p1 : Int32) : Dm Int32 :=
  dbind (dread (gfR p0 12 16)) fun x1 => dbind (dread (aald x1 p1)) fun x2 => dbind (dread (iald x2 1)) fun x3 => dbind (dread (gfI p0 12 11)) fun x4 => (if x4 ≤ x3 then (dbind (dread (isC p0 12)) fun x6 => dbind (DX12_says p0 0 p1) fun x7 => dret x7) else (dret 0))
theorem CDX12_call {G : Gt} (p0 : Nat) (p1 : Int32) {w w' : Wd} {v : Int32} (h : (DX12_call p0 p1).1 w = some (v, w')) : CN G yX12_call cX12_call 2 (some .int) 4 [.ref p0, .int p1] w (some (.int v)) w' :=
  cn_of (by decide) rfl (Nat.le_of_ble_eq_true rfl) (d_le h) (fun X hX _ hR => by
  unfold DX12_call at h
  refine w_aload_n 0 0 hX rfl rfl dX12_call_0 ?_
  obtain ⟨x1, gx1, h⟩ := d_rd h
  refine x_getR 1 hX CI_12 gx1 rfl fl_X12_30 rfl dX12_call_1 ?_
  refine w_iload_n 1 4 hX rfl rfl dX12_call_4 ?_
  obtain ⟨x2, gx2, h⟩ := d_rd h
  refine x_aald 5 hX gx2 dX12_call_5 ?_
  refine w_iconst 1 6 hX ic_1 dX12_call_6 ?_
  obtain ⟨x3, gx3, h⟩ := d_rd h
  refine x_iald 7 hX gx3 dX12_call_7 ?_
  refine w_aload_n 0 8 hX rfl rfl dX12_call_8 ?_
  obtain ⟨x4, gx4, h⟩ := d_rd h
  refine x_getI 9 hX CI_12 gx4 rfl fl_X12_86 rfl dX12_call_9 ?_
  refine w_icmp_ge (tgt := 19) 12 hX dX12_call_12 (by decide) (fun c5 => ?_) (fun c5 => ?_)
  · have h := dit h c5
    refine w_aload_n 0 19 hX rfl rfl dX12_call_19 ?_
    refine w_iconst 0 20 hX ic_0 dX12_call_20 ?_
    refine w_iload_n 1 21 hX rfl rfl dX12_call_21 ?_
    obtain ⟨x6, gx6, h⟩ := d_rd h
    obtain ⟨x7, wx7, gx7, h⟩ := d_bind h
    refine w_invVi (av := [.int 0, .int p1]) (st := []) 22 hX CI_12 (isC_ok gx6) rfl mv_yX12_says mi_yX12_says ml_X12_89 (CDX12_says p0 0 p1 gx7) rfl (by decide) (Nat.le_of_ble_eq_true rfl) (d_le h).1 (d_le h).2 dX12_call_22 ?_
    obtain ⟨rfl, rfl⟩ := d_ret h
    exact w_iret 25 hX hR dX12_call_25 rfl
  · have h := die h c5
    refine w_iconst 0 15 hX ic_0 dX12_call_15 ?_
    refine w_goto (tgt := 25) 16 hX (by decide) dX12_call_16 ?_
    obtain ⟨rfl, rfl⟩ := d_ret h
    exact w_iret 25 hX hR dX12_call_25 rfl)
noncomputable def DX12_copy_b178 (k178 : Nat → Nat → Int32 → Dm Nat) (l0 : Nat) (l1 : Nat) (l2 : Int32) : Dm Nat :=
  dbind (dread (gfI l0 12 7)) fun x1 => (if x1 ≤ l2 then (dret l1) else (dbind (dread (gfR l1 12 17)) fun x3 => dbind (dread (gfR l0 12 17)) fun x4 => dbind (dread (aald x4 l2)) fun x5 => dbind (dput (aast x3 l2 x5)) fun _ => k178 l0 l1 (l2 + 1)))
theorem bDX12_copy_178 {G : Gt} {X : Xt} {w' : Wd} {v : Nat} (hX : CxOk G X cX12_copy 3 RX12 (some (.ref v), w'.1, w'.2.1, w'.2.2) 3) (hR : CxRet G X (some (.object "OldestDownLaw$War")) (some (.ref v), w'.1, w'.2.1, w'.2.2)) {k178 : Nat → Nat → Int32 → Dm Nat} (hk178 : ∀ (l0 : Nat) (l1 : Nat) (l2 : Int32) (w : Wd), (k178 l0 l1 l2).1 w = some (v, w') → WM G X 178 [(0, .ref l0), (1, .ref l1), (2, .int l2)] [] w.1 w.2.1 w.2.2) (l0 : Nat) (l1 : Nat) (l2 : Int32) (w : Wd) (h : (DX12_copy_b178 k178 l0 l1 l2).1 w = some (v, w')) : WM G X 178 [(0, .ref l0), (1, .ref l1), (2, .int l2)] [] w.1 w.2.1 w.2.2 := by
  unfold DX12_copy_b178 at h
  refine w_iload_n 2 178 hX rfl rfl dX12_copy_178 ?_
  refine w_aload_n 0 179 hX rfl rfl dX12_copy_179 ?_
  obtain ⟨x1, gx1, h⟩ := d_rd h
  refine x_getI 180 hX CI_12 gx1 rfl fl_X12_53 rfl dX12_copy_180 ?_
  refine w_icmp_ge (tgt := 204) 183 hX dX12_copy_183 (by decide) (fun c2 => ?_) (fun c2 => ?_)
  · have h := dit h c2
    refine w_aload_n 1 204 hX rfl rfl dX12_copy_204 ?_
    obtain ⟨rfl, rfl⟩ := d_ret h
    exact w_aret 205 hX hR (Or.inl ⟨_, rfl⟩) dX12_copy_205 rfl
  · have h := die h c2
    refine w_aload_n 1 186 hX rfl rfl dX12_copy_186 ?_
    obtain ⟨x3, gx3, h⟩ := d_rd h
    refine x_getR 187 hX CI_12 gx3 rfl fl_X12_34 rfl dX12_copy_187 ?_
    refine w_iload_n 2 190 hX rfl rfl dX12_copy_190 ?_
    refine w_aload_n 0 191 hX rfl rfl dX12_copy_191 ?_
    obtain ⟨x4, gx4, h⟩ := d_rd h
    refine x_getR 192 hX CI_12 gx4 rfl fl_X12_34 rfl dX12_copy_192 ?_
    refine w_iload_n 2 195 hX rfl rfl dX12_copy_195 ?_
    obtain ⟨x5, gx5, h⟩ := d_rd h
    refine x_aald 196 hX gx5 dX12_copy_196 ?_
    obtain ⟨x6, wx6, gx6, h⟩ := d_bind h
    refine x_aast 197 hX gx6 dX12_copy_197 ?_
    refine w_iinc (lv' := [(2, .int (l2 + 1)), (0, .ref l0), (1, .ref l1)]) 198 2 hX dX12_copy_198 rfl (inc_1 _) (by decide) rfl ?_
    refine w_goto (tgt := 178) 201 hX (by decide) dX12_copy_201 ?_
    exact w_sub [1, 2, 0] rfl (hk178 l0 l1 (l2 + 1) _ h)
noncomputable def DX12_copy_L178 : Nat → Nat → Nat → Int32 → Dm Nat
  | 0, _, _, _ => dno
  | n + 1, l0, l1, l2 => DX12_copy_b178 (DX12_copy_L178 n) l0 l1 l2
theorem lDX12_copy_178 {G : Gt} {X : Xt} {w' : Wd} {v : Nat} (hX : CxOk G X cX12_copy 3 RX12 (some (.ref v), w'.1, w'.2.1, w'.2.2) 3) (hR : CxRet G X (some (.object "OldestDownLaw$War")) (some (.ref v), w'.1, w'.2.1, w'.2.2)) : ∀ (n : Nat) (l0 : Nat) (l1 : Nat) (l2 : Int32) (w : Wd), (DX12_copy_L178 n l0 l1 l2).1 w = some (v, w') → WM G X 178 [(0, .ref l0), (1, .ref l1), (2, .int l2)] [] w.1 w.2.1 w.2.2 := by
  intro n
  induction n with
  | zero =>
    intro l0 l1 l2 w h
    exact dn_ h
  | succ n ih =>
    intro l0 l1 l2 w h
    exact bDX12_copy_178 hX hR ih l0 l1 l2 w h
noncomputable def DX12_copy_b144 (k144 : Nat → Nat → Int32 → Dm Nat) (l0 : Nat) (l1 : Nat) (l2 : Int32) : Dm Nat :=
  dbind (dread (gfI l0 12 6)) fun x1 => (if x1 ≤ l2 then (DX12_copy_L178 FU l0 l1 0) else (dbind (dread (gfR l1 12 16)) fun x3 => dbind (dread (gfR l0 12 16)) fun x4 => dbind (dread (aald x4 l2)) fun x5 => dbind (dnew (nwCI x5)) fun x6 => dbind (dread (isI x6)) fun x7 => dbind (dput (aast x3 l2 x6)) fun _ => k144 l0 l1 (l2 + 1)))
theorem bDX12_copy_144 {G : Gt} {X : Xt} {w' : Wd} {v : Nat} (hX : CxOk G X cX12_copy 3 RX12 (some (.ref v), w'.1, w'.2.1, w'.2.2) 3) (hR : CxRet G X (some (.object "OldestDownLaw$War")) (some (.ref v), w'.1, w'.2.1, w'.2.2)) {k144 : Nat → Nat → Int32 → Dm Nat} (hk144 : ∀ (l0 : Nat) (l1 : Nat) (l2 : Int32) (w : Wd), (k144 l0 l1 l2).1 w = some (v, w') → WM G X 144 [(0, .ref l0), (1, .ref l1), (2, .int l2)] [] w.1 w.2.1 w.2.2) (l0 : Nat) (l1 : Nat) (l2 : Int32) (w : Wd) (h : (DX12_copy_b144 k144 l0 l1 l2).1 w = some (v, w')) : WM G X 144 [(0, .ref l0), (1, .ref l1), (2, .int l2)] [] w.1 w.2.1 w.2.2 := by
  unfold DX12_copy_b144 at h
  refine w_iload_n 2 144 hX rfl rfl dX12_copy_144 ?_
  refine w_aload_n 0 145 hX rfl rfl dX12_copy_145 ?_
  obtain ⟨x1, gx1, h⟩ := d_rd h
  refine x_getI 146 hX CI_12 gx1 rfl fl_X12_50 rfl dX12_copy_146 ?_
  refine w_icmp_ge (tgt := 176) 149 hX dX12_copy_149 (by decide) (fun c2 => ?_) (fun c2 => ?_)
  · have h := dit h c2
    refine w_iconst 0 176 hX ic_0 dX12_copy_176 ?_
    refine w_istore_n (lv' := [(2, .int 0), (0, .ref l0), (1, .ref l1)]) 177 hX rfl dX12_copy_177 (by decide) rfl ?_
    exact w_sub [1, 2, 0] rfl (lDX12_copy_178 hX hR FU l0 l1 0 _ h)
  · have h := die h c2
    refine w_aload_n 1 152 hX rfl rfl dX12_copy_152 ?_
    obtain ⟨x3, gx3, h⟩ := d_rd h
    refine x_getR 153 hX CI_12 gx3 rfl fl_X12_30 rfl dX12_copy_153 ?_
    refine w_iload_n 2 156 hX rfl rfl dX12_copy_156 ?_
    refine w_aload_n 0 157 hX rfl rfl dX12_copy_157 ?_
    obtain ⟨x4, gx4, h⟩ := d_rd h
    refine x_getR 158 hX CI_12 gx4 rfl fl_X12_30 rfl dX12_copy_158 ?_
    refine w_iload_n 2 161 hX rfl rfl dX12_copy_161 ?_
    obtain ⟨x5, gx5, h⟩ := d_rd h
    refine x_aald 162 hX gx5 dX12_copy_162 ?_
    obtain ⟨x6, wx6, gx6, h⟩ := d_bind h
    refine x_cloneI 163 hX gx6 clkI_X12_65 clwI_1 clw_2 clw_3 clwI_4 clwI_5 (by decide) (Nat.le_of_ble_eq_true rfl) (d_le h) dX12_copy_163 ?_
    obtain ⟨x7, gx7, h⟩ := d_rd h
    refine x_castI 166 hX gx7 cl_X12_29 dX12_copy_166 ?_
    obtain ⟨x8, wx8, gx8, h⟩ := d_bind h
    refine x_aast 169 hX gx8 dX12_copy_169 ?_
    refine w_iinc (lv' := [(2, .int (l2 + 1)), (0, .ref l0), (1, .ref l1)]) 170 2 hX dX12_copy_170 rfl (inc_1 _) (by decide) rfl ?_
    refine w_goto (tgt := 144) 173 hX (by decide) dX12_copy_173 ?_
    exact w_sub [1, 2, 0] rfl (hk144 l0 l1 (l2 + 1) _ h)
noncomputable def DX12_copy_L144 : Nat → Nat → Nat → Int32 → Dm Nat
  | 0, _, _, _ => dno
  | n + 1, l0, l1, l2 => DX12_copy_b144 (DX12_copy_L144 n) l0 l1 l2
theorem lDX12_copy_144 {G : Gt} {X : Xt} {w' : Wd} {v : Nat} (hX : CxOk G X cX12_copy 3 RX12 (some (.ref v), w'.1, w'.2.1, w'.2.2) 3) (hR : CxRet G X (some (.object "OldestDownLaw$War")) (some (.ref v), w'.1, w'.2.1, w'.2.2)) : ∀ (n : Nat) (l0 : Nat) (l1 : Nat) (l2 : Int32) (w : Wd), (DX12_copy_L144 n l0 l1 l2).1 w = some (v, w') → WM G X 144 [(0, .ref l0), (1, .ref l1), (2, .int l2)] [] w.1 w.2.1 w.2.2 := by
  intro n
  induction n with
  | zero =>
    intro l0 l1 l2 w h
    exact dn_ h
  | succ n ih =>
    intro l0 l1 l2 w h
    exact bDX12_copy_144 hX hR ih l0 l1 l2 w h
noncomputable def DX12_copy (p0 : Nat) : Dm Nat :=
  dbind (dnew (nwO 12)) fun x1 => dbind (dread (isC x1 12)) fun x2 => dbind (DX12_init x1) fun _ => dbind (dread (gfI p0 12 0)) fun x4 => dbind (dput (pfI x1 12 0 x4)) fun _ => dbind (dread (gfI p0 12 1)) fun x6 => dbind (dput (pfI x1 12 1 x6)) fun _ => dbind (dread (gfI p0 12 2)) fun x8 => dbind (dput (pfI x1 12 2 x8)) fun _ => dbind (dread (gfI p0 12 3)) fun x10 => dbind (dput (pfI x1 12 3 x10)) fun _ => dbind (dread (gfI p0 12 4)) fun x12 => dbind (dput (pfI x1 12 4 x12)) fun _ => dbind (dread (gfI p0 12 5)) fun x14 => dbind (dput (pfI x1 12 5 x14)) fun _ => dbind (dread (gfI p0 12 6)) fun x16 => dbind (dput (pfI x1 12 6 x16)) fun _ => dbind (dread (gfI p0 12 7)) fun x18 => dbind (dput (pfI x1 12 7 x18)) fun _ => dbind (dread (gfI p0 12 8)) fun x20 => dbind (dput (pfI x1 12 8 x20)) fun _ => dbind (dread (gfI p0 12 9)) fun x22 => dbind (dput (pfI x1 12 9 x22)) fun _ => dbind (dread (gfI p0 12 10)) fun x24 => dbind (dput (pfI x1 12 10 x24)) fun _ => dbind (dread (gfR p0 12 13)) fun x26 => dbind (dnew (nwCI x26)) fun x27 => dbind (dread (isI x27)) fun x28 => dbind (dput (pfO x1 12 13 (some x27))) fun _ => dbind (dread (gfR p0 12 14)) fun x30 => dbind (dput (pfO x1 12 14 (some x30))) fun _ => dbind (dread (gfR p0 12 15)) fun x32 => dbind (dput (pfO x1 12 15 (some x32))) fun _ => dbind (dread (gfR p0 12 18)) fun x34 => dbind (dput (pfO x1 12 18 (some x34))) fun _ => dbind (dread (gfO p0 12 19)) fun x36 => dopt x36 (dbind (dput (pfO x1 12 19 none)) fun _ => DX12_copy_L144 FU p0 x1 0) (fun r37 => dbind (dput (pfO x1 12 19 (some r37))) fun _ => DX12_copy_L144 FU p0 x1 0)
theorem CDX12_copy {G : Gt} (p0 : Nat) {w w' : Wd} {v : Nat} (h : (DX12_copy p0).1 w = some (v, w')) : CN G yX12_copy cX12_copy 3 (some (.object "OldestDownLaw$War")) 3 [.ref p0] w (some (.ref v)) w' :=
  cn_of (by decide) rfl (Nat.le_of_ble_eq_true rfl) (d_le h) (fun X hX _ hR => by
  unfold DX12_copy at h
  obtain ⟨x1, wx1, gx1, h⟩ := d_bind h
  refine x_new 0 hX CI_12 gx1 dvW_12 cl_X12_8 insW_12 izW_12 (d_le h) dX12_copy_0 ?_
  refine w_dup 3 hX rfl dX12_copy_3 ?_
  obtain ⟨x2, gx2, h⟩ := d_rd h
  obtain ⟨x3, wx3, gx3, h⟩ := d_bind h
  refine w_invIv (av := []) (st := [.ref x1]) 4 hX CI_12 (isC_ok gx2) mo_yX12_init rfl mi_yX12_init ml_X12_40 (CDX12_init x1 gx3) rfl (by decide) (Nat.le_of_ble_eq_true rfl) (d_le h).1 (d_le h).2 dX12_copy_4 ?_
  refine w_astore_n (lv' := [(1, .ref x1), (0, .ref p0)]) 7 hX rfl dX12_copy_7 (by decide) rfl ?_
  refine w_aload_n 0 8 hX rfl rfl dX12_copy_8 ?_
  refine w_aload_n 1 9 hX rfl rfl dX12_copy_9 ?_
  obtain ⟨x4, gx4, h⟩ := d_rd h
  refine x_getI 10 hX CI_12 gx4 rfl fl_X12_41 rfl dX12_copy_10 ?_
  obtain ⟨x5, wx5, gx5, h⟩ := d_bind h
  refine x_putI 13 hX CI_12 gx5 rfl fl_X12_41 rfl rfl rfl rfl dX12_copy_13 ?_
  refine w_aload_n 0 16 hX rfl rfl dX12_copy_16 ?_
  refine w_aload_n 1 17 hX rfl rfl dX12_copy_17 ?_
  obtain ⟨x6, gx6, h⟩ := d_rd h
  refine x_getI 18 hX CI_12 gx6 rfl fl_X12_44 rfl dX12_copy_18 ?_
  obtain ⟨x7, wx7, gx7, h⟩ := d_bind h
  refine x_putI 21 hX CI_12 gx7 rfl fl_X12_44 rfl rfl rfl rfl dX12_copy_21 ?_
  refine w_aload_n 0 24 hX rfl rfl dX12_copy_24 ?_
  refine w_aload_n 1 25 hX rfl rfl dX12_copy_25 ?_
  obtain ⟨x8, gx8, h⟩ := d_rd h
  refine x_getI 26 hX CI_12 gx8 rfl fl_X12_7 rfl dX12_copy_26 ?_
  obtain ⟨x9, wx9, gx9, h⟩ := d_bind h
  refine x_putI 29 hX CI_12 gx9 rfl fl_X12_7 rfl rfl rfl rfl dX12_copy_29 ?_
  refine w_aload_n 0 32 hX rfl rfl dX12_copy_32 ?_
  refine w_aload_n 1 33 hX rfl rfl dX12_copy_33 ?_
  obtain ⟨x10, gx10, h⟩ := d_rd h
  refine x_getI 34 hX CI_12 gx10 rfl fl_X12_13 rfl dX12_copy_34 ?_
  obtain ⟨x11, wx11, gx11, h⟩ := d_bind h
  refine x_putI 37 hX CI_12 gx11 rfl fl_X12_13 rfl rfl rfl rfl dX12_copy_37 ?_
  refine w_aload_n 0 40 hX rfl rfl dX12_copy_40 ?_
  refine w_aload_n 1 41 hX rfl rfl dX12_copy_41 ?_
  obtain ⟨x12, gx12, h⟩ := d_rd h
  refine x_getI 42 hX CI_12 gx12 rfl fl_X12_47 rfl dX12_copy_42 ?_
  obtain ⟨x13, wx13, gx13, h⟩ := d_bind h
  refine x_putI 45 hX CI_12 gx13 rfl fl_X12_47 rfl rfl rfl rfl dX12_copy_45 ?_
  refine w_aload_n 0 48 hX rfl rfl dX12_copy_48 ?_
  refine w_aload_n 1 49 hX rfl rfl dX12_copy_49 ?_
  obtain ⟨x14, gx14, h⟩ := d_rd h
  refine x_getI 50 hX CI_12 gx14 rfl fl_X12_16 rfl dX12_copy_50 ?_
  obtain ⟨x15, wx15, gx15, h⟩ := d_bind h
  refine x_putI 53 hX CI_12 gx15 rfl fl_X12_16 rfl rfl rfl rfl dX12_copy_53 ?_
  refine w_aload_n 0 56 hX rfl rfl dX12_copy_56 ?_
  refine w_aload_n 1 57 hX rfl rfl dX12_copy_57 ?_
  obtain ⟨x16, gx16, h⟩ := d_rd h
  refine x_getI 58 hX CI_12 gx16 rfl fl_X12_50 rfl dX12_copy_58 ?_
  obtain ⟨x17, wx17, gx17, h⟩ := d_bind h
  refine x_putI 61 hX CI_12 gx17 rfl fl_X12_50 rfl rfl rfl rfl dX12_copy_61 ?_
  refine w_aload_n 0 64 hX rfl rfl dX12_copy_64 ?_
  refine w_aload_n 1 65 hX rfl rfl dX12_copy_65 ?_
  obtain ⟨x18, gx18, h⟩ := d_rd h
  refine x_getI 66 hX CI_12 gx18 rfl fl_X12_53 rfl dX12_copy_66 ?_
  obtain ⟨x19, wx19, gx19, h⟩ := d_bind h
  refine x_putI 69 hX CI_12 gx19 rfl fl_X12_53 rfl rfl rfl rfl dX12_copy_69 ?_
  refine w_aload_n 0 72 hX rfl rfl dX12_copy_72 ?_
  refine w_aload_n 1 73 hX rfl rfl dX12_copy_73 ?_
  obtain ⟨x20, gx20, h⟩ := d_rd h
  refine x_getI 74 hX CI_12 gx20 rfl fl_X12_56 rfl dX12_copy_74 ?_
  obtain ⟨x21, wx21, gx21, h⟩ := d_bind h
  refine x_putI 77 hX CI_12 gx21 rfl fl_X12_56 rfl rfl rfl rfl dX12_copy_77 ?_
  refine w_aload_n 0 80 hX rfl rfl dX12_copy_80 ?_
  refine w_aload_n 1 81 hX rfl rfl dX12_copy_81 ?_
  obtain ⟨x22, gx22, h⟩ := d_rd h
  refine x_getI 82 hX CI_12 gx22 rfl fl_X12_59 rfl dX12_copy_82 ?_
  obtain ⟨x23, wx23, gx23, h⟩ := d_bind h
  refine x_putI 85 hX CI_12 gx23 rfl fl_X12_59 rfl rfl rfl rfl dX12_copy_85 ?_
  refine w_aload_n 0 88 hX rfl rfl dX12_copy_88 ?_
  refine w_aload_n 1 89 hX rfl rfl dX12_copy_89 ?_
  obtain ⟨x24, gx24, h⟩ := d_rd h
  refine x_getI 90 hX CI_12 gx24 rfl fl_X12_62 rfl dX12_copy_90 ?_
  obtain ⟨x25, wx25, gx25, h⟩ := d_bind h
  refine x_putI 93 hX CI_12 gx25 rfl fl_X12_62 rfl rfl rfl rfl dX12_copy_93 ?_
  refine w_aload_n 0 96 hX rfl rfl dX12_copy_96 ?_
  refine w_aload_n 1 97 hX rfl rfl dX12_copy_97 ?_
  obtain ⟨x26, gx26, h⟩ := d_rd h
  refine x_getR 98 hX CI_12 gx26 rfl fl_X12_19 rfl dX12_copy_98 ?_
  obtain ⟨x27, wx27, gx27, h⟩ := d_bind h
  refine x_cloneI 101 hX gx27 clkI_X12_65 clwI_1 clw_2 clw_3 clwI_4 clwI_5 (by decide) (Nat.le_of_ble_eq_true rfl) (d_le h) dX12_copy_101 ?_
  obtain ⟨x28, gx28, h⟩ := d_rd h
  refine x_castI 104 hX gx28 cl_X12_29 dX12_copy_104 ?_
  obtain ⟨x29, wx29, gx29, h⟩ := d_bind h
  refine x_putO (some x27) 107 hX CI_12 gx29 rfl fl_X12_19 rfl rfl (fun o => by cases o <;> rfl) (fun o => by cases o <;> rfl) dX12_copy_107 ?_
  refine w_aload_n 0 110 hX rfl rfl dX12_copy_110 ?_
  refine w_aload_n 1 111 hX rfl rfl dX12_copy_111 ?_
  obtain ⟨x30, gx30, h⟩ := d_rd h
  refine x_getR 112 hX CI_12 gx30 rfl fl_X12_23 rfl dX12_copy_112 ?_
  obtain ⟨x31, wx31, gx31, h⟩ := d_bind h
  refine x_putO (some x30) 115 hX CI_12 gx31 rfl fl_X12_23 rfl rfl (fun o => by cases o <;> rfl) (fun o => by cases o <;> rfl) dX12_copy_115 ?_
  refine w_aload_n 0 118 hX rfl rfl dX12_copy_118 ?_
  refine w_aload_n 1 119 hX rfl rfl dX12_copy_119 ?_
  obtain ⟨x32, gx32, h⟩ := d_rd h
  refine x_getR 120 hX CI_12 gx32 rfl fl_X12_26 rfl dX12_copy_120 ?_
  obtain ⟨x33, wx33, gx33, h⟩ := d_bind h
  refine x_putO (some x32) 123 hX CI_12 gx33 rfl fl_X12_26 rfl rfl (fun o => by cases o <;> rfl) (fun o => by cases o <;> rfl) dX12_copy_123 ?_
  refine w_aload_n 0 126 hX rfl rfl dX12_copy_126 ?_
  refine w_aload_n 1 127 hX rfl rfl dX12_copy_127 ?_
  obtain ⟨x34, gx34, h⟩ := d_rd h
  refine x_getR 128 hX CI_12 gx34 rfl fl_X12_37 rfl dX12_copy_128 ?_
  obtain ⟨x35, wx35, gx35, h⟩ := d_bind h
  refine x_putO (some x34) 131 hX CI_12 gx35 rfl fl_X12_37 rfl rfl (fun o => by cases o <;> rfl) (fun o => by cases o <;> rfl) dX12_copy_131 ?_
  refine w_aload_n 0 134 hX rfl rfl dX12_copy_134 ?_
  refine w_aload_n 1 135 hX rfl rfl dX12_copy_135 ?_
  obtain ⟨x36, gx36, h⟩ := d_rd h
  refine x_getO 136 hX CI_12 gx36 rfl fl_X12_69 rfl dX12_copy_136 ?_
  rcases x36 with _ | r37
  · have h := dopt_n h
    obtain ⟨x38, wx38, gx38, h⟩ := d_bind h
    refine x_putO none 139 hX CI_12 gx38 rfl fl_X12_69 rfl rfl (fun o => by cases o <;> rfl) (fun o => by cases o <;> rfl) dX12_copy_139 ?_
    refine w_iconst 0 142 hX ic_0 dX12_copy_142 ?_
    refine w_istore_n (lv' := [(2, .int 0), (1, .ref x1), (0, .ref p0)]) 143 hX rfl dX12_copy_143 (by decide) rfl ?_
    exact w_sub [2, 1, 0] rfl (lDX12_copy_144 hX hR FU p0 x1 0 _ h)
  · have h := dopt_s h
    obtain ⟨x39, wx39, gx39, h⟩ := d_bind h
    refine x_putO (some r37) 139 hX CI_12 gx39 rfl fl_X12_69 rfl rfl (fun o => by cases o <;> rfl) (fun o => by cases o <;> rfl) dX12_copy_139 ?_
    refine w_iconst 0 142 hX ic_0 dX12_copy_142 ?_
    refine w_istore_n (lv' := [(2, .int 0), (1, .ref x1), (0, .ref p0)]) 143 hX rfl dX12_copy_143 (by decide) rfl ?_
    exact w_sub [2, 1, 0] rfl (lDX12_copy_144 hX hR FU p0 x1 0 _ h))
noncomputable def DX12_draw (p0 : Nat) (p1 : Int32) : Dm Int32 :=
  dbind (dread (gfI p0 12 0)) fun x1 => dbind (dput (pfI p0 12 0 ((1664525 * x1) + 1013904223))) fun _ => dbind (dread (gfI p0 12 0)) fun x3 => dbind (dlift (rmI (((x3 : Int32).toUInt32 >>> ((8 : Int32).toUInt32 &&& Int32.toUInt32 31)).toInt32) p1)) fun x4 => dret x4
theorem CDX12_draw {G : Gt} (p0 : Nat) (p1 : Int32) {w w' : Wd} {v : Int32} (h : (DX12_draw p0 p1).1 w = some (v, w')) : CN G yX12_draw cX12_draw 2 (some .int) 1 [.ref p0, .int p1] w (some (.int v)) w' :=
  cn_of (by decide) rfl (Nat.le_of_ble_eq_true rfl) (d_le h) (fun X hX _ hR => by
  unfold DX12_draw at h
  refine w_aload_n 0 0 hX rfl rfl dX12_draw_0 ?_
  refine w_ldc 1664525 1 hX cs_X12_72 dX12_draw_1 ?_
  refine w_aload_n 0 3 hX rfl rfl dX12_draw_3 ?_
  obtain ⟨x1, gx1, h⟩ := d_rd h
  refine x_getI 4 hX CI_12 gx1 rfl fl_X12_41 rfl dX12_draw_4 ?_
  refine w_imul 7 hX dX12_draw_7 ?_
  refine w_ldc 1013904223 8 hX cs_X12_73 dX12_draw_8 ?_
  refine w_iadd 10 hX dX12_draw_10 ?_
  obtain ⟨x2, wx2, gx2, h⟩ := d_bind h
  refine x_putI 11 hX CI_12 gx2 rfl fl_X12_41 rfl rfl rfl rfl dX12_draw_11 ?_
  refine w_aload_n 0 14 hX rfl rfl dX12_draw_14 ?_
  obtain ⟨x3, gx3, h⟩ := d_rd h
  refine x_getI 15 hX CI_12 gx3 rfl fl_X12_41 rfl dX12_draw_15 ?_
  refine w_bipush 8 18 hX ib_8 dX12_draw_18 ?_
  refine w_iushr 20 hX dX12_draw_20 ?_
  refine w_iload_n 1 21 hX rfl rfl dX12_draw_21 ?_
  obtain ⟨x4, gx4, h⟩ := d_lf h
  obtain ⟨qx4, jx4⟩ := rmI_ok gx4
  refine w_irem 22 hX qx4 dX12_draw_22 ?_
  rw [jx4]
  obtain ⟨rfl, rfl⟩ := d_ret h
  exact w_iret 23 hX hR dX12_draw_23 rfl)
noncomputable def DX12_is (p0 : Nat) (p1 : Int32) (p2 : Int32) (p3 : Int32) : Dm Int32 :=
  dbind (dread (gfR p0 12 16)) fun x1 => dbind (dread (aald x1 p1)) fun x2 => dbind (dread (iald x2 0)) fun x3 => (if x3 = p2 then (dbind (dread (gfR p0 12 16)) fun x5 => dbind (dread (aald x5 p1)) fun x6 => dbind (dread (iald x6 6)) fun x7 => (if x7 = p3 then (dret 1) else (dret 0))) else (dret 0))
theorem CDX12_is {G : Gt} (p0 : Nat) (p1 : Int32) (p2 : Int32) (p3 : Int32) {w w' : Wd} {v : Int32} (h : (DX12_is p0 p1 p2 p3).1 w = some (v, w')) : CN G yX12_is cX12_is 4 (some .boolean) 1 [.ref p0, .int p1, .int p2, .int p3] w (some (.int v)) w' :=
  cn_of (by decide) rfl (Nat.le_of_ble_eq_true rfl) (d_le h) (fun X hX _ hR => by
  unfold DX12_is at h
  refine w_aload_n 0 0 hX rfl rfl dX12_is_0 ?_
  obtain ⟨x1, gx1, h⟩ := d_rd h
  refine x_getR 1 hX CI_12 gx1 rfl fl_X12_30 rfl dX12_is_1 ?_
  refine w_iload_n 1 4 hX rfl rfl dX12_is_4 ?_
  obtain ⟨x2, gx2, h⟩ := d_rd h
  refine x_aald 5 hX gx2 dX12_is_5 ?_
  refine w_iconst 0 6 hX ic_0 dX12_is_6 ?_
  obtain ⟨x3, gx3, h⟩ := d_rd h
  refine x_iald 7 hX gx3 dX12_is_7 ?_
  refine w_iload_n 2 8 hX rfl rfl dX12_is_8 ?_
  refine w_icmp_ne (tgt := 29) 9 hX dX12_is_9 (by decide) (fun c4 => ?_) (fun c4 => ?_)
  · have h := die h c4
    refine w_iconst 0 29 hX ic_0 dX12_is_29 ?_
    obtain ⟨rfl, rfl⟩ := d_ret h
    exact w_zret 30 hX hR (by decide) dX12_is_30 rfl
  · have h := dit h c4
    refine w_aload_n 0 12 hX rfl rfl dX12_is_12 ?_
    obtain ⟨x5, gx5, h⟩ := d_rd h
    refine x_getR 13 hX CI_12 gx5 rfl fl_X12_30 rfl dX12_is_13 ?_
    refine w_iload_n 1 16 hX rfl rfl dX12_is_16 ?_
    obtain ⟨x6, gx6, h⟩ := d_rd h
    refine x_aald 17 hX gx6 dX12_is_17 ?_
    refine w_bipush 6 18 hX ib_6 dX12_is_18 ?_
    obtain ⟨x7, gx7, h⟩ := d_rd h
    refine x_iald 20 hX gx7 dX12_is_20 ?_
    refine w_iload_n 3 21 hX rfl rfl dX12_is_21 ?_
    refine w_icmp_ne (tgt := 29) 22 hX dX12_is_22 (by decide) (fun c8 => ?_) (fun c8 => ?_)
    · have h := die h c8
      refine w_iconst 0 29 hX ic_0 dX12_is_29 ?_
      obtain ⟨rfl, rfl⟩ := d_ret h
      exact w_zret 30 hX hR (by decide) dX12_is_30 rfl
    · have h := dit h c8
      refine w_iconst 1 25 hX ic_1 dX12_is_25 ?_
      refine w_goto (tgt := 30) 26 hX (by decide) dX12_is_26 ?_
      obtain ⟨rfl, rfl⟩ := d_ret h
      exact w_zret 30 hX hR (by decide) dX12_is_30 rfl)
noncomputable def DX12_field_b25 (k4 : Nat → Int32 → Int32 → Int32 → Dm Int32) (l0 : Nat) (l1 : Int32) (l2 : Int32) (l3 : Int32) : Dm Int32 :=
  k4 l0 l1 l2 (l3 + 1)
theorem bDX12_field_25 {G : Gt} {X : Xt} {w' : Wd} {v : Int32} (hX : CxOk G X cX12_field 4 RX12 (some (.int v), w'.1, w'.2.1, w'.2.2) 2) (hR : CxRet G X (some .int) (some (.int v), w'.1, w'.2.1, w'.2.2)) {k4 : Nat → Int32 → Int32 → Int32 → Dm Int32} (hk4 : ∀ (l0 : Nat) (l1 : Int32) (l2 : Int32) (l3 : Int32) (w : Wd), (k4 l0 l1 l2 l3).1 w = some (v, w') → WM G X 4 [(0, .ref l0), (1, .int l1), (2, .int l2), (3, .int l3)] [] w.1 w.2.1 w.2.2) (l0 : Nat) (l1 : Int32) (l2 : Int32) (l3 : Int32) (w : Wd) (h : (DX12_field_b25 k4 l0 l1 l2 l3).1 w = some (v, w')) : WM G X 25 [(0, .ref l0), (1, .int l1), (2, .int l2), (3, .int l3)] [] w.1 w.2.1 w.2.2 := by
  unfold DX12_field_b25 at h
  refine w_iinc (lv' := [(3, .int (l3 + 1)), (0, .ref l0), (1, .int l1), (2, .int l2)]) 25 3 hX dX12_field_25 rfl (inc_1 _) (by decide) rfl ?_
  refine w_goto (tgt := 4) 28 hX (by decide) dX12_field_28 ?_
  exact w_sub [1, 2, 3, 0] rfl (hk4 l0 l1 l2 (l3 + 1) _ h)
noncomputable def DX12_field_b4 (k4 : Nat → Int32 → Int32 → Int32 → Dm Int32) (l0 : Nat) (l1 : Int32) (l2 : Int32) (l3 : Int32) : Dm Int32 :=
  dbind (dread (gfI l0 12 6)) fun x1 => (if x1 ≤ l3 then (dret l2) else (dbind (dread (isC l0 12)) fun x3 => dbind (DX12_is l0 l3 l1 1) fun x4 => (if x4 = 0 then (DX12_field_b25 k4 l0 l1 l2 l3) else (DX12_field_b25 k4 l0 l1 (l2 + 1) l3))))
theorem bDX12_field_4 {G : Gt} {X : Xt} {w' : Wd} {v : Int32} (hX : CxOk G X cX12_field 4 RX12 (some (.int v), w'.1, w'.2.1, w'.2.2) 2) (hR : CxRet G X (some .int) (some (.int v), w'.1, w'.2.1, w'.2.2)) {k4 : Nat → Int32 → Int32 → Int32 → Dm Int32} (hk4 : ∀ (l0 : Nat) (l1 : Int32) (l2 : Int32) (l3 : Int32) (w : Wd), (k4 l0 l1 l2 l3).1 w = some (v, w') → WM G X 4 [(0, .ref l0), (1, .int l1), (2, .int l2), (3, .int l3)] [] w.1 w.2.1 w.2.2) (l0 : Nat) (l1 : Int32) (l2 : Int32) (l3 : Int32) (w : Wd) (h : (DX12_field_b4 k4 l0 l1 l2 l3).1 w = some (v, w')) : WM G X 4 [(0, .ref l0), (1, .int l1), (2, .int l2), (3, .int l3)] [] w.1 w.2.1 w.2.2 := by
  unfold DX12_field_b4 at h
  refine w_iload_n 3 4 hX rfl rfl dX12_field_4 ?_
  refine w_aload_n 0 5 hX rfl rfl dX12_field_5 ?_
  obtain ⟨x1, gx1, h⟩ := d_rd h
  refine x_getI 6 hX CI_12 gx1 rfl fl_X12_50 rfl dX12_field_6 ?_
  refine w_icmp_ge (tgt := 31) 9 hX dX12_field_9 (by decide) (fun c2 => ?_) (fun c2 => ?_)
  · have h := dit h c2
    refine w_iload_n 2 31 hX rfl rfl dX12_field_31 ?_
    obtain ⟨rfl, rfl⟩ := d_ret h
    exact w_iret 32 hX hR dX12_field_32 rfl
  · have h := die h c2
    refine w_aload_n 0 12 hX rfl rfl dX12_field_12 ?_
    refine w_iload_n 3 13 hX rfl rfl dX12_field_13 ?_
    refine w_iload_n 1 14 hX rfl rfl dX12_field_14 ?_
    refine w_iconst 1 15 hX ic_1 dX12_field_15 ?_
    obtain ⟨x3, gx3, h⟩ := d_rd h
    obtain ⟨x4, wx4, gx4, h⟩ := d_bind h
    refine w_invVi (av := [.int l3, .int l1, .int 1]) (st := []) 16 hX CI_12 (isC_ok gx3) rfl mv_yX12_is mi_yX12_is ml_X12_93 (CDX12_is l0 l3 l1 1 gx4) rfl (by decide) (Nat.le_of_ble_eq_true rfl) (d_le h).1 (d_le h).2 dX12_field_16 ?_
    refine w_if_eq (tgt := 25) 19 hX dX12_field_19 (by decide) (fun c5 => ?_) (fun c5 => ?_)
    · have h := dit h c5
      exact bDX12_field_25 hX hR hk4 l0 l1 l2 l3 _ h
    · have h := die h c5
      refine w_iinc (lv' := [(2, .int (l2 + 1)), (0, .ref l0), (1, .int l1), (3, .int l3)]) 22 2 hX dX12_field_22 rfl (inc_1 _) (by decide) rfl ?_
      exact w_sub [1, 2, 0, 3] rfl (bDX12_field_25 hX hR hk4 l0 l1 (l2 + 1) l3 _ h)
noncomputable def DX12_field_L4 : Nat → Nat → Int32 → Int32 → Int32 → Dm Int32
  | 0, _, _, _, _ => dno
  | n + 1, l0, l1, l2, l3 => DX12_field_b4 (DX12_field_L4 n) l0 l1 l2 l3
theorem lDX12_field_4 {G : Gt} {X : Xt} {w' : Wd} {v : Int32} (hX : CxOk G X cX12_field 4 RX12 (some (.int v), w'.1, w'.2.1, w'.2.2) 2) (hR : CxRet G X (some .int) (some (.int v), w'.1, w'.2.1, w'.2.2)) : ∀ (n : Nat) (l0 : Nat) (l1 : Int32) (l2 : Int32) (l3 : Int32) (w : Wd), (DX12_field_L4 n l0 l1 l2 l3).1 w = some (v, w') → WM G X 4 [(0, .ref l0), (1, .int l1), (2, .int l2), (3, .int l3)] [] w.1 w.2.1 w.2.2 := by
  intro n
  induction n with
  | zero =>
    intro l0 l1 l2 l3 w h
    exact dn_ h
  | succ n ih =>
    intro l0 l1 l2 l3 w h
    exact bDX12_field_4 hX hR ih l0 l1 l2 l3 w h
noncomputable def DX12_field (p0 : Nat) (p1 : Int32) : Dm Int32 :=
  DX12_field_L4 FU p0 p1 0 0
theorem CDX12_field {G : Gt} (p0 : Nat) (p1 : Int32) {w w' : Wd} {v : Int32} (h : (DX12_field p0 p1).1 w = some (v, w')) : CN G yX12_field cX12_field 4 (some .int) 2 [.ref p0, .int p1] w (some (.int v)) w' :=
  cn_of (by decide) rfl (Nat.le_of_ble_eq_true rfl) (d_le h) (fun X hX _ hR => by
  unfold DX12_field at h
  refine w_iconst 0 0 hX ic_0 dX12_field_0 ?_
  refine w_istore_n (lv' := [(2, .int 0), (0, .ref p0), (1, .int p1)]) 1 hX rfl dX12_field_1 (by decide) rfl ?_
  refine w_iconst 0 2 hX ic_0 dX12_field_2 ?_
  refine w_istore_n (lv' := [(3, .int 0), (2, .int 0), (0, .ref p0), (1, .int p1)]) 3 hX rfl dX12_field_3 (by decide) rfl ?_
  exact w_sub [2, 3, 1, 0] rfl (lDX12_field_4 hX hR FU p0 p1 0 0 _ h))
noncomputable def DX12_knows_b35 (k4 : Nat → Int32 → Int32 → Int32 → Dm Int32) (l0 : Nat) (l1 : Int32) (l2 : Int32) (l3 : Int32) : Dm Int32 :=
  k4 l0 l1 l2 (l3 + 1)
theorem bDX12_knows_35 {G : Gt} {X : Xt} {w' : Wd} {v : Int32} (hX : CxOk G X cX12_knows 4 RX12 (some (.int v), w'.1, w'.2.1, w'.2.2) 1) (hR : CxRet G X (some .int) (some (.int v), w'.1, w'.2.1, w'.2.2)) {k4 : Nat → Int32 → Int32 → Int32 → Dm Int32} (hk4 : ∀ (l0 : Nat) (l1 : Int32) (l2 : Int32) (l3 : Int32) (w : Wd), (k4 l0 l1 l2 l3).1 w = some (v, w') → WM G X 4 [(0, .ref l0), (1, .int l1), (2, .int l2), (3, .int l3)] [] w.1 w.2.1 w.2.2) (l0 : Nat) (l1 : Int32) (l2 : Int32) (l3 : Int32) (w : Wd) (h : (DX12_knows_b35 k4 l0 l1 l2 l3).1 w = some (v, w')) : WM G X 35 [(0, .ref l0), (1, .int l1), (2, .int l2), (3, .int l3)] [] w.1 w.2.1 w.2.2 := by
  unfold DX12_knows_b35 at h
  refine w_iinc (lv' := [(3, .int (l3 + 1)), (0, .ref l0), (1, .int l1), (2, .int l2)]) 35 3 hX dX12_knows_35 rfl (inc_1 _) (by decide) rfl ?_
  refine w_goto (tgt := 4) 38 hX (by decide) dX12_knows_38 ?_
  exact w_sub [1, 2, 3, 0] rfl (hk4 l0 l1 l2 (l3 + 1) _ h)
noncomputable def DX12_knows_b4 (k4 : Nat → Int32 → Int32 → Int32 → Dm Int32) (l0 : Nat) (l1 : Int32) (l2 : Int32) (l3 : Int32) : Dm Int32 :=
  dbind (dread (gfI l0 12 6)) fun x1 => (if x1 ≤ l3 then (dret l2) else (dbind (dread (gfR l0 12 16)) fun x3 => dbind (dread (aald x3 l3)) fun x4 => dbind (dread (iald x4 0)) fun x5 => (if x5 = l1 then (dbind (dread (gfR l0 12 16)) fun x7 => dbind (dread (aald x7 l3)) fun x8 => dbind (dread (iald x8 4)) fun x9 => DX12_knows_b35 k4 l0 l1 (l2 ||| x9) l3) else (DX12_knows_b35 k4 l0 l1 l2 l3))))
theorem bDX12_knows_4 {G : Gt} {X : Xt} {w' : Wd} {v : Int32} (hX : CxOk G X cX12_knows 4 RX12 (some (.int v), w'.1, w'.2.1, w'.2.2) 1) (hR : CxRet G X (some .int) (some (.int v), w'.1, w'.2.1, w'.2.2)) {k4 : Nat → Int32 → Int32 → Int32 → Dm Int32} (hk4 : ∀ (l0 : Nat) (l1 : Int32) (l2 : Int32) (l3 : Int32) (w : Wd), (k4 l0 l1 l2 l3).1 w = some (v, w') → WM G X 4 [(0, .ref l0), (1, .int l1), (2, .int l2), (3, .int l3)] [] w.1 w.2.1 w.2.2) (l0 : Nat) (l1 : Int32) (l2 : Int32) (l3 : Int32) (w : Wd) (h : (DX12_knows_b4 k4 l0 l1 l2 l3).1 w = some (v, w')) : WM G X 4 [(0, .ref l0), (1, .int l1), (2, .int l2), (3, .int l3)] [] w.1 w.2.1 w.2.2 := by
  unfold DX12_knows_b4 at h
  refine w_iload_n 3 4 hX rfl rfl dX12_knows_4 ?_
  refine w_aload_n 0 5 hX rfl rfl dX12_knows_5 ?_
  obtain ⟨x1, gx1, h⟩ := d_rd h
  refine x_getI 6 hX CI_12 gx1 rfl fl_X12_50 rfl dX12_knows_6 ?_
  refine w_icmp_ge (tgt := 41) 9 hX dX12_knows_9 (by decide) (fun c2 => ?_) (fun c2 => ?_)
  · have h := dit h c2
    refine w_iload_n 2 41 hX rfl rfl dX12_knows_41 ?_
    obtain ⟨rfl, rfl⟩ := d_ret h
    exact w_iret 42 hX hR dX12_knows_42 rfl
  · have h := die h c2
    refine w_aload_n 0 12 hX rfl rfl dX12_knows_12 ?_
    obtain ⟨x3, gx3, h⟩ := d_rd h
    refine x_getR 13 hX CI_12 gx3 rfl fl_X12_30 rfl dX12_knows_13 ?_
    refine w_iload_n 3 16 hX rfl rfl dX12_knows_16 ?_
    obtain ⟨x4, gx4, h⟩ := d_rd h
    refine x_aald 17 hX gx4 dX12_knows_17 ?_
    refine w_iconst 0 18 hX ic_0 dX12_knows_18 ?_
    obtain ⟨x5, gx5, h⟩ := d_rd h
    refine x_iald 19 hX gx5 dX12_knows_19 ?_
    refine w_iload_n 1 20 hX rfl rfl dX12_knows_20 ?_
    refine w_icmp_ne (tgt := 35) 21 hX dX12_knows_21 (by decide) (fun c6 => ?_) (fun c6 => ?_)
    · have h := die h c6
      exact bDX12_knows_35 hX hR hk4 l0 l1 l2 l3 _ h
    · have h := dit h c6
      refine w_iload_n 2 24 hX rfl rfl dX12_knows_24 ?_
      refine w_aload_n 0 25 hX rfl rfl dX12_knows_25 ?_
      obtain ⟨x7, gx7, h⟩ := d_rd h
      refine x_getR 26 hX CI_12 gx7 rfl fl_X12_30 rfl dX12_knows_26 ?_
      refine w_iload_n 3 29 hX rfl rfl dX12_knows_29 ?_
      obtain ⟨x8, gx8, h⟩ := d_rd h
      refine x_aald 30 hX gx8 dX12_knows_30 ?_
      refine w_iconst 4 31 hX ic_4 dX12_knows_31 ?_
      obtain ⟨x9, gx9, h⟩ := d_rd h
      refine x_iald 32 hX gx9 dX12_knows_32 ?_
      refine w_ior 33 hX dX12_knows_33 ?_
      refine w_istore_n (lv' := [(2, .int (l2 ||| x9)), (0, .ref l0), (1, .int l1), (3, .int l3)]) 34 hX rfl dX12_knows_34 (by decide) rfl ?_
      exact w_sub [1, 2, 0, 3] rfl (bDX12_knows_35 hX hR hk4 l0 l1 (l2 ||| x9) l3 _ h)
noncomputable def DX12_knows_L4 : Nat → Nat → Int32 → Int32 → Int32 → Dm Int32
  | 0, _, _, _, _ => dno
  | n + 1, l0, l1, l2, l3 => DX12_knows_b4 (DX12_knows_L4 n) l0 l1 l2 l3
theorem lDX12_knows_4 {G : Gt} {X : Xt} {w' : Wd} {v : Int32} (hX : CxOk G X cX12_knows 4 RX12 (some (.int v), w'.1, w'.2.1, w'.2.2) 1) (hR : CxRet G X (some .int) (some (.int v), w'.1, w'.2.1, w'.2.2)) : ∀ (n : Nat) (l0 : Nat) (l1 : Int32) (l2 : Int32) (l3 : Int32) (w : Wd), (DX12_knows_L4 n l0 l1 l2 l3).1 w = some (v, w') → WM G X 4 [(0, .ref l0), (1, .int l1), (2, .int l2), (3, .int l3)] [] w.1 w.2.1 w.2.2 := by
  intro n
  induction n with
  | zero =>
    intro l0 l1 l2 l3 w h
    exact dn_ h
  | succ n ih =>
    intro l0 l1 l2 l3 w h
    exact bDX12_knows_4 hX hR ih l0 l1 l2 l3 w h
noncomputable def DX12_knows (p0 : Nat) (p1 : Int32) : Dm Int32 :=
  DX12_knows_L4 FU p0 p1 0 0
theorem CDX12_knows {G : Gt} (p0 : Nat) (p1 : Int32) {w w' : Wd} {v : Int32} (h : (DX12_knows p0 p1).1 w = some (v, w')) : CN G yX12_knows cX12_knows 4 (some .int) 1 [.ref p0, .int p1] w (some (.int v)) w' :=
  cn_of (by decide) rfl (Nat.le_of_ble_eq_true rfl) (d_le h) (fun X hX _ hR => by
  unfold DX12_knows at h
  refine w_iconst 0 0 hX ic_0 dX12_knows_0 ?_
  refine w_istore_n (lv' := [(2, .int 0), (0, .ref p0), (1, .int p1)]) 1 hX rfl dX12_knows_1 (by decide) rfl ?_
  refine w_iconst 0 2 hX ic_0 dX12_knows_2 ?_
  refine w_istore_n (lv' := [(3, .int 0), (2, .int 0), (0, .ref p0), (1, .int p1)]) 3 hX rfl dX12_knows_3 (by decide) rfl ?_
  exact w_sub [2, 3, 1, 0] rfl (lDX12_knows_4 hX hR FU p0 p1 0 0 _ h))
noncomputable def DX12_weighs_b28 (k4 : Nat → Int32 → Int32 → Int32 → Dm Int32) (l0 : Nat) (l1 : Int32) (l2 : Int32) (l3 : Int32) : Dm Int32 :=
  k4 l0 l1 l2 (l3 + 1)
theorem bDX12_weighs_28 {G : Gt} {X : Xt} {w' : Wd} {v : Int32} (hX : CxOk G X cX12_weighs 4 RX12 (some (.int v), w'.1, w'.2.1, w'.2.2) 1) (hR : CxRet G X (some .int) (some (.int v), w'.1, w'.2.1, w'.2.2)) {k4 : Nat → Int32 → Int32 → Int32 → Dm Int32} (hk4 : ∀ (l0 : Nat) (l1 : Int32) (l2 : Int32) (l3 : Int32) (w : Wd), (k4 l0 l1 l2 l3).1 w = some (v, w') → WM G X 4 [(0, .ref l0), (1, .int l1), (2, .int l2), (3, .int l3)] [] w.1 w.2.1 w.2.2) (l0 : Nat) (l1 : Int32) (l2 : Int32) (l3 : Int32) (w : Wd) (h : (DX12_weighs_b28 k4 l0 l1 l2 l3).1 w = some (v, w')) : WM G X 28 [(0, .ref l0), (1, .int l1), (2, .int l2), (3, .int l3)] [] w.1 w.2.1 w.2.2 := by
  unfold DX12_weighs_b28 at h
  refine w_iinc (lv' := [(3, .int (l3 + 1)), (0, .ref l0), (1, .int l1), (2, .int l2)]) 28 3 hX dX12_weighs_28 rfl (inc_1 _) (by decide) rfl ?_
  refine w_goto (tgt := 4) 31 hX (by decide) dX12_weighs_31 ?_
  exact w_sub [1, 2, 3, 0] rfl (hk4 l0 l1 l2 (l3 + 1) _ h)
noncomputable def DX12_weighs_b4 (k4 : Nat → Int32 → Int32 → Int32 → Dm Int32) (l0 : Nat) (l1 : Int32) (l2 : Int32) (l3 : Int32) : Dm Int32 :=
  (if 8 ≤ l3 then (dret l2) else ((if ((l1 >>> (l3 &&& 31)) &&& 1) = 1 then (dbind (dread (gfR l0 12 15)) fun x3 => dbind (dread (iald x3 l3)) fun x4 => DX12_weighs_b28 k4 l0 l1 (l2 + x4) l3) else (DX12_weighs_b28 k4 l0 l1 l2 l3))))
theorem bDX12_weighs_4 {G : Gt} {X : Xt} {w' : Wd} {v : Int32} (hX : CxOk G X cX12_weighs 4 RX12 (some (.int v), w'.1, w'.2.1, w'.2.2) 1) (hR : CxRet G X (some .int) (some (.int v), w'.1, w'.2.1, w'.2.2)) {k4 : Nat → Int32 → Int32 → Int32 → Dm Int32} (hk4 : ∀ (l0 : Nat) (l1 : Int32) (l2 : Int32) (l3 : Int32) (w : Wd), (k4 l0 l1 l2 l3).1 w = some (v, w') → WM G X 4 [(0, .ref l0), (1, .int l1), (2, .int l2), (3, .int l3)] [] w.1 w.2.1 w.2.2) (l0 : Nat) (l1 : Int32) (l2 : Int32) (l3 : Int32) (w : Wd) (h : (DX12_weighs_b4 k4 l0 l1 l2 l3).1 w = some (v, w')) : WM G X 4 [(0, .ref l0), (1, .int l1), (2, .int l2), (3, .int l3)] [] w.1 w.2.1 w.2.2 := by
  unfold DX12_weighs_b4 at h
  refine w_iload_n 3 4 hX rfl rfl dX12_weighs_4 ?_
  refine w_bipush 8 5 hX ib_8 dX12_weighs_5 ?_
  refine w_icmp_ge (tgt := 34) 7 hX dX12_weighs_7 (by decide) (fun c1 => ?_) (fun c1 => ?_)
  · have h := dit h c1
    refine w_iload_n 2 34 hX rfl rfl dX12_weighs_34 ?_
    obtain ⟨rfl, rfl⟩ := d_ret h
    exact w_iret 35 hX hR dX12_weighs_35 rfl
  · have h := die h c1
    refine w_iload_n 1 10 hX rfl rfl dX12_weighs_10 ?_
    refine w_iload_n 3 11 hX rfl rfl dX12_weighs_11 ?_
    refine w_ishr 12 hX dX12_weighs_12 ?_
    refine w_iconst 1 13 hX ic_1 dX12_weighs_13 ?_
    refine w_iand 14 hX dX12_weighs_14 ?_
    refine w_iconst 1 15 hX ic_1 dX12_weighs_15 ?_
    refine w_icmp_ne (tgt := 28) 16 hX dX12_weighs_16 (by decide) (fun c2 => ?_) (fun c2 => ?_)
    · have h := die h c2
      exact bDX12_weighs_28 hX hR hk4 l0 l1 l2 l3 _ h
    · have h := dit h c2
      refine w_iload_n 2 19 hX rfl rfl dX12_weighs_19 ?_
      refine w_aload_n 0 20 hX rfl rfl dX12_weighs_20 ?_
      obtain ⟨x3, gx3, h⟩ := d_rd h
      refine x_getR 21 hX CI_12 gx3 rfl fl_X12_26 rfl dX12_weighs_21 ?_
      refine w_iload_n 3 24 hX rfl rfl dX12_weighs_24 ?_
      obtain ⟨x4, gx4, h⟩ := d_rd h
      refine x_iald 25 hX gx4 dX12_weighs_25 ?_
      refine w_iadd 26 hX dX12_weighs_26 ?_
      refine w_istore_n (lv' := [(2, .int (l2 + x4)), (0, .ref l0), (1, .int l1), (3, .int l3)]) 27 hX rfl dX12_weighs_27 (by decide) rfl ?_
      exact w_sub [1, 2, 0, 3] rfl (bDX12_weighs_28 hX hR hk4 l0 l1 (l2 + x4) l3 _ h)
noncomputable def DX12_weighs_L4 : Nat → Nat → Int32 → Int32 → Int32 → Dm Int32
  | 0, _, _, _, _ => dno
  | n + 1, l0, l1, l2, l3 => DX12_weighs_b4 (DX12_weighs_L4 n) l0 l1 l2 l3
theorem lDX12_weighs_4 {G : Gt} {X : Xt} {w' : Wd} {v : Int32} (hX : CxOk G X cX12_weighs 4 RX12 (some (.int v), w'.1, w'.2.1, w'.2.2) 1) (hR : CxRet G X (some .int) (some (.int v), w'.1, w'.2.1, w'.2.2)) : ∀ (n : Nat) (l0 : Nat) (l1 : Int32) (l2 : Int32) (l3 : Int32) (w : Wd), (DX12_weighs_L4 n l0 l1 l2 l3).1 w = some (v, w') → WM G X 4 [(0, .ref l0), (1, .int l1), (2, .int l2), (3, .int l3)] [] w.1 w.2.1 w.2.2 := by
  intro n
  induction n with
  | zero =>
    intro l0 l1 l2 l3 w h
    exact dn_ h
  | succ n ih =>
    intro l0 l1 l2 l3 w h
    exact bDX12_weighs_4 hX hR ih l0 l1 l2 l3 w h
noncomputable def DX12_weighs (p0 : Nat) (p1 : Int32) : Dm Int32 :=
  DX12_weighs_L4 FU p0 p1 0 0
theorem CDX12_weighs {G : Gt} (p0 : Nat) (p1 : Int32) {w w' : Wd} {v : Int32} (h : (DX12_weighs p0 p1).1 w = some (v, w')) : CN G yX12_weighs cX12_weighs 4 (some .int) 1 [.ref p0, .int p1] w (some (.int v)) w' :=
  cn_of (by decide) rfl (Nat.le_of_ble_eq_true rfl) (d_le h) (fun X hX _ hR => by
  unfold DX12_weighs at h
  refine w_iconst 0 0 hX ic_0 dX12_weighs_0 ?_
  refine w_istore_n (lv' := [(2, .int 0), (0, .ref p0), (1, .int p1)]) 1 hX rfl dX12_weighs_1 (by decide) rfl ?_
  refine w_iconst 0 2 hX ic_0 dX12_weighs_2 ?_
  refine w_istore_n (lv' := [(3, .int 0), (2, .int 0), (0, .ref p0), (1, .int p1)]) 3 hX rfl dX12_weighs_3 (by decide) rfl ?_
  exact w_sub [2, 3, 1, 0] rfl (lDX12_weighs_4 hX hR FU p0 p1 0 0 _ h))
noncomputable def DX12_rests_b57 (k8 : Nat → Int32 → Int32 → Dm Int32) (l0 : Nat) (l1 : Int32) (l2 : Int32) : Dm Int32 :=
  k8 l0 l1 (l2 + (-1))
theorem bDX12_rests_57 {G : Gt} {X : Xt} {w' : Wd} {v : Int32} (hX : CxOk G X cX12_rests 3 RX12 (some (.int v), w'.1, w'.2.1, w'.2.2) 1) (hR : CxRet G X (some .boolean) (some (.int v), w'.1, w'.2.1, w'.2.2)) {k8 : Nat → Int32 → Int32 → Dm Int32} (hk8 : ∀ (l0 : Nat) (l1 : Int32) (l2 : Int32) (w : Wd), (k8 l0 l1 l2).1 w = some (v, w') → WM G X 8 [(0, .ref l0), (1, .int l1), (2, .int l2)] [] w.1 w.2.1 w.2.2) (l0 : Nat) (l1 : Int32) (l2 : Int32) (w : Wd) (h : (DX12_rests_b57 k8 l0 l1 l2).1 w = some (v, w')) : WM G X 57 [(0, .ref l0), (1, .int l1), (2, .int l2)] [] w.1 w.2.1 w.2.2 := by
  unfold DX12_rests_b57 at h
  refine w_iinc (lv' := [(2, .int (l2 + (-1))), (0, .ref l0), (1, .int l1)]) 57 2 hX dX12_rests_57 rfl (inc_m1 _) (by decide) rfl ?_
  refine w_goto (tgt := 8) 60 hX (by decide) dX12_rests_60 ?_
  exact w_sub [1, 2, 0] rfl (hk8 l0 l1 (l2 + (-1)) _ h)
noncomputable def DX12_rests_b8 (k8 : Nat → Int32 → Int32 → Dm Int32) (l0 : Nat) (l1 : Int32) (l2 : Int32) : Dm Int32 :=
  (if l2 < 0 then (dret 0) else (dbind (dread (gfR l0 12 18)) fun x2 => dbind (dread (aald x2 l2)) fun x3 => dbind (dread (iald x3 0)) fun x4 => dbind (dread (gfI l0 12 1)) fun x5 => (if x4 = x5 then (dbind (dread (gfR l0 12 18)) fun x7 => dbind (dread (aald x7 l2)) fun x8 => dbind (dread (iald x8 2)) fun x9 => (if x9 = l1 then (dbind (dread (gfR l0 12 18)) fun x11 => dbind (dread (aald x11 l2)) fun x12 => dbind (dread (iald x12 1)) fun x13 => (if x13 = 1 then (dret 1) else (dret 0))) else (DX12_rests_b57 k8 l0 l1 l2))) else (DX12_rests_b57 k8 l0 l1 l2))))
theorem bDX12_rests_8 {G : Gt} {X : Xt} {w' : Wd} {v : Int32} (hX : CxOk G X cX12_rests 3 RX12 (some (.int v), w'.1, w'.2.1, w'.2.2) 1) (hR : CxRet G X (some .boolean) (some (.int v), w'.1, w'.2.1, w'.2.2)) {k8 : Nat → Int32 → Int32 → Dm Int32} (hk8 : ∀ (l0 : Nat) (l1 : Int32) (l2 : Int32) (w : Wd), (k8 l0 l1 l2).1 w = some (v, w') → WM G X 8 [(0, .ref l0), (1, .int l1), (2, .int l2)] [] w.1 w.2.1 w.2.2) (l0 : Nat) (l1 : Int32) (l2 : Int32) (w : Wd) (h : (DX12_rests_b8 k8 l0 l1 l2).1 w = some (v, w')) : WM G X 8 [(0, .ref l0), (1, .int l1), (2, .int l2)] [] w.1 w.2.1 w.2.2 := by
  unfold DX12_rests_b8 at h
  refine w_iload_n 2 8 hX rfl rfl dX12_rests_8 ?_
  refine w_if_lt (tgt := 63) 9 hX dX12_rests_9 (by decide) (fun c1 => ?_) (fun c1 => ?_)
  · have h := dit h c1
    refine w_iconst 0 63 hX ic_0 dX12_rests_63 ?_
    obtain ⟨rfl, rfl⟩ := d_ret h
    exact w_zret 64 hX hR (by decide) dX12_rests_64 rfl
  · have h := die h c1
    refine w_aload_n 0 12 hX rfl rfl dX12_rests_12 ?_
    obtain ⟨x2, gx2, h⟩ := d_rd h
    refine x_getR 13 hX CI_12 gx2 rfl fl_X12_37 rfl dX12_rests_13 ?_
    refine w_iload_n 2 16 hX rfl rfl dX12_rests_16 ?_
    obtain ⟨x3, gx3, h⟩ := d_rd h
    refine x_aald 17 hX gx3 dX12_rests_17 ?_
    refine w_iconst 0 18 hX ic_0 dX12_rests_18 ?_
    obtain ⟨x4, gx4, h⟩ := d_rd h
    refine x_iald 19 hX gx4 dX12_rests_19 ?_
    refine w_aload_n 0 20 hX rfl rfl dX12_rests_20 ?_
    obtain ⟨x5, gx5, h⟩ := d_rd h
    refine x_getI 21 hX CI_12 gx5 rfl fl_X12_44 rfl dX12_rests_21 ?_
    refine w_icmp_ne (tgt := 57) 24 hX dX12_rests_24 (by decide) (fun c6 => ?_) (fun c6 => ?_)
    · have h := die h c6
      exact bDX12_rests_57 hX hR hk8 l0 l1 l2 _ h
    · have h := dit h c6
      refine w_aload_n 0 27 hX rfl rfl dX12_rests_27 ?_
      obtain ⟨x7, gx7, h⟩ := d_rd h
      refine x_getR 28 hX CI_12 gx7 rfl fl_X12_37 rfl dX12_rests_28 ?_
      refine w_iload_n 2 31 hX rfl rfl dX12_rests_31 ?_
      obtain ⟨x8, gx8, h⟩ := d_rd h
      refine x_aald 32 hX gx8 dX12_rests_32 ?_
      refine w_iconst 2 33 hX ic_2 dX12_rests_33 ?_
      obtain ⟨x9, gx9, h⟩ := d_rd h
      refine x_iald 34 hX gx9 dX12_rests_34 ?_
      refine w_iload_n 1 35 hX rfl rfl dX12_rests_35 ?_
      refine w_icmp_ne (tgt := 57) 36 hX dX12_rests_36 (by decide) (fun c10 => ?_) (fun c10 => ?_)
      · have h := die h c10
        exact bDX12_rests_57 hX hR hk8 l0 l1 l2 _ h
      · have h := dit h c10
        refine w_aload_n 0 39 hX rfl rfl dX12_rests_39 ?_
        obtain ⟨x11, gx11, h⟩ := d_rd h
        refine x_getR 40 hX CI_12 gx11 rfl fl_X12_37 rfl dX12_rests_40 ?_
        refine w_iload_n 2 43 hX rfl rfl dX12_rests_43 ?_
        obtain ⟨x12, gx12, h⟩ := d_rd h
        refine x_aald 44 hX gx12 dX12_rests_44 ?_
        refine w_iconst 1 45 hX ic_1 dX12_rests_45 ?_
        obtain ⟨x13, gx13, h⟩ := d_rd h
        refine x_iald 46 hX gx13 dX12_rests_46 ?_
        refine w_iconst 1 47 hX ic_1 dX12_rests_47 ?_
        refine w_icmp_ne (tgt := 55) 48 hX dX12_rests_48 (by decide) (fun c14 => ?_) (fun c14 => ?_)
        · have h := die h c14
          refine w_iconst 0 55 hX ic_0 dX12_rests_55 ?_
          obtain ⟨rfl, rfl⟩ := d_ret h
          exact w_zret 56 hX hR (by decide) dX12_rests_56 rfl
        · have h := dit h c14
          refine w_iconst 1 51 hX ic_1 dX12_rests_51 ?_
          refine w_goto (tgt := 56) 52 hX (by decide) dX12_rests_52 ?_
          obtain ⟨rfl, rfl⟩ := d_ret h
          exact w_zret 56 hX hR (by decide) dX12_rests_56 rfl
noncomputable def DX12_rests_L8 : Nat → Nat → Int32 → Int32 → Dm Int32
  | 0, _, _, _ => dno
  | n + 1, l0, l1, l2 => DX12_rests_b8 (DX12_rests_L8 n) l0 l1 l2
theorem lDX12_rests_8 {G : Gt} {X : Xt} {w' : Wd} {v : Int32} (hX : CxOk G X cX12_rests 3 RX12 (some (.int v), w'.1, w'.2.1, w'.2.2) 1) (hR : CxRet G X (some .boolean) (some (.int v), w'.1, w'.2.1, w'.2.2)) : ∀ (n : Nat) (l0 : Nat) (l1 : Int32) (l2 : Int32) (w : Wd), (DX12_rests_L8 n l0 l1 l2).1 w = some (v, w') → WM G X 8 [(0, .ref l0), (1, .int l1), (2, .int l2)] [] w.1 w.2.1 w.2.2 := by
  intro n
  induction n with
  | zero =>
    intro l0 l1 l2 w h
    exact dn_ h
  | succ n ih =>
    intro l0 l1 l2 w h
    exact bDX12_rests_8 hX hR ih l0 l1 l2 w h
noncomputable def DX12_rests (p0 : Nat) (p1 : Int32) : Dm Int32 :=
  dbind (dread (gfR p0 12 18)) fun x1 => dbind (dread (alen x1)) fun x2 => DX12_rests_L8 FU p0 p1 (x2 - 1)
theorem CDX12_rests {G : Gt} (p0 : Nat) (p1 : Int32) {w w' : Wd} {v : Int32} (h : (DX12_rests p0 p1).1 w = some (v, w')) : CN G yX12_rests cX12_rests 3 (some .boolean) 1 [.ref p0, .int p1] w (some (.int v)) w' :=
  cn_of (by decide) rfl (Nat.le_of_ble_eq_true rfl) (d_le h) (fun X hX _ hR => by
  unfold DX12_rests at h
  refine w_aload_n 0 0 hX rfl rfl dX12_rests_0 ?_
  obtain ⟨x1, gx1, h⟩ := d_rd h
  refine x_getR 1 hX CI_12 gx1 rfl fl_X12_37 rfl dX12_rests_1 ?_
  obtain ⟨x2, gx2, h⟩ := d_rd h
  refine x_alen 4 hX gx2 dX12_rests_4 ?_
  refine w_iconst 1 5 hX ic_1 dX12_rests_5 ?_
  refine w_isub 6 hX dX12_rests_6 ?_
  refine w_istore_n (lv' := [(2, .int (x2 - 1)), (0, .ref p0), (1, .int p1)]) 7 hX rfl dX12_rests_7 (by decide) rfl ?_
  exact w_sub [1, 2, 0] rfl (lDX12_rests_8 hX hR FU p0 p1 (x2 - 1) _ h))
noncomputable def DX12_isSame_b409 (k409 : Nat → Nat → Int32 → Dm Int32) (l0 : Nat) (l2 : Nat) (l3 : Int32) : Dm Int32 :=
  (if 9 ≤ l3 then (dbind (dread (gfI l0 12 6)) fun x2 => dbind (dclW (fun u => FX11_of_0 x2 0 u)) fun x3 => (if x3 = (-2) then (dbind (dread (gfI l0 12 7)) fun x5 => dbind (dclR (fun u => FX11_book_0 x5 0 u)) fun x6 => (if x6 = (-2) then (dbind (dclR (fun u => FX11_look_0 10 u)) fun x8 => dbind (dread (gfI l0 12 9)) fun x9 => (if x8 = x9 then (dbind (dclR (fun u => FX11_look_0 12 u)) fun x11 => dbind (dread (gfI l0 12 10)) fun x12 => (if x11 = x12 then (dret 1) else (dret 0))) else (dret 0))) else (dret 0))) else (dret 0))) else (dbind (dclR (fun u => FX11_look_0 l3 u)) fun x14 => dbind (dread (iald l2 l3)) fun x15 => (if x14 = x15 then (k409 l0 l2 (l3 + 1)) else (dret 0))))
theorem bDX12_isSame_409 {G : Gt} {X : Xt} {w' : Wd} {v : Int32} (hX : CxOk G X cX12_isSame 5 RX12 (some (.int v), w'.1, w'.2.1, w'.2.2) 5) (hR : CxRet G X (some .boolean) (some (.int v), w'.1, w'.2.1, w'.2.2)) {k409 : Nat → Nat → Int32 → Dm Int32} (hk409 : ∀ (l0 : Nat) (l2 : Nat) (l3 : Int32) (w : Wd), (k409 l0 l2 l3).1 w = some (v, w') → WM G X 409 [(0, .ref l0), (1, .ref 0), (2, .ref l2), (3, .int l3)] [] w.1 w.2.1 w.2.2) (l0 : Nat) (l2 : Nat) (l3 : Int32) (w : Wd) (h : (DX12_isSame_b409 k409 l0 l2 l3).1 w = some (v, w')) : WM G X 409 [(0, .ref l0), (1, .ref 0), (2, .ref l2), (3, .int l3)] [] w.1 w.2.1 w.2.2 := by
  unfold DX12_isSame_b409 at h
  refine w_iload_n 3 409 hX rfl rfl dX12_isSame_409 ?_
  refine w_bipush 9 410 hX ib_9 dX12_isSame_410 ?_
  refine w_icmp_ge (tgt := 434) 412 hX dX12_isSame_412 (by decide) (fun c1 => ?_) (fun c1 => ?_)
  · have h := dit h c1
    refine w_aload_n 1 434 hX rfl rfl dX12_isSame_434 ?_
    refine w_aload_n 0 435 hX rfl rfl dX12_isSame_435 ?_
    obtain ⟨x2, gx2, h⟩ := d_rd h
    refine x_getI 436 hX CI_12 gx2 rfl fl_X12_50 rfl dX12_isSame_436 ?_
    refine w_iconst 0 439 hX ic_0 dX12_isSame_439 ?_
    obtain ⟨x3, wx3, gx3, h⟩ := d_bind h
    refine w_invVi (av := [.int x2, .int 0]) (st := []) 440 hX CI_11 (oks_0 (dcl_ok gx3).1) rfl mv_yX11_of mi_yX11_of ml_X12_138 (cs_W (fun G u g => CX11_of_0 (G := G) x2 0 _ g) gx3) rfl (by decide) (Nat.le_of_ble_eq_true rfl) (d_le h).1 (d_le h).2 dX12_isSame_440 ?_
    refine w_bipush (-2) 443 hX ib_m2 dX12_isSame_443 ?_
    refine w_icmp_ne (tgt := 492) 445 hX dX12_isSame_445 (by decide) (fun c4 => ?_) (fun c4 => ?_)
    · have h := die h c4
      refine w_iconst 0 492 hX ic_0 dX12_isSame_492 ?_
      obtain ⟨rfl, rfl⟩ := d_ret h
      exact w_zret 493 hX hR (by decide) dX12_isSame_493 rfl
    · have h := dit h c4
      refine w_aload_n 1 448 hX rfl rfl dX12_isSame_448 ?_
      refine w_aload_n 0 449 hX rfl rfl dX12_isSame_449 ?_
      obtain ⟨x5, gx5, h⟩ := d_rd h
      refine x_getI 450 hX CI_12 gx5 rfl fl_X12_53 rfl dX12_isSame_450 ?_
      refine w_iconst 0 453 hX ic_0 dX12_isSame_453 ?_
      obtain ⟨x6, wx6, gx6, h⟩ := d_bind h
      refine w_invVi (av := [.int x5, .int 0]) (st := []) 454 hX CI_11 (oks_0 (dcl_ok gx6).1) rfl mv_yX11_book mi_yX11_book ml_X12_148 (cs_R (fun G g => CX11_book_0 (G := G) x5 0 _ g) gx6) rfl (by decide) (Nat.le_of_ble_eq_true rfl) (d_le h).1 (d_le h).2 dX12_isSame_454 ?_
      refine w_bipush (-2) 457 hX ib_m2 dX12_isSame_457 ?_
      refine w_icmp_ne (tgt := 492) 459 hX dX12_isSame_459 (by decide) (fun c7 => ?_) (fun c7 => ?_)
      · have h := die h c7
        refine w_iconst 0 492 hX ic_0 dX12_isSame_492 ?_
        obtain ⟨rfl, rfl⟩ := d_ret h
        exact w_zret 493 hX hR (by decide) dX12_isSame_493 rfl
      · have h := dit h c7
        refine w_aload_n 1 462 hX rfl rfl dX12_isSame_462 ?_
        refine w_bipush 10 463 hX ib_10 dX12_isSame_463 ?_
        obtain ⟨x8, wx8, gx8, h⟩ := d_bind h
        refine w_invVi (av := [.int 10]) (st := []) 465 hX CI_11 (oks_0 (dcl_ok gx8).1) rfl mv_yX11_look mi_yX11_look ml_X12_151 (cs_R (fun G g => CX11_look_0 (G := G) 10 _ g) gx8) rfl (by decide) (Nat.le_of_ble_eq_true rfl) (d_le h).1 (d_le h).2 dX12_isSame_465 ?_
        refine w_aload_n 0 468 hX rfl rfl dX12_isSame_468 ?_
        obtain ⟨x9, gx9, h⟩ := d_rd h
        refine x_getI 469 hX CI_12 gx9 rfl fl_X12_59 rfl dX12_isSame_469 ?_
        refine w_icmp_ne (tgt := 492) 472 hX dX12_isSame_472 (by decide) (fun c10 => ?_) (fun c10 => ?_)
        · have h := die h c10
          refine w_iconst 0 492 hX ic_0 dX12_isSame_492 ?_
          obtain ⟨rfl, rfl⟩ := d_ret h
          exact w_zret 493 hX hR (by decide) dX12_isSame_493 rfl
        · have h := dit h c10
          refine w_aload_n 1 475 hX rfl rfl dX12_isSame_475 ?_
          refine w_bipush 12 476 hX ib_12 dX12_isSame_476 ?_
          obtain ⟨x11, wx11, gx11, h⟩ := d_bind h
          refine w_invVi (av := [.int 12]) (st := []) 478 hX CI_11 (oks_0 (dcl_ok gx11).1) rfl mv_yX11_look mi_yX11_look ml_X12_151 (cs_R (fun G g => CX11_look_0 (G := G) 12 _ g) gx11) rfl (by decide) (Nat.le_of_ble_eq_true rfl) (d_le h).1 (d_le h).2 dX12_isSame_478 ?_
          refine w_aload_n 0 481 hX rfl rfl dX12_isSame_481 ?_
          obtain ⟨x12, gx12, h⟩ := d_rd h
          refine x_getI 482 hX CI_12 gx12 rfl fl_X12_62 rfl dX12_isSame_482 ?_
          refine w_icmp_ne (tgt := 492) 485 hX dX12_isSame_485 (by decide) (fun c13 => ?_) (fun c13 => ?_)
          · have h := die h c13
            refine w_iconst 0 492 hX ic_0 dX12_isSame_492 ?_
            obtain ⟨rfl, rfl⟩ := d_ret h
            exact w_zret 493 hX hR (by decide) dX12_isSame_493 rfl
          · have h := dit h c13
            refine w_iconst 1 488 hX ic_1 dX12_isSame_488 ?_
            refine w_goto (tgt := 493) 489 hX (by decide) dX12_isSame_489 ?_
            obtain ⟨rfl, rfl⟩ := d_ret h
            exact w_zret 493 hX hR (by decide) dX12_isSame_493 rfl
  · have h := die h c1
    refine w_aload_n 1 415 hX rfl rfl dX12_isSame_415 ?_
    refine w_iload_n 3 416 hX rfl rfl dX12_isSame_416 ?_
    obtain ⟨x14, wx14, gx14, h⟩ := d_bind h
    refine w_invVi (av := [.int l3]) (st := []) 417 hX CI_11 (oks_0 (dcl_ok gx14).1) rfl mv_yX11_look mi_yX11_look ml_X12_151 (cs_R (fun G g => CX11_look_0 (G := G) l3 _ g) gx14) rfl (by decide) (Nat.le_of_ble_eq_true rfl) (d_le h).1 (d_le h).2 dX12_isSame_417 ?_
    refine w_aload_n 2 420 hX rfl rfl dX12_isSame_420 ?_
    refine w_iload_n 3 421 hX rfl rfl dX12_isSame_421 ?_
    obtain ⟨x15, gx15, h⟩ := d_rd h
    refine x_iald 422 hX gx15 dX12_isSame_422 ?_
    refine w_icmp_eq (tgt := 428) 423 hX dX12_isSame_423 (by decide) (fun c16 => ?_) (fun c16 => ?_)
    · have h := dit h c16
      refine w_iinc (lv' := [(3, .int (l3 + 1)), (0, .ref l0), (1, .ref 0), (2, .ref l2)]) 428 3 hX dX12_isSame_428 rfl (inc_1 _) (by decide) rfl ?_
      refine w_goto (tgt := 409) 431 hX (by decide) dX12_isSame_431 ?_
      exact w_sub [1, 2, 3, 0] rfl (hk409 l0 l2 (l3 + 1) _ h)
    · have h := die h c16
      refine w_iconst 0 426 hX ic_0 dX12_isSame_426 ?_
      obtain ⟨rfl, rfl⟩ := d_ret h
      exact w_zret 427 hX hR (by decide) dX12_isSame_427 rfl
noncomputable def DX12_isSame_L409 : Nat → Nat → Nat → Int32 → Dm Int32
  | 0, _, _, _ => dno
  | n + 1, l0, l2, l3 => DX12_isSame_b409 (DX12_isSame_L409 n) l0 l2 l3
theorem lDX12_isSame_409 {G : Gt} {X : Xt} {w' : Wd} {v : Int32} (hX : CxOk G X cX12_isSame 5 RX12 (some (.int v), w'.1, w'.2.1, w'.2.2) 5) (hR : CxRet G X (some .boolean) (some (.int v), w'.1, w'.2.1, w'.2.2)) : ∀ (n : Nat) (l0 : Nat) (l2 : Nat) (l3 : Int32) (w : Wd), (DX12_isSame_L409 n l0 l2 l3).1 w = some (v, w') → WM G X 409 [(0, .ref l0), (1, .ref 0), (2, .ref l2), (3, .int l3)] [] w.1 w.2.1 w.2.2 := by
  intro n
  induction n with
  | zero =>
    intro l0 l2 l3 w h
    exact dn_ h
  | succ n ih =>
    intro l0 l2 l3 w h
    exact bDX12_isSame_409 hX hR ih l0 l2 l3 w h
noncomputable def DX12_isSame_b300 (k290 : Nat → Int32 → Dm Int32) (k300 : Nat → Int32 → Int32 → Dm Int32) (l0 : Nat) (l2 : Int32) (l3 : Int32) : Dm Int32 :=
  (if 4 ≤ l3 then (k290 l0 (l2 + 1)) else (dbind (dclR (fun u => FX11_book_0 l2 l3 u)) fun x2 => dbind (dread (gfR l0 12 17)) fun x3 => dbind (dread (aald x3 l2)) fun x4 => dbind (dread (iald x4 l3)) fun x5 => (if x2 = x5 then (k300 l0 l2 (l3 + 1)) else (dret 0))))
theorem bDX12_isSame_300 {G : Gt} {X : Xt} {w' : Wd} {v : Int32} (hX : CxOk G X cX12_isSame 5 RX12 (some (.int v), w'.1, w'.2.1, w'.2.2) 5) (hR : CxRet G X (some .boolean) (some (.int v), w'.1, w'.2.1, w'.2.2)) {k290 : Nat → Int32 → Dm Int32} (hk290 : ∀ (l0 : Nat) (l2 : Int32) (w : Wd), (k290 l0 l2).1 w = some (v, w') → WM G X 290 [(0, .ref l0), (1, .ref 0), (2, .int l2)] [] w.1 w.2.1 w.2.2) {k300 : Nat → Int32 → Int32 → Dm Int32} (hk300 : ∀ (l0 : Nat) (l2 : Int32) (l3 : Int32) (w : Wd), (k300 l0 l2 l3).1 w = some (v, w') → WM G X 300 [(0, .ref l0), (1, .ref 0), (2, .int l2), (3, .int l3)] [] w.1 w.2.1 w.2.2) (l0 : Nat) (l2 : Int32) (l3 : Int32) (w : Wd) (h : (DX12_isSame_b300 k290 k300 l0 l2 l3).1 w = some (v, w')) : WM G X 300 [(0, .ref l0), (1, .ref 0), (2, .int l2), (3, .int l3)] [] w.1 w.2.1 w.2.2 := by
  unfold DX12_isSame_b300 at h
  refine w_iload_n 3 300 hX rfl rfl dX12_isSame_300 ?_
  refine w_iconst 4 301 hX ic_4 dX12_isSame_301 ?_
  refine w_icmp_ge (tgt := 330) 302 hX dX12_isSame_302 (by decide) (fun c1 => ?_) (fun c1 => ?_)
  · have h := dit h c1
    refine w_iinc (lv' := [(2, .int (l2 + 1)), (0, .ref l0), (1, .ref 0), (3, .int l3)]) 330 2 hX dX12_isSame_330 rfl (inc_1 _) (by decide) rfl ?_
    refine w_goto (tgt := 290) 333 hX (by decide) dX12_isSame_333 ?_
    exact w_sub [1, 2, 0] rfl (hk290 l0 (l2 + 1) _ h)
  · have h := die h c1
    refine w_aload_n 1 305 hX rfl rfl dX12_isSame_305 ?_
    refine w_iload_n 2 306 hX rfl rfl dX12_isSame_306 ?_
    refine w_iload_n 3 307 hX rfl rfl dX12_isSame_307 ?_
    obtain ⟨x2, wx2, gx2, h⟩ := d_bind h
    refine w_invVi (av := [.int l2, .int l3]) (st := []) 308 hX CI_11 (oks_0 (dcl_ok gx2).1) rfl mv_yX11_book mi_yX11_book ml_X12_148 (cs_R (fun G g => CX11_book_0 (G := G) l2 l3 _ g) gx2) rfl (by decide) (Nat.le_of_ble_eq_true rfl) (d_le h).1 (d_le h).2 dX12_isSame_308 ?_
    refine w_aload_n 0 311 hX rfl rfl dX12_isSame_311 ?_
    obtain ⟨x3, gx3, h⟩ := d_rd h
    refine x_getR 312 hX CI_12 gx3 rfl fl_X12_34 rfl dX12_isSame_312 ?_
    refine w_iload_n 2 315 hX rfl rfl dX12_isSame_315 ?_
    obtain ⟨x4, gx4, h⟩ := d_rd h
    refine x_aald 316 hX gx4 dX12_isSame_316 ?_
    refine w_iload_n 3 317 hX rfl rfl dX12_isSame_317 ?_
    obtain ⟨x5, gx5, h⟩ := d_rd h
    refine x_iald 318 hX gx5 dX12_isSame_318 ?_
    refine w_icmp_eq (tgt := 324) 319 hX dX12_isSame_319 (by decide) (fun c6 => ?_) (fun c6 => ?_)
    · have h := dit h c6
      refine w_iinc (lv' := [(3, .int (l3 + 1)), (0, .ref l0), (1, .ref 0), (2, .int l2)]) 324 3 hX dX12_isSame_324 rfl (inc_1 _) (by decide) rfl ?_
      refine w_goto (tgt := 300) 327 hX (by decide) dX12_isSame_327 ?_
      exact w_sub [1, 2, 3, 0] rfl (hk300 l0 l2 (l3 + 1) _ h)
    · have h := die h c6
      refine w_iconst 0 322 hX ic_0 dX12_isSame_322 ?_
      obtain ⟨rfl, rfl⟩ := d_ret h
      exact w_zret 323 hX hR (by decide) dX12_isSame_323 rfl
noncomputable def DX12_isSame_L300 (k290 : Nat → Int32 → Dm Int32) : Nat → Nat → Int32 → Int32 → Dm Int32
  | 0, _, _, _ => dno
  | n + 1, l0, l2, l3 => DX12_isSame_b300 k290 (DX12_isSame_L300 k290 n) l0 l2 l3
theorem lDX12_isSame_300 {G : Gt} {X : Xt} {w' : Wd} {v : Int32} (hX : CxOk G X cX12_isSame 5 RX12 (some (.int v), w'.1, w'.2.1, w'.2.2) 5) (hR : CxRet G X (some .boolean) (some (.int v), w'.1, w'.2.1, w'.2.2)) {k290 : Nat → Int32 → Dm Int32} (hk290 : ∀ (l0 : Nat) (l2 : Int32) (w : Wd), (k290 l0 l2).1 w = some (v, w') → WM G X 290 [(0, .ref l0), (1, .ref 0), (2, .int l2)] [] w.1 w.2.1 w.2.2) : ∀ (n : Nat) (l0 : Nat) (l2 : Int32) (l3 : Int32) (w : Wd), (DX12_isSame_L300 k290 n l0 l2 l3).1 w = some (v, w') → WM G X 300 [(0, .ref l0), (1, .ref 0), (2, .int l2), (3, .int l3)] [] w.1 w.2.1 w.2.2 := by
  intro n
  induction n with
  | zero =>
    intro l0 l2 l3 w h
    exact dn_ h
  | succ n ih =>
    intro l0 l2 l3 w h
    exact bDX12_isSame_300 hX hR hk290 ih l0 l2 l3 w h
noncomputable def DX12_isSame_b290 (k290 : Nat → Int32 → Dm Int32) (l0 : Nat) (l2 : Int32) : Dm Int32 :=
  dbind (dread (gfI l0 12 7)) fun x1 => (if x1 ≤ l2 then (dbind (dnew (nwI 9)) fun x3 => dbind (dread (gfI l0 12 6)) fun x4 => dbind (dput (iast x3 0 x4)) fun _ => dbind (dread (gfI l0 12 1)) fun x6 => dbind (dput (iast x3 1 x6)) fun _ => dbind (dread (gfI l0 12 2)) fun x8 => dbind (dput (iast x3 2 x8)) fun _ => dbind (dread (gfI l0 12 3)) fun x10 => dbind (dput (iast x3 3 x10)) fun _ => dbind (dread (gfI l0 12 4)) fun x12 => dbind (dput (iast x3 4 x12)) fun _ => dbind (dread (gfI l0 12 5)) fun x14 => dbind (dput (iast x3 5 x14)) fun _ => dbind (dread (gfI l0 12 8)) fun x16 => dbind (dput (iast x3 6 x16)) fun _ => dbind (dread (gfI l0 12 7)) fun x18 => dbind (dput (iast x3 7 x18)) fun _ => dbind (dread (gfI l0 12 0)) fun x20 => dbind (dput (iast x3 8 x20)) fun _ => DX12_isSame_L409 FU l0 x3 0) else (DX12_isSame_L300 k290 FU l0 l2 0))
theorem bDX12_isSame_290 {G : Gt} {X : Xt} {w' : Wd} {v : Int32} (hX : CxOk G X cX12_isSame 5 RX12 (some (.int v), w'.1, w'.2.1, w'.2.2) 5) (hR : CxRet G X (some .boolean) (some (.int v), w'.1, w'.2.1, w'.2.2)) {k290 : Nat → Int32 → Dm Int32} (hk290 : ∀ (l0 : Nat) (l2 : Int32) (w : Wd), (k290 l0 l2).1 w = some (v, w') → WM G X 290 [(0, .ref l0), (1, .ref 0), (2, .int l2)] [] w.1 w.2.1 w.2.2) (l0 : Nat) (l2 : Int32) (w : Wd) (h : (DX12_isSame_b290 k290 l0 l2).1 w = some (v, w')) : WM G X 290 [(0, .ref l0), (1, .ref 0), (2, .int l2)] [] w.1 w.2.1 w.2.2 := by
  unfold DX12_isSame_b290 at h
  refine w_iload_n 2 290 hX rfl rfl dX12_isSame_290 ?_
  refine w_aload_n 0 291 hX rfl rfl dX12_isSame_291 ?_
  obtain ⟨x1, gx1, h⟩ := d_rd h
  refine x_getI 292 hX CI_12 gx1 rfl fl_X12_53 rfl dX12_isSame_292 ?_
  refine w_icmp_ge (tgt := 336) 295 hX dX12_isSame_295 (by decide) (fun c2 => ?_) (fun c2 => ?_)
  · have h := dit h c2
    refine w_bipush 9 336 hX ib_9 dX12_isSame_336 ?_
    obtain ⟨x3, wx3, gx3, h⟩ := d_bind h
    refine x_newI 338 hX gx3 aw_int (d_le h) dX12_isSame_338 ?_
    refine w_dup 340 hX rfl dX12_isSame_340 ?_
    refine w_iconst 0 341 hX ic_0 dX12_isSame_341 ?_
    refine w_aload_n 0 342 hX rfl rfl dX12_isSame_342 ?_
    obtain ⟨x4, gx4, h⟩ := d_rd h
    refine x_getI 343 hX CI_12 gx4 rfl fl_X12_50 rfl dX12_isSame_343 ?_
    obtain ⟨x5, wx5, gx5, h⟩ := d_bind h
    refine x_iast 346 hX gx5 dX12_isSame_346 ?_
    refine w_dup 347 hX rfl dX12_isSame_347 ?_
    refine w_iconst 1 348 hX ic_1 dX12_isSame_348 ?_
    refine w_aload_n 0 349 hX rfl rfl dX12_isSame_349 ?_
    obtain ⟨x6, gx6, h⟩ := d_rd h
    refine x_getI 350 hX CI_12 gx6 rfl fl_X12_44 rfl dX12_isSame_350 ?_
    obtain ⟨x7, wx7, gx7, h⟩ := d_bind h
    refine x_iast 353 hX gx7 dX12_isSame_353 ?_
    refine w_dup 354 hX rfl dX12_isSame_354 ?_
    refine w_iconst 2 355 hX ic_2 dX12_isSame_355 ?_
    refine w_aload_n 0 356 hX rfl rfl dX12_isSame_356 ?_
    obtain ⟨x8, gx8, h⟩ := d_rd h
    refine x_getI 357 hX CI_12 gx8 rfl fl_X12_7 rfl dX12_isSame_357 ?_
    obtain ⟨x9, wx9, gx9, h⟩ := d_bind h
    refine x_iast 360 hX gx9 dX12_isSame_360 ?_
    refine w_dup 361 hX rfl dX12_isSame_361 ?_
    refine w_iconst 3 362 hX ic_3 dX12_isSame_362 ?_
    refine w_aload_n 0 363 hX rfl rfl dX12_isSame_363 ?_
    obtain ⟨x10, gx10, h⟩ := d_rd h
    refine x_getI 364 hX CI_12 gx10 rfl fl_X12_13 rfl dX12_isSame_364 ?_
    obtain ⟨x11, wx11, gx11, h⟩ := d_bind h
    refine x_iast 367 hX gx11 dX12_isSame_367 ?_
    refine w_dup 368 hX rfl dX12_isSame_368 ?_
    refine w_iconst 4 369 hX ic_4 dX12_isSame_369 ?_
    refine w_aload_n 0 370 hX rfl rfl dX12_isSame_370 ?_
    obtain ⟨x12, gx12, h⟩ := d_rd h
    refine x_getI 371 hX CI_12 gx12 rfl fl_X12_47 rfl dX12_isSame_371 ?_
    obtain ⟨x13, wx13, gx13, h⟩ := d_bind h
    refine x_iast 374 hX gx13 dX12_isSame_374 ?_
    refine w_dup 375 hX rfl dX12_isSame_375 ?_
    refine w_iconst 5 376 hX ic_5 dX12_isSame_376 ?_
    refine w_aload_n 0 377 hX rfl rfl dX12_isSame_377 ?_
    obtain ⟨x14, gx14, h⟩ := d_rd h
    refine x_getI 378 hX CI_12 gx14 rfl fl_X12_16 rfl dX12_isSame_378 ?_
    obtain ⟨x15, wx15, gx15, h⟩ := d_bind h
    refine x_iast 381 hX gx15 dX12_isSame_381 ?_
    refine w_dup 382 hX rfl dX12_isSame_382 ?_
    refine w_bipush 6 383 hX ib_6 dX12_isSame_383 ?_
    refine w_aload_n 0 385 hX rfl rfl dX12_isSame_385 ?_
    obtain ⟨x16, gx16, h⟩ := d_rd h
    refine x_getI 386 hX CI_12 gx16 rfl fl_X12_56 rfl dX12_isSame_386 ?_
    obtain ⟨x17, wx17, gx17, h⟩ := d_bind h
    refine x_iast 389 hX gx17 dX12_isSame_389 ?_
    refine w_dup 390 hX rfl dX12_isSame_390 ?_
    refine w_bipush 7 391 hX ib_7 dX12_isSame_391 ?_
    refine w_aload_n 0 393 hX rfl rfl dX12_isSame_393 ?_
    obtain ⟨x18, gx18, h⟩ := d_rd h
    refine x_getI 394 hX CI_12 gx18 rfl fl_X12_53 rfl dX12_isSame_394 ?_
    obtain ⟨x19, wx19, gx19, h⟩ := d_bind h
    refine x_iast 397 hX gx19 dX12_isSame_397 ?_
    refine w_dup 398 hX rfl dX12_isSame_398 ?_
    refine w_bipush 8 399 hX ib_8 dX12_isSame_399 ?_
    refine w_aload_n 0 401 hX rfl rfl dX12_isSame_401 ?_
    obtain ⟨x20, gx20, h⟩ := d_rd h
    refine x_getI 402 hX CI_12 gx20 rfl fl_X12_41 rfl dX12_isSame_402 ?_
    obtain ⟨x21, wx21, gx21, h⟩ := d_bind h
    refine x_iast 405 hX gx21 dX12_isSame_405 ?_
    refine w_astore_n (lv' := [(2, .ref x3), (0, .ref l0), (1, .ref 0)]) 406 hX rfl dX12_isSame_406 (by decide) rfl ?_
    refine w_iconst 0 407 hX ic_0 dX12_isSame_407 ?_
    refine w_istore_n (lv' := [(3, .int 0), (2, .ref x3), (0, .ref l0), (1, .ref 0)]) 408 hX rfl dX12_isSame_408 (by decide) rfl ?_
    exact w_sub [2, 3, 1, 0] rfl (lDX12_isSame_409 hX hR FU l0 x3 0 _ h)
  · have h := die h c2
    refine w_iconst 0 298 hX ic_0 dX12_isSame_298 ?_
    refine w_istore_n (lv' := [(3, .int 0), (0, .ref l0), (1, .ref 0), (2, .int l2)]) 299 hX rfl dX12_isSame_299 (by decide) rfl ?_
    exact w_sub [1, 2, 3, 0] rfl (lDX12_isSame_300 hX hR hk290 FU l0 l2 0 _ h)
noncomputable def DX12_isSame_L290 : Nat → Nat → Int32 → Dm Int32
  | 0, _, _ => dno
  | n + 1, l0, l2 => DX12_isSame_b290 (DX12_isSame_L290 n) l0 l2
theorem lDX12_isSame_290 {G : Gt} {X : Xt} {w' : Wd} {v : Int32} (hX : CxOk G X cX12_isSame 5 RX12 (some (.int v), w'.1, w'.2.1, w'.2.2) 5) (hR : CxRet G X (some .boolean) (some (.int v), w'.1, w'.2.1, w'.2.2)) : ∀ (n : Nat) (l0 : Nat) (l2 : Int32) (w : Wd), (DX12_isSame_L290 n l0 l2).1 w = some (v, w') → WM G X 290 [(0, .ref l0), (1, .ref 0), (2, .int l2)] [] w.1 w.2.1 w.2.2 := by
  intro n
  induction n with
  | zero =>
    intro l0 l2 w h
    exact dn_ h
  | succ n ih =>
    intro l0 l2 w h
    exact bDX12_isSame_290 hX hR ih l0 l2 w h
noncomputable def DX12_isSame_b260 (k260 : Nat → Int32 → Dm Int32) (l0 : Nat) (l2 : Int32) : Dm Int32 :=
  (if 8 ≤ l2 then (DX12_isSame_L290 FU l0 0) else (dbind (dclR (fun u => FX11_weight_0 l2 u)) fun x2 => dbind (dread (gfR l0 12 15)) fun x3 => dbind (dread (iald x3 l2)) fun x4 => (if x2 = x4 then (k260 l0 (l2 + 1)) else (dret 0))))
theorem bDX12_isSame_260 {G : Gt} {X : Xt} {w' : Wd} {v : Int32} (hX : CxOk G X cX12_isSame 5 RX12 (some (.int v), w'.1, w'.2.1, w'.2.2) 5) (hR : CxRet G X (some .boolean) (some (.int v), w'.1, w'.2.1, w'.2.2)) {k260 : Nat → Int32 → Dm Int32} (hk260 : ∀ (l0 : Nat) (l2 : Int32) (w : Wd), (k260 l0 l2).1 w = some (v, w') → WM G X 260 [(0, .ref l0), (1, .ref 0), (2, .int l2)] [] w.1 w.2.1 w.2.2) (l0 : Nat) (l2 : Int32) (w : Wd) (h : (DX12_isSame_b260 k260 l0 l2).1 w = some (v, w')) : WM G X 260 [(0, .ref l0), (1, .ref 0), (2, .int l2)] [] w.1 w.2.1 w.2.2 := by
  unfold DX12_isSame_b260 at h
  refine w_iload_n 2 260 hX rfl rfl dX12_isSame_260 ?_
  refine w_bipush 8 261 hX ib_8 dX12_isSame_261 ?_
  refine w_icmp_ge (tgt := 288) 263 hX dX12_isSame_263 (by decide) (fun c1 => ?_) (fun c1 => ?_)
  · have h := dit h c1
    refine w_iconst 0 288 hX ic_0 dX12_isSame_288 ?_
    refine w_istore_n (lv' := [(2, .int 0), (0, .ref l0), (1, .ref 0)]) 289 hX rfl dX12_isSame_289 (by decide) rfl ?_
    exact w_sub [1, 2, 0] rfl (lDX12_isSame_290 hX hR FU l0 0 _ h)
  · have h := die h c1
    refine w_aload_n 1 266 hX rfl rfl dX12_isSame_266 ?_
    refine w_iload_n 2 267 hX rfl rfl dX12_isSame_267 ?_
    obtain ⟨x2, wx2, gx2, h⟩ := d_bind h
    refine w_invVi (av := [.int l2]) (st := []) 268 hX CI_11 (oks_0 (dcl_ok gx2).1) rfl mv_yX11_weight mi_yX11_weight ml_X12_146 (cs_R (fun G g => CX11_weight_0 (G := G) l2 _ g) gx2) rfl (by decide) (Nat.le_of_ble_eq_true rfl) (d_le h).1 (d_le h).2 dX12_isSame_268 ?_
    refine w_aload_n 0 271 hX rfl rfl dX12_isSame_271 ?_
    obtain ⟨x3, gx3, h⟩ := d_rd h
    refine x_getR 272 hX CI_12 gx3 rfl fl_X12_26 rfl dX12_isSame_272 ?_
    refine w_iload_n 2 275 hX rfl rfl dX12_isSame_275 ?_
    obtain ⟨x4, gx4, h⟩ := d_rd h
    refine x_iald 276 hX gx4 dX12_isSame_276 ?_
    refine w_icmp_eq (tgt := 282) 277 hX dX12_isSame_277 (by decide) (fun c5 => ?_) (fun c5 => ?_)
    · have h := dit h c5
      refine w_iinc (lv' := [(2, .int (l2 + 1)), (0, .ref l0), (1, .ref 0)]) 282 2 hX dX12_isSame_282 rfl (inc_1 _) (by decide) rfl ?_
      refine w_goto (tgt := 260) 285 hX (by decide) dX12_isSame_285 ?_
      exact w_sub [1, 2, 0] rfl (hk260 l0 (l2 + 1) _ h)
    · have h := die h c5
      refine w_iconst 0 280 hX ic_0 dX12_isSame_280 ?_
      obtain ⟨rfl, rfl⟩ := d_ret h
      exact w_zret 281 hX hR (by decide) dX12_isSame_281 rfl
noncomputable def DX12_isSame_L260 : Nat → Nat → Int32 → Dm Int32
  | 0, _, _ => dno
  | n + 1, l0, l2 => DX12_isSame_b260 (DX12_isSame_L260 n) l0 l2
theorem lDX12_isSame_260 {G : Gt} {X : Xt} {w' : Wd} {v : Int32} (hX : CxOk G X cX12_isSame 5 RX12 (some (.int v), w'.1, w'.2.1, w'.2.2) 5) (hR : CxRet G X (some .boolean) (some (.int v), w'.1, w'.2.1, w'.2.2)) : ∀ (n : Nat) (l0 : Nat) (l2 : Int32) (w : Wd), (DX12_isSame_L260 n l0 l2).1 w = some (v, w') → WM G X 260 [(0, .ref l0), (1, .ref 0), (2, .int l2)] [] w.1 w.2.1 w.2.2 := by
  intro n
  induction n with
  | zero =>
    intro l0 l2 w h
    exact dn_ h
  | succ n ih =>
    intro l0 l2 w h
    exact bDX12_isSame_260 hX hR ih l0 l2 w h
noncomputable def DX12_isSame_b247 (k162 : Nat → Int32 → Dm Int32) (l0 : Nat) (l2 : Int32) (t0 : Int32) (t1 : Int32) : Dm Int32 :=
  (if t0 = t1 then (k162 l0 (l2 + 1)) else (dret 0))
theorem bDX12_isSame_247 {G : Gt} {X : Xt} {w' : Wd} {v : Int32} (hX : CxOk G X cX12_isSame 5 RX12 (some (.int v), w'.1, w'.2.1, w'.2.2) 5) (hR : CxRet G X (some .boolean) (some (.int v), w'.1, w'.2.1, w'.2.2)) {k162 : Nat → Int32 → Dm Int32} (hk162 : ∀ (l0 : Nat) (l2 : Int32) (w : Wd), (k162 l0 l2).1 w = some (v, w') → WM G X 162 [(0, .ref l0), (1, .ref 0), (2, .int l2)] [] w.1 w.2.1 w.2.2) (l0 : Nat) (l2 : Int32) (t0 : Int32) (t1 : Int32) (w : Wd) (h : (DX12_isSame_b247 k162 l0 l2 t0 t1).1 w = some (v, w')) : WM G X 247 [(0, .ref l0), (1, .ref 0), (2, .int l2)] [.int t1, .int t0] w.1 w.2.1 w.2.2 := by
  unfold DX12_isSame_b247 at h
  refine w_icmp_eq (tgt := 252) 247 hX dX12_isSame_247 (by decide) (fun c1 => ?_) (fun c1 => ?_)
  · have h := dit h c1
    refine w_iinc (lv' := [(2, .int (l2 + 1)), (0, .ref l0), (1, .ref 0)]) 252 2 hX dX12_isSame_252 rfl (inc_1 _) (by decide) rfl ?_
    refine w_goto (tgt := 162) 255 hX (by decide) dX12_isSame_255 ?_
    exact w_sub [1, 2, 0] rfl (hk162 l0 (l2 + 1) _ h)
  · have h := die h c1
    refine w_iconst 0 250 hX ic_0 dX12_isSame_250 ?_
    obtain ⟨rfl, rfl⟩ := d_ret h
    exact w_zret 251 hX hR (by decide) dX12_isSame_251 rfl
noncomputable def DX12_isSame_b162 (k162 : Nat → Int32 → Dm Int32) (l0 : Nat) (l2 : Int32) : Dm Int32 :=
  (if 2 ≤ l2 then (DX12_isSame_L260 FU l0 0) else (dbind (dclR (fun u => FX11_country_0 l2 0 u)) fun x2 => dbind (dread (isC l0 12)) fun x3 => dbind (DX12_field l0 l2) fun x4 => (if x2 = x4 then (dbind (dclR (fun u => FX11_country_0 l2 1 u)) fun x6 => dbind (dread (isC l0 12)) fun x7 => dbind (DX12_knows l0 l2) fun x8 => (if x6 = x8 then (dbind (dclR (fun u => FX11_country_0 l2 2 u)) fun x10 => dbind (dread (isC l0 12)) fun x11 => dbind (DX12_knows l0 l2) fun x12 => dbind (dread (isC l0 12)) fun x13 => dbind (DX12_weighs l0 x12) fun x14 => (if x10 = x14 then (dbind (dclR (fun u => FX11_country_0 l2 3 u)) fun x16 => dbind (dread (gfR l0 12 13)) fun x17 => dbind (dread (iald x17 l2)) fun x18 => (if x16 = x18 then (dbind (dclR (fun u => FX11_country_0 l2 4 u)) fun x20 => dbind (dread (isC l0 12)) fun x21 => dbind (DX12_rests l0 l2) fun x22 => (if x22 = 0 then (DX12_isSame_b247 k162 l0 l2 x20 0) else (DX12_isSame_b247 k162 l0 l2 x20 1))) else (dret 0))) else (dret 0))) else (dret 0))) else (dret 0))))
theorem bDX12_isSame_162 {G : Gt} {X : Xt} {w' : Wd} {v : Int32} (hX : CxOk G X cX12_isSame 5 RX12 (some (.int v), w'.1, w'.2.1, w'.2.2) 5) (hR : CxRet G X (some .boolean) (some (.int v), w'.1, w'.2.1, w'.2.2)) {k162 : Nat → Int32 → Dm Int32} (hk162 : ∀ (l0 : Nat) (l2 : Int32) (w : Wd), (k162 l0 l2).1 w = some (v, w') → WM G X 162 [(0, .ref l0), (1, .ref 0), (2, .int l2)] [] w.1 w.2.1 w.2.2) (l0 : Nat) (l2 : Int32) (w : Wd) (h : (DX12_isSame_b162 k162 l0 l2).1 w = some (v, w')) : WM G X 162 [(0, .ref l0), (1, .ref 0), (2, .int l2)] [] w.1 w.2.1 w.2.2 := by
  unfold DX12_isSame_b162 at h
  refine w_iload_n 2 162 hX rfl rfl dX12_isSame_162 ?_
  refine w_iconst 2 163 hX ic_2 dX12_isSame_163 ?_
  refine w_icmp_ge (tgt := 258) 164 hX dX12_isSame_164 (by decide) (fun c1 => ?_) (fun c1 => ?_)
  · have h := dit h c1
    refine w_iconst 0 258 hX ic_0 dX12_isSame_258 ?_
    refine w_istore_n (lv' := [(2, .int 0), (0, .ref l0), (1, .ref 0)]) 259 hX rfl dX12_isSame_259 (by decide) rfl ?_
    exact w_sub [1, 2, 0] rfl (lDX12_isSame_260 hX hR FU l0 0 _ h)
  · have h := die h c1
    refine w_aload_n 1 167 hX rfl rfl dX12_isSame_167 ?_
    refine w_iload_n 2 168 hX rfl rfl dX12_isSame_168 ?_
    refine w_iconst 0 169 hX ic_0 dX12_isSame_169 ?_
    obtain ⟨x2, wx2, gx2, h⟩ := d_bind h
    refine w_invVi (av := [.int l2, .int 0]) (st := []) 170 hX CI_11 (oks_0 (dcl_ok gx2).1) rfl mv_yX11_country mi_yX11_country ml_X12_143 (cs_R (fun G g => CX11_country_0 (G := G) l2 0 _ g) gx2) rfl (by decide) (Nat.le_of_ble_eq_true rfl) (d_le h).1 (d_le h).2 dX12_isSame_170 ?_
    refine w_aload_n 0 173 hX rfl rfl dX12_isSame_173 ?_
    refine w_iload_n 2 174 hX rfl rfl dX12_isSame_174 ?_
    obtain ⟨x3, gx3, h⟩ := d_rd h
    obtain ⟨x4, wx4, gx4, h⟩ := d_bind h
    refine w_invVi (av := [.int l2]) (st := [.int x2]) 175 hX CI_12 (isC_ok gx3) rfl mv_yX12_field mi_yX12_field ml_X12_97 (CDX12_field l0 l2 gx4) rfl (by decide) (Nat.le_of_ble_eq_true rfl) (d_le h).1 (d_le h).2 dX12_isSame_175 ?_
    refine w_icmp_ne (tgt := 250) 178 hX dX12_isSame_178 (by decide) (fun c5 => ?_) (fun c5 => ?_)
    · have h := die h c5
      refine w_iconst 0 250 hX ic_0 dX12_isSame_250 ?_
      obtain ⟨rfl, rfl⟩ := d_ret h
      exact w_zret 251 hX hR (by decide) dX12_isSame_251 rfl
    · have h := dit h c5
      refine w_aload_n 1 181 hX rfl rfl dX12_isSame_181 ?_
      refine w_iload_n 2 182 hX rfl rfl dX12_isSame_182 ?_
      refine w_iconst 1 183 hX ic_1 dX12_isSame_183 ?_
      obtain ⟨x6, wx6, gx6, h⟩ := d_bind h
      refine w_invVi (av := [.int l2, .int 1]) (st := []) 184 hX CI_11 (oks_0 (dcl_ok gx6).1) rfl mv_yX11_country mi_yX11_country ml_X12_143 (cs_R (fun G g => CX11_country_0 (G := G) l2 1 _ g) gx6) rfl (by decide) (Nat.le_of_ble_eq_true rfl) (d_le h).1 (d_le h).2 dX12_isSame_184 ?_
      refine w_aload_n 0 187 hX rfl rfl dX12_isSame_187 ?_
      refine w_iload_n 2 188 hX rfl rfl dX12_isSame_188 ?_
      obtain ⟨x7, gx7, h⟩ := d_rd h
      obtain ⟨x8, wx8, gx8, h⟩ := d_bind h
      refine w_invVi (av := [.int l2]) (st := [.int x6]) 189 hX CI_12 (isC_ok gx7) rfl mv_yX12_knows mi_yX12_knows ml_X12_132 (CDX12_knows l0 l2 gx8) rfl (by decide) (Nat.le_of_ble_eq_true rfl) (d_le h).1 (d_le h).2 dX12_isSame_189 ?_
      refine w_icmp_ne (tgt := 250) 192 hX dX12_isSame_192 (by decide) (fun c9 => ?_) (fun c9 => ?_)
      · have h := die h c9
        refine w_iconst 0 250 hX ic_0 dX12_isSame_250 ?_
        obtain ⟨rfl, rfl⟩ := d_ret h
        exact w_zret 251 hX hR (by decide) dX12_isSame_251 rfl
      · have h := dit h c9
        refine w_aload_n 1 195 hX rfl rfl dX12_isSame_195 ?_
        refine w_iload_n 2 196 hX rfl rfl dX12_isSame_196 ?_
        refine w_iconst 2 197 hX ic_2 dX12_isSame_197 ?_
        obtain ⟨x10, wx10, gx10, h⟩ := d_bind h
        refine w_invVi (av := [.int l2, .int 2]) (st := []) 198 hX CI_11 (oks_0 (dcl_ok gx10).1) rfl mv_yX11_country mi_yX11_country ml_X12_143 (cs_R (fun G g => CX11_country_0 (G := G) l2 2 _ g) gx10) rfl (by decide) (Nat.le_of_ble_eq_true rfl) (d_le h).1 (d_le h).2 dX12_isSame_198 ?_
        refine w_aload_n 0 201 hX rfl rfl dX12_isSame_201 ?_
        refine w_aload_n 0 202 hX rfl rfl dX12_isSame_202 ?_
        refine w_iload_n 2 203 hX rfl rfl dX12_isSame_203 ?_
        obtain ⟨x11, gx11, h⟩ := d_rd h
        obtain ⟨x12, wx12, gx12, h⟩ := d_bind h
        refine w_invVi (av := [.int l2]) (st := [.ref l0, .int x10]) 204 hX CI_12 (isC_ok gx11) rfl mv_yX12_knows mi_yX12_knows ml_X12_132 (CDX12_knows l0 l2 gx12) rfl (by decide) (Nat.le_of_ble_eq_true rfl) (d_le h).1 (d_le h).2 dX12_isSame_204 ?_
        obtain ⟨x13, gx13, h⟩ := d_rd h
        obtain ⟨x14, wx14, gx14, h⟩ := d_bind h
        refine w_invVi (av := [.int x12]) (st := [.int x10]) 207 hX CI_12 (isC_ok gx13) rfl mv_yX12_weighs mi_yX12_weighs ml_X12_135 (CDX12_weighs l0 x12 gx14) rfl (by decide) (Nat.le_of_ble_eq_true rfl) (d_le h).1 (d_le h).2 dX12_isSame_207 ?_
        refine w_icmp_ne (tgt := 250) 210 hX dX12_isSame_210 (by decide) (fun c15 => ?_) (fun c15 => ?_)
        · have h := die h c15
          refine w_iconst 0 250 hX ic_0 dX12_isSame_250 ?_
          obtain ⟨rfl, rfl⟩ := d_ret h
          exact w_zret 251 hX hR (by decide) dX12_isSame_251 rfl
        · have h := dit h c15
          refine w_aload_n 1 213 hX rfl rfl dX12_isSame_213 ?_
          refine w_iload_n 2 214 hX rfl rfl dX12_isSame_214 ?_
          refine w_iconst 3 215 hX ic_3 dX12_isSame_215 ?_
          obtain ⟨x16, wx16, gx16, h⟩ := d_bind h
          refine w_invVi (av := [.int l2, .int 3]) (st := []) 216 hX CI_11 (oks_0 (dcl_ok gx16).1) rfl mv_yX11_country mi_yX11_country ml_X12_143 (cs_R (fun G g => CX11_country_0 (G := G) l2 3 _ g) gx16) rfl (by decide) (Nat.le_of_ble_eq_true rfl) (d_le h).1 (d_le h).2 dX12_isSame_216 ?_
          refine w_aload_n 0 219 hX rfl rfl dX12_isSame_219 ?_
          obtain ⟨x17, gx17, h⟩ := d_rd h
          refine x_getR 220 hX CI_12 gx17 rfl fl_X12_19 rfl dX12_isSame_220 ?_
          refine w_iload_n 2 223 hX rfl rfl dX12_isSame_223 ?_
          obtain ⟨x18, gx18, h⟩ := d_rd h
          refine x_iald 224 hX gx18 dX12_isSame_224 ?_
          refine w_icmp_ne (tgt := 250) 225 hX dX12_isSame_225 (by decide) (fun c19 => ?_) (fun c19 => ?_)
          · have h := die h c19
            refine w_iconst 0 250 hX ic_0 dX12_isSame_250 ?_
            obtain ⟨rfl, rfl⟩ := d_ret h
            exact w_zret 251 hX hR (by decide) dX12_isSame_251 rfl
          · have h := dit h c19
            refine w_aload_n 1 228 hX rfl rfl dX12_isSame_228 ?_
            refine w_iload_n 2 229 hX rfl rfl dX12_isSame_229 ?_
            refine w_iconst 4 230 hX ic_4 dX12_isSame_230 ?_
            obtain ⟨x20, wx20, gx20, h⟩ := d_bind h
            refine w_invVi (av := [.int l2, .int 4]) (st := []) 231 hX CI_11 (oks_0 (dcl_ok gx20).1) rfl mv_yX11_country mi_yX11_country ml_X12_143 (cs_R (fun G g => CX11_country_0 (G := G) l2 4 _ g) gx20) rfl (by decide) (Nat.le_of_ble_eq_true rfl) (d_le h).1 (d_le h).2 dX12_isSame_231 ?_
            refine w_aload_n 0 234 hX rfl rfl dX12_isSame_234 ?_
            refine w_iload_n 2 235 hX rfl rfl dX12_isSame_235 ?_
            obtain ⟨x21, gx21, h⟩ := d_rd h
            obtain ⟨x22, wx22, gx22, h⟩ := d_bind h
            refine w_invVi (av := [.int l2]) (st := [.int x20]) 236 hX CI_12 (isC_ok gx21) rfl mv_yX12_rests mi_yX12_rests ml_X12_107 (CDX12_rests l0 l2 gx22) rfl (by decide) (Nat.le_of_ble_eq_true rfl) (d_le h).1 (d_le h).2 dX12_isSame_236 ?_
            refine w_if_eq (tgt := 246) 239 hX dX12_isSame_239 (by decide) (fun c23 => ?_) (fun c23 => ?_)
            · have h := dit h c23
              refine w_iconst 0 246 hX ic_0 dX12_isSame_246 ?_
              exact bDX12_isSame_247 hX hR hk162 l0 l2 x20 0 _ h
            · have h := die h c23
              refine w_iconst 1 242 hX ic_1 dX12_isSame_242 ?_
              refine w_goto (tgt := 247) 243 hX (by decide) dX12_isSame_243 ?_
              exact bDX12_isSame_247 hX hR hk162 l0 l2 x20 1 _ h
noncomputable def DX12_isSame_L162 : Nat → Nat → Int32 → Dm Int32
  | 0, _, _ => dno
  | n + 1, l0, l2 => DX12_isSame_b162 (DX12_isSame_L162 n) l0 l2
theorem lDX12_isSame_162 {G : Gt} {X : Xt} {w' : Wd} {v : Int32} (hX : CxOk G X cX12_isSame 5 RX12 (some (.int v), w'.1, w'.2.1, w'.2.2) 5) (hR : CxRet G X (some .boolean) (some (.int v), w'.1, w'.2.1, w'.2.2)) : ∀ (n : Nat) (l0 : Nat) (l2 : Int32) (w : Wd), (DX12_isSame_L162 n l0 l2).1 w = some (v, w') → WM G X 162 [(0, .ref l0), (1, .ref 0), (2, .int l2)] [] w.1 w.2.1 w.2.2 := by
  intro n
  induction n with
  | zero =>
    intro l0 l2 w h
    exact dn_ h
  | succ n ih =>
    intro l0 l2 w h
    exact bDX12_isSame_162 hX hR ih l0 l2 w h
noncomputable def DX12_isSame_b120 (k2 : Nat → Int32 → Dm Int32) (k120 : Nat → Int32 → Int32 → Dm Int32) (l0 : Nat) (l2 : Int32) (l4 : Int32) : Dm Int32 :=
  (if 4 ≤ l4 then (k2 l0 (l2 + 1)) else (dbind (dclW (fun u => FX11_of_0 l2 (10 + l4) u)) fun x2 => dbind (dread (isC l0 12)) fun x3 => dbind (DX12_says l0 l4 l2) fun x4 => (if x2 = x4 then (k120 l0 l2 (l4 + 1)) else (dret 0))))
theorem bDX12_isSame_120 {G : Gt} {X : Xt} {w' : Wd} {v : Int32} (hX : CxOk G X cX12_isSame 5 RX12 (some (.int v), w'.1, w'.2.1, w'.2.2) 5) (hR : CxRet G X (some .boolean) (some (.int v), w'.1, w'.2.1, w'.2.2)) {k2 : Nat → Int32 → Dm Int32} (hk2 : ∀ (l0 : Nat) (l2 : Int32) (w : Wd), (k2 l0 l2).1 w = some (v, w') → WM G X 2 [(0, .ref l0), (1, .ref 0), (2, .int l2)] [] w.1 w.2.1 w.2.2) {k120 : Nat → Int32 → Int32 → Dm Int32} (hk120 : ∀ (l0 : Nat) (l2 : Int32) (l4 : Int32) (w : Wd), (k120 l0 l2 l4).1 w = some (v, w') → WM G X 120 [(0, .ref l0), (1, .ref 0), (2, .int l2), (4, .int l4)] [] w.1 w.2.1 w.2.2) (l0 : Nat) (l2 : Int32) (l4 : Int32) (w : Wd) (h : (DX12_isSame_b120 k2 k120 l0 l2 l4).1 w = some (v, w')) : WM G X 120 [(0, .ref l0), (1, .ref 0), (2, .int l2), (4, .int l4)] [] w.1 w.2.1 w.2.2 := by
  unfold DX12_isSame_b120 at h
  refine w_iload 3 120 hX rfl dX12_isSame_120 ?_
  refine w_iconst 4 122 hX ic_4 dX12_isSame_122 ?_
  refine w_icmp_ge (tgt := 154) 123 hX dX12_isSame_123 (by decide) (fun c1 => ?_) (fun c1 => ?_)
  · have h := dit h c1
    refine w_iinc (lv' := [(2, .int (l2 + 1)), (0, .ref l0), (1, .ref 0), (4, .int l4)]) 154 2 hX dX12_isSame_154 rfl (inc_1 _) (by decide) rfl ?_
    refine w_goto (tgt := 2) 157 hX (by decide) dX12_isSame_157 ?_
    exact w_sub [1, 2, 0] rfl (hk2 l0 (l2 + 1) _ h)
  · have h := die h c1
    refine w_aload_n 1 126 hX rfl rfl dX12_isSame_126 ?_
    refine w_iload_n 2 127 hX rfl rfl dX12_isSame_127 ?_
    refine w_bipush 10 128 hX ib_10 dX12_isSame_128 ?_
    refine w_iload 3 130 hX rfl dX12_isSame_130 ?_
    refine w_iadd 132 hX dX12_isSame_132 ?_
    obtain ⟨x2, wx2, gx2, h⟩ := d_bind h
    refine w_invVi (av := [.int l2, .int (10 + l4)]) (st := []) 133 hX CI_11 (oks_0 (dcl_ok gx2).1) rfl mv_yX11_of mi_yX11_of ml_X12_138 (cs_W (fun G u g => CX11_of_0 (G := G) l2 (10 + l4) _ g) gx2) rfl (by decide) (Nat.le_of_ble_eq_true rfl) (d_le h).1 (d_le h).2 dX12_isSame_133 ?_
    refine w_aload_n 0 136 hX rfl rfl dX12_isSame_136 ?_
    refine w_iload 3 137 hX rfl dX12_isSame_137 ?_
    refine w_iload_n 2 139 hX rfl rfl dX12_isSame_139 ?_
    obtain ⟨x3, gx3, h⟩ := d_rd h
    obtain ⟨x4, wx4, gx4, h⟩ := d_bind h
    refine w_invVi (av := [.int l4, .int l2]) (st := [.int x2]) 140 hX CI_12 (isC_ok gx3) rfl mv_yX12_says mi_yX12_says ml_X12_89 (CDX12_says l0 l4 l2 gx4) rfl (by decide) (Nat.le_of_ble_eq_true rfl) (d_le h).1 (d_le h).2 dX12_isSame_140 ?_
    refine w_icmp_eq (tgt := 148) 143 hX dX12_isSame_143 (by decide) (fun c5 => ?_) (fun c5 => ?_)
    · have h := dit h c5
      refine w_iinc (lv' := [(4, .int (l4 + 1)), (0, .ref l0), (1, .ref 0), (2, .int l2)]) 148 3 hX dX12_isSame_148 rfl (inc_1 _) (by decide) rfl ?_
      refine w_goto (tgt := 120) 151 hX (by decide) dX12_isSame_151 ?_
      exact w_sub [1, 2, 3, 0] rfl (hk120 l0 l2 (l4 + 1) _ h)
    · have h := die h c5
      refine w_iconst 0 146 hX ic_0 dX12_isSame_146 ?_
      obtain ⟨rfl, rfl⟩ := d_ret h
      exact w_zret 147 hX hR (by decide) dX12_isSame_147 rfl
noncomputable def DX12_isSame_L120 (k2 : Nat → Int32 → Dm Int32) : Nat → Nat → Int32 → Int32 → Dm Int32
  | 0, _, _, _ => dno
  | n + 1, l0, l2, l4 => DX12_isSame_b120 k2 (DX12_isSame_L120 k2 n) l0 l2 l4
theorem lDX12_isSame_120 {G : Gt} {X : Xt} {w' : Wd} {v : Int32} (hX : CxOk G X cX12_isSame 5 RX12 (some (.int v), w'.1, w'.2.1, w'.2.2) 5) (hR : CxRet G X (some .boolean) (some (.int v), w'.1, w'.2.1, w'.2.2)) {k2 : Nat → Int32 → Dm Int32} (hk2 : ∀ (l0 : Nat) (l2 : Int32) (w : Wd), (k2 l0 l2).1 w = some (v, w') → WM G X 2 [(0, .ref l0), (1, .ref 0), (2, .int l2)] [] w.1 w.2.1 w.2.2) : ∀ (n : Nat) (l0 : Nat) (l2 : Int32) (l4 : Int32) (w : Wd), (DX12_isSame_L120 k2 n l0 l2 l4).1 w = some (v, w') → WM G X 120 [(0, .ref l0), (1, .ref 0), (2, .int l2), (4, .int l4)] [] w.1 w.2.1 w.2.2 := by
  intro n
  induction n with
  | zero =>
    intro l0 l2 l4 w h
    exact dn_ h
  | succ n ih =>
    intro l0 l2 l4 w h
    exact bDX12_isSame_120 hX hR hk2 ih l0 l2 l4 w h
noncomputable def DX12_isSame_b72 (k2 : Nat → Int32 → Dm Int32) (l0 : Nat) (l2 : Int32) (t0 : Int32) (t1 : Int32) : Dm Int32 :=
  (if t0 = t1 then (dbind (dclW (fun u => FX11_of_0 l2 8 u)) fun x2 => dbind (dread (gfR l0 12 14)) fun x3 => dbind (dread (iald x3 l2)) fun x4 => (if x2 = x4 then (dbind (dclW (fun u => FX11_of_0 l2 9 u)) fun x6 => (if x6 = (-2) then (dbind (dclW (fun u => FX11_of_0 l2 14 u)) fun x8 => (if x8 = (-2) then (DX12_isSame_L120 k2 FU l0 l2 0) else (dret 0))) else (dret 0))) else (dret 0))) else (dret 0))
theorem bDX12_isSame_72 {G : Gt} {X : Xt} {w' : Wd} {v : Int32} (hX : CxOk G X cX12_isSame 5 RX12 (some (.int v), w'.1, w'.2.1, w'.2.2) 5) (hR : CxRet G X (some .boolean) (some (.int v), w'.1, w'.2.1, w'.2.2)) {k2 : Nat → Int32 → Dm Int32} (hk2 : ∀ (l0 : Nat) (l2 : Int32) (w : Wd), (k2 l0 l2).1 w = some (v, w') → WM G X 2 [(0, .ref l0), (1, .ref 0), (2, .int l2)] [] w.1 w.2.1 w.2.2) (l0 : Nat) (l2 : Int32) (t0 : Int32) (t1 : Int32) (w : Wd) (h : (DX12_isSame_b72 k2 l0 l2 t0 t1).1 w = some (v, w')) : WM G X 72 [(0, .ref l0), (1, .ref 0), (2, .int l2)] [.int t1, .int t0] w.1 w.2.1 w.2.2 := by
  unfold DX12_isSame_b72 at h
  refine w_icmp_ne (tgt := 115) 72 hX dX12_isSame_72 (by decide) (fun c1 => ?_) (fun c1 => ?_)
  · have h := die h c1
    refine w_iconst 0 115 hX ic_0 dX12_isSame_115 ?_
    obtain ⟨rfl, rfl⟩ := d_ret h
    exact w_zret 116 hX hR (by decide) dX12_isSame_116 rfl
  · have h := dit h c1
    refine w_aload_n 1 75 hX rfl rfl dX12_isSame_75 ?_
    refine w_iload_n 2 76 hX rfl rfl dX12_isSame_76 ?_
    refine w_bipush 8 77 hX ib_8 dX12_isSame_77 ?_
    obtain ⟨x2, wx2, gx2, h⟩ := d_bind h
    refine w_invVi (av := [.int l2, .int 8]) (st := []) 79 hX CI_11 (oks_0 (dcl_ok gx2).1) rfl mv_yX11_of mi_yX11_of ml_X12_138 (cs_W (fun G u g => CX11_of_0 (G := G) l2 8 _ g) gx2) rfl (by decide) (Nat.le_of_ble_eq_true rfl) (d_le h).1 (d_le h).2 dX12_isSame_79 ?_
    refine w_aload_n 0 82 hX rfl rfl dX12_isSame_82 ?_
    obtain ⟨x3, gx3, h⟩ := d_rd h
    refine x_getR 83 hX CI_12 gx3 rfl fl_X12_23 rfl dX12_isSame_83 ?_
    refine w_iload_n 2 86 hX rfl rfl dX12_isSame_86 ?_
    obtain ⟨x4, gx4, h⟩ := d_rd h
    refine x_iald 87 hX gx4 dX12_isSame_87 ?_
    refine w_icmp_ne (tgt := 115) 88 hX dX12_isSame_88 (by decide) (fun c5 => ?_) (fun c5 => ?_)
    · have h := die h c5
      refine w_iconst 0 115 hX ic_0 dX12_isSame_115 ?_
      obtain ⟨rfl, rfl⟩ := d_ret h
      exact w_zret 116 hX hR (by decide) dX12_isSame_116 rfl
    · have h := dit h c5
      refine w_aload_n 1 91 hX rfl rfl dX12_isSame_91 ?_
      refine w_iload_n 2 92 hX rfl rfl dX12_isSame_92 ?_
      refine w_bipush 9 93 hX ib_9 dX12_isSame_93 ?_
      obtain ⟨x6, wx6, gx6, h⟩ := d_bind h
      refine w_invVi (av := [.int l2, .int 9]) (st := []) 95 hX CI_11 (oks_0 (dcl_ok gx6).1) rfl mv_yX11_of mi_yX11_of ml_X12_138 (cs_W (fun G u g => CX11_of_0 (G := G) l2 9 _ g) gx6) rfl (by decide) (Nat.le_of_ble_eq_true rfl) (d_le h).1 (d_le h).2 dX12_isSame_95 ?_
      refine w_bipush (-2) 98 hX ib_m2 dX12_isSame_98 ?_
      refine w_icmp_ne (tgt := 115) 100 hX dX12_isSame_100 (by decide) (fun c7 => ?_) (fun c7 => ?_)
      · have h := die h c7
        refine w_iconst 0 115 hX ic_0 dX12_isSame_115 ?_
        obtain ⟨rfl, rfl⟩ := d_ret h
        exact w_zret 116 hX hR (by decide) dX12_isSame_116 rfl
      · have h := dit h c7
        refine w_aload_n 1 103 hX rfl rfl dX12_isSame_103 ?_
        refine w_iload_n 2 104 hX rfl rfl dX12_isSame_104 ?_
        refine w_bipush 14 105 hX ib_14 dX12_isSame_105 ?_
        obtain ⟨x8, wx8, gx8, h⟩ := d_bind h
        refine w_invVi (av := [.int l2, .int 14]) (st := []) 107 hX CI_11 (oks_0 (dcl_ok gx8).1) rfl mv_yX11_of mi_yX11_of ml_X12_138 (cs_W (fun G u g => CX11_of_0 (G := G) l2 14 _ g) gx8) rfl (by decide) (Nat.le_of_ble_eq_true rfl) (d_le h).1 (d_le h).2 dX12_isSame_107 ?_
        refine w_bipush (-2) 110 hX ib_m2 dX12_isSame_110 ?_
        refine w_icmp_eq (tgt := 117) 112 hX dX12_isSame_112 (by decide) (fun c9 => ?_) (fun c9 => ?_)
        · have h := dit h c9
          refine w_iconst 0 117 hX ic_0 dX12_isSame_117 ?_
          refine w_istore (lv' := [(4, .int 0), (0, .ref l0), (1, .ref 0), (2, .int l2)]) 118 hX dX12_isSame_118 (by decide) rfl ?_
          exact w_sub [1, 2, 3, 0] rfl (lDX12_isSame_120 hX hR hk2 FU l0 l2 0 _ h)
        · have h := die h c9
          refine w_iconst 0 115 hX ic_0 dX12_isSame_115 ?_
          obtain ⟨rfl, rfl⟩ := d_ret h
          exact w_zret 116 hX hR (by decide) dX12_isSame_116 rfl
noncomputable def DX12_isSame_b20 (k2 : Nat → Int32 → Dm Int32) (k20 : Nat → Int32 → Nat → Int32 → Dm Int32) (l0 : Nat) (l2 : Int32) (l3 : Nat) (l4 : Int32) : Dm Int32 :=
  (if 7 ≤ l4 then (dbind (dclW (fun u => FX11_of_0 l2 7 u)) fun x2 => dbind (dread (iald l3 6)) fun x3 => (if x3 = 1 then (dbind (dread (iald l3 7)) fun x5 => DX12_isSame_b72 k2 l0 l2 x2 x5) else (DX12_isSame_b72 k2 l0 l2 x2 (-1)))) else (dbind (dclW (fun u => FX11_of_0 l2 l4 u)) fun x6 => dbind (dread (iald l3 l4)) fun x7 => (if x6 = x7 then (k20 l0 l2 l3 (l4 + 1)) else (dret 0))))
theorem bDX12_isSame_20 {G : Gt} {X : Xt} {w' : Wd} {v : Int32} (hX : CxOk G X cX12_isSame 5 RX12 (some (.int v), w'.1, w'.2.1, w'.2.2) 5) (hR : CxRet G X (some .boolean) (some (.int v), w'.1, w'.2.1, w'.2.2)) {k2 : Nat → Int32 → Dm Int32} (hk2 : ∀ (l0 : Nat) (l2 : Int32) (w : Wd), (k2 l0 l2).1 w = some (v, w') → WM G X 2 [(0, .ref l0), (1, .ref 0), (2, .int l2)] [] w.1 w.2.1 w.2.2) {k20 : Nat → Int32 → Nat → Int32 → Dm Int32} (hk20 : ∀ (l0 : Nat) (l2 : Int32) (l3 : Nat) (l4 : Int32) (w : Wd), (k20 l0 l2 l3 l4).1 w = some (v, w') → WM G X 20 [(0, .ref l0), (1, .ref 0), (2, .int l2), (3, .ref l3), (4, .int l4)] [] w.1 w.2.1 w.2.2) (l0 : Nat) (l2 : Int32) (l3 : Nat) (l4 : Int32) (w : Wd) (h : (DX12_isSame_b20 k2 k20 l0 l2 l3 l4).1 w = some (v, w')) : WM G X 20 [(0, .ref l0), (1, .ref 0), (2, .int l2), (3, .ref l3), (4, .int l4)] [] w.1 w.2.1 w.2.2 := by
  unfold DX12_isSame_b20 at h
  refine w_iload 4 20 hX rfl dX12_isSame_20 ?_
  refine w_bipush 7 22 hX ib_7 dX12_isSame_22 ?_
  refine w_icmp_ge (tgt := 49) 24 hX dX12_isSame_24 (by decide) (fun c1 => ?_) (fun c1 => ?_)
  · have h := dit h c1
    refine w_aload_n 1 49 hX rfl rfl dX12_isSame_49 ?_
    refine w_iload_n 2 50 hX rfl rfl dX12_isSame_50 ?_
    refine w_bipush 7 51 hX ib_7 dX12_isSame_51 ?_
    obtain ⟨x2, wx2, gx2, h⟩ := d_bind h
    refine w_invVi (av := [.int l2, .int 7]) (st := []) 53 hX CI_11 (oks_0 (dcl_ok gx2).1) rfl mv_yX11_of mi_yX11_of ml_X12_138 (cs_W (fun G u g => CX11_of_0 (G := G) l2 7 _ g) gx2) rfl (by decide) (Nat.le_of_ble_eq_true rfl) (d_le h).1 (d_le h).2 dX12_isSame_53 ?_
    refine w_aload_n 3 56 hX rfl rfl dX12_isSame_56 ?_
    refine w_bipush 6 57 hX ib_6 dX12_isSame_57 ?_
    obtain ⟨x3, gx3, h⟩ := d_rd h
    refine x_iald 59 hX gx3 dX12_isSame_59 ?_
    refine w_iconst 1 60 hX ic_1 dX12_isSame_60 ?_
    refine w_icmp_ne (tgt := 71) 61 hX dX12_isSame_61 (by decide) (fun c4 => ?_) (fun c4 => ?_)
    · have h := die h c4
      refine w_iconst (-1) 71 hX ic_m1 dX12_isSame_71 ?_
      exact w_sub [0, 1, 2] rfl (bDX12_isSame_72 hX hR hk2 l0 l2 x2 (-1) _ h)
    · have h := dit h c4
      refine w_aload_n 3 64 hX rfl rfl dX12_isSame_64 ?_
      refine w_bipush 7 65 hX ib_7 dX12_isSame_65 ?_
      obtain ⟨x5, gx5, h⟩ := d_rd h
      refine x_iald 67 hX gx5 dX12_isSame_67 ?_
      refine w_goto (tgt := 72) 68 hX (by decide) dX12_isSame_68 ?_
      exact w_sub [0, 1, 2] rfl (bDX12_isSame_72 hX hR hk2 l0 l2 x2 x5 _ h)
  · have h := die h c1
    refine w_aload_n 1 27 hX rfl rfl dX12_isSame_27 ?_
    refine w_iload_n 2 28 hX rfl rfl dX12_isSame_28 ?_
    refine w_iload 4 29 hX rfl dX12_isSame_29 ?_
    obtain ⟨x6, wx6, gx6, h⟩ := d_bind h
    refine w_invVi (av := [.int l2, .int l4]) (st := []) 31 hX CI_11 (oks_0 (dcl_ok gx6).1) rfl mv_yX11_of mi_yX11_of ml_X12_138 (cs_W (fun G u g => CX11_of_0 (G := G) l2 l4 _ g) gx6) rfl (by decide) (Nat.le_of_ble_eq_true rfl) (d_le h).1 (d_le h).2 dX12_isSame_31 ?_
    refine w_aload_n 3 34 hX rfl rfl dX12_isSame_34 ?_
    refine w_iload 4 35 hX rfl dX12_isSame_35 ?_
    obtain ⟨x7, gx7, h⟩ := d_rd h
    refine x_iald 37 hX gx7 dX12_isSame_37 ?_
    refine w_icmp_eq (tgt := 43) 38 hX dX12_isSame_38 (by decide) (fun c8 => ?_) (fun c8 => ?_)
    · have h := dit h c8
      refine w_iinc (lv' := [(4, .int (l4 + 1)), (0, .ref l0), (1, .ref 0), (2, .int l2), (3, .ref l3)]) 43 4 hX dX12_isSame_43 rfl (inc_1 _) (by decide) rfl ?_
      refine w_goto (tgt := 20) 46 hX (by decide) dX12_isSame_46 ?_
      exact w_sub [1, 2, 3, 4, 0] rfl (hk20 l0 l2 l3 (l4 + 1) _ h)
    · have h := die h c8
      refine w_iconst 0 41 hX ic_0 dX12_isSame_41 ?_
      obtain ⟨rfl, rfl⟩ := d_ret h
      exact w_zret 42 hX hR (by decide) dX12_isSame_42 rfl
noncomputable def DX12_isSame_L20 (k2 : Nat → Int32 → Dm Int32) : Nat → Nat → Int32 → Nat → Int32 → Dm Int32
  | 0, _, _, _, _ => dno
  | n + 1, l0, l2, l3, l4 => DX12_isSame_b20 k2 (DX12_isSame_L20 k2 n) l0 l2 l3 l4
theorem lDX12_isSame_20 {G : Gt} {X : Xt} {w' : Wd} {v : Int32} (hX : CxOk G X cX12_isSame 5 RX12 (some (.int v), w'.1, w'.2.1, w'.2.2) 5) (hR : CxRet G X (some .boolean) (some (.int v), w'.1, w'.2.1, w'.2.2)) {k2 : Nat → Int32 → Dm Int32} (hk2 : ∀ (l0 : Nat) (l2 : Int32) (w : Wd), (k2 l0 l2).1 w = some (v, w') → WM G X 2 [(0, .ref l0), (1, .ref 0), (2, .int l2)] [] w.1 w.2.1 w.2.2) : ∀ (n : Nat) (l0 : Nat) (l2 : Int32) (l3 : Nat) (l4 : Int32) (w : Wd), (DX12_isSame_L20 k2 n l0 l2 l3 l4).1 w = some (v, w') → WM G X 20 [(0, .ref l0), (1, .ref 0), (2, .int l2), (3, .ref l3), (4, .int l4)] [] w.1 w.2.1 w.2.2 := by
  intro n
  induction n with
  | zero =>
    intro l0 l2 l3 l4 w h
    exact dn_ h
  | succ n ih =>
    intro l0 l2 l3 l4 w h
    exact bDX12_isSame_20 hX hR hk2 ih l0 l2 l3 l4 w h
noncomputable def DX12_isSame_b2 (k2 : Nat → Int32 → Dm Int32) (l0 : Nat) (l2 : Int32) : Dm Int32 :=
  dbind (dread (gfI l0 12 6)) fun x1 => (if x1 ≤ l2 then (DX12_isSame_L162 FU l0 0) else (dbind (dread (gfR l0 12 16)) fun x3 => dbind (dread (aald x3 l2)) fun x4 => DX12_isSame_L20 k2 FU l0 l2 x4 0))
theorem bDX12_isSame_2 {G : Gt} {X : Xt} {w' : Wd} {v : Int32} (hX : CxOk G X cX12_isSame 5 RX12 (some (.int v), w'.1, w'.2.1, w'.2.2) 5) (hR : CxRet G X (some .boolean) (some (.int v), w'.1, w'.2.1, w'.2.2)) {k2 : Nat → Int32 → Dm Int32} (hk2 : ∀ (l0 : Nat) (l2 : Int32) (w : Wd), (k2 l0 l2).1 w = some (v, w') → WM G X 2 [(0, .ref l0), (1, .ref 0), (2, .int l2)] [] w.1 w.2.1 w.2.2) (l0 : Nat) (l2 : Int32) (w : Wd) (h : (DX12_isSame_b2 k2 l0 l2).1 w = some (v, w')) : WM G X 2 [(0, .ref l0), (1, .ref 0), (2, .int l2)] [] w.1 w.2.1 w.2.2 := by
  unfold DX12_isSame_b2 at h
  refine w_iload_n 2 2 hX rfl rfl dX12_isSame_2 ?_
  refine w_aload_n 0 3 hX rfl rfl dX12_isSame_3 ?_
  obtain ⟨x1, gx1, h⟩ := d_rd h
  refine x_getI 4 hX CI_12 gx1 rfl fl_X12_50 rfl dX12_isSame_4 ?_
  refine w_icmp_ge (tgt := 160) 7 hX dX12_isSame_7 (by decide) (fun c2 => ?_) (fun c2 => ?_)
  · have h := dit h c2
    refine w_iconst 0 160 hX ic_0 dX12_isSame_160 ?_
    refine w_istore_n (lv' := [(2, .int 0), (0, .ref l0), (1, .ref 0)]) 161 hX rfl dX12_isSame_161 (by decide) rfl ?_
    exact w_sub [1, 2, 0] rfl (lDX12_isSame_162 hX hR FU l0 0 _ h)
  · have h := die h c2
    refine w_aload_n 0 10 hX rfl rfl dX12_isSame_10 ?_
    obtain ⟨x3, gx3, h⟩ := d_rd h
    refine x_getR 11 hX CI_12 gx3 rfl fl_X12_30 rfl dX12_isSame_11 ?_
    refine w_iload_n 2 14 hX rfl rfl dX12_isSame_14 ?_
    obtain ⟨x4, gx4, h⟩ := d_rd h
    refine x_aald 15 hX gx4 dX12_isSame_15 ?_
    refine w_astore_n (lv' := [(3, .ref x4), (0, .ref l0), (1, .ref 0), (2, .int l2)]) 16 hX rfl dX12_isSame_16 (by decide) rfl ?_
    refine w_iconst 0 17 hX ic_0 dX12_isSame_17 ?_
    refine w_istore (lv' := [(4, .int 0), (3, .ref x4), (0, .ref l0), (1, .ref 0), (2, .int l2)]) 18 hX dX12_isSame_18 (by decide) rfl ?_
    exact w_sub [2, 3, 4, 1, 0] rfl (lDX12_isSame_20 hX hR hk2 FU l0 l2 x4 0 _ h)
noncomputable def DX12_isSame_L2 : Nat → Nat → Int32 → Dm Int32
  | 0, _, _ => dno
  | n + 1, l0, l2 => DX12_isSame_b2 (DX12_isSame_L2 n) l0 l2
theorem lDX12_isSame_2 {G : Gt} {X : Xt} {w' : Wd} {v : Int32} (hX : CxOk G X cX12_isSame 5 RX12 (some (.int v), w'.1, w'.2.1, w'.2.2) 5) (hR : CxRet G X (some .boolean) (some (.int v), w'.1, w'.2.1, w'.2.2)) : ∀ (n : Nat) (l0 : Nat) (l2 : Int32) (w : Wd), (DX12_isSame_L2 n l0 l2).1 w = some (v, w') → WM G X 2 [(0, .ref l0), (1, .ref 0), (2, .int l2)] [] w.1 w.2.1 w.2.2 := by
  intro n
  induction n with
  | zero =>
    intro l0 l2 w h
    exact dn_ h
  | succ n ih =>
    intro l0 l2 w h
    exact bDX12_isSame_2 hX hR ih l0 l2 w h
noncomputable def DX12_isSame (p0 : Nat) : Dm Int32 :=
  DX12_isSame_L2 FU p0 0
theorem CDX12_isSame {G : Gt} (p0 : Nat) {w w' : Wd} {v : Int32} (h : (DX12_isSame p0).1 w = some (v, w')) : CN G yX12_isSame cX12_isSame 5 (some .boolean) 5 [.ref p0, .ref 0] w (some (.int v)) w' :=
  cn_of (by decide) rfl (Nat.le_of_ble_eq_true rfl) (d_le h) (fun X hX _ hR => by
  unfold DX12_isSame at h
  refine w_iconst 0 0 hX ic_0 dX12_isSame_0 ?_
  refine w_istore_n (lv' := [(2, .int 0), (0, .ref p0), (1, .ref 0)]) 1 hX rfl dX12_isSame_1 (by decide) rfl ?_
  exact w_sub [1, 2, 0] rfl (lDX12_isSame_2 hX hR FU p0 0 _ h))
noncomputable def DX12_notes (p0 : Nat) (p1 : Int32) (p2 : Int32) (p3 : Int32) (p4 : Int32) : Dm Unit :=
  (if p4 = 0 then (dret ()) else (dbind (dread (gfI p0 12 7)) fun x2 => (if 150 ≤ x2 then (dret ()) else (dbind (dread (gfR p0 12 17)) fun x4 => dbind (dread (gfI p0 12 7)) fun x5 => dbind (dput (pfI p0 12 7 (x5 + 1))) fun _ => dbind (dnew (nwI 4)) fun x7 => dbind (dread (gfI p0 12 1)) fun x8 => dbind (dput (iast x7 0 x8)) fun _ => dbind (dput (iast x7 1 p1)) fun _ => dbind (dput (iast x7 2 p2)) fun _ => dbind (dput (iast x7 3 p3)) fun _ => dbind (dput (aast x4 x5 x7)) fun _ => dret ()))))
theorem CDX12_notes {G : Gt} (p0 : Nat) (p1 : Int32) (p2 : Int32) (p3 : Int32) (p4 : Int32) {w w' : Wd} {v : Unit} (h : (DX12_notes p0 p1 p2 p3 p4).1 w = some (v, w')) : CN G yX12_notes cX12_notes 5 none 1 [.ref p0, .int p1, .int p2, .int p3, .int p4] w (none) w' :=
  cn_of (by decide) rfl (Nat.le_of_ble_eq_true rfl) (d_le h) (fun X hX _ hR => by
  unfold DX12_notes at h
  refine w_iload 4 0 hX rfl dX12_notes_0 ?_
  refine w_if_eq (tgt := 53) 2 hX dX12_notes_2 (by decide) (fun c1 => ?_) (fun c1 => ?_)
  · have h := dit h c1
    obtain ⟨rfl, rfl⟩ := d_ret h
    exact w_vret 53 hX hR dX12_notes_53 rfl
  · have h := die h c1
    refine w_aload_n 0 5 hX rfl rfl dX12_notes_5 ?_
    obtain ⟨x2, gx2, h⟩ := d_rd h
    refine x_getI 6 hX CI_12 gx2 rfl fl_X12_53 rfl dX12_notes_6 ?_
    refine w_sipush 150 9 hX isp_150 dX12_notes_9 ?_
    refine w_icmp_ge (tgt := 53) 12 hX dX12_notes_12 (by decide) (fun c3 => ?_) (fun c3 => ?_)
    · have h := dit h c3
      obtain ⟨rfl, rfl⟩ := d_ret h
      exact w_vret 53 hX hR dX12_notes_53 rfl
    · have h := die h c3
      refine w_aload_n 0 15 hX rfl rfl dX12_notes_15 ?_
      obtain ⟨x4, gx4, h⟩ := d_rd h
      refine x_getR 16 hX CI_12 gx4 rfl fl_X12_34 rfl dX12_notes_16 ?_
      refine w_aload_n 0 19 hX rfl rfl dX12_notes_19 ?_
      refine w_dup 20 hX rfl dX12_notes_20 ?_
      obtain ⟨x5, gx5, h⟩ := d_rd h
      refine x_getI 21 hX CI_12 gx5 rfl fl_X12_53 rfl dX12_notes_21 ?_
      refine w_dup_x1 24 hX rfl rfl dX12_notes_24 ?_
      refine w_iconst 1 25 hX ic_1 dX12_notes_25 ?_
      refine w_iadd 26 hX dX12_notes_26 ?_
      obtain ⟨x6, wx6, gx6, h⟩ := d_bind h
      refine x_putI 27 hX CI_12 gx6 rfl fl_X12_53 rfl rfl rfl rfl dX12_notes_27 ?_
      refine w_iconst 4 30 hX ic_4 dX12_notes_30 ?_
      obtain ⟨x7, wx7, gx7, h⟩ := d_bind h
      refine x_newI 31 hX gx7 aw_int (d_le h) dX12_notes_31 ?_
      refine w_dup 33 hX rfl dX12_notes_33 ?_
      refine w_iconst 0 34 hX ic_0 dX12_notes_34 ?_
      refine w_aload_n 0 35 hX rfl rfl dX12_notes_35 ?_
      obtain ⟨x8, gx8, h⟩ := d_rd h
      refine x_getI 36 hX CI_12 gx8 rfl fl_X12_44 rfl dX12_notes_36 ?_
      obtain ⟨x9, wx9, gx9, h⟩ := d_bind h
      refine x_iast 39 hX gx9 dX12_notes_39 ?_
      refine w_dup 40 hX rfl dX12_notes_40 ?_
      refine w_iconst 1 41 hX ic_1 dX12_notes_41 ?_
      refine w_iload_n 1 42 hX rfl rfl dX12_notes_42 ?_
      obtain ⟨x10, wx10, gx10, h⟩ := d_bind h
      refine x_iast 43 hX gx10 dX12_notes_43 ?_
      refine w_dup 44 hX rfl dX12_notes_44 ?_
      refine w_iconst 2 45 hX ic_2 dX12_notes_45 ?_
      refine w_iload_n 2 46 hX rfl rfl dX12_notes_46 ?_
      obtain ⟨x11, wx11, gx11, h⟩ := d_bind h
      refine x_iast 47 hX gx11 dX12_notes_47 ?_
      refine w_dup 48 hX rfl dX12_notes_48 ?_
      refine w_iconst 3 49 hX ic_3 dX12_notes_49 ?_
      refine w_iload_n 3 50 hX rfl rfl dX12_notes_50 ?_
      obtain ⟨x12, wx12, gx12, h⟩ := d_bind h
      refine x_iast 51 hX gx12 dX12_notes_51 ?_
      obtain ⟨x13, wx13, gx13, h⟩ := d_bind h
      refine x_aast 52 hX gx13 dX12_notes_52 ?_
      obtain ⟨rfl, rfl⟩ := d_ret h
      exact w_vret 53 hX hR dX12_notes_53 rfl)
noncomputable def DX12_stands_b35 (k2 : Nat → Int32 → Int32 → Int32 → Dm Int32) (l0 : Nat) (l1 : Int32) (l2 : Int32) (l3 : Int32) : Dm Int32 :=
  k2 l0 l1 l2 (l3 + 1)
theorem bDX12_stands_35 {G : Gt} {X : Xt} {w' : Wd} {v : Int32} (hX : CxOk G X cX12_stands 4 RX12 (some (.int v), w'.1, w'.2.1, w'.2.2) 2) (hR : CxRet G X (some .boolean) (some (.int v), w'.1, w'.2.1, w'.2.2)) {k2 : Nat → Int32 → Int32 → Int32 → Dm Int32} (hk2 : ∀ (l0 : Nat) (l1 : Int32) (l2 : Int32) (l3 : Int32) (w : Wd), (k2 l0 l1 l2 l3).1 w = some (v, w') → WM G X 2 [(0, .ref l0), (1, .int l1), (2, .int l2), (3, .int l3)] [] w.1 w.2.1 w.2.2) (l0 : Nat) (l1 : Int32) (l2 : Int32) (l3 : Int32) (w : Wd) (h : (DX12_stands_b35 k2 l0 l1 l2 l3).1 w = some (v, w')) : WM G X 35 [(0, .ref l0), (1, .int l1), (2, .int l2), (3, .int l3)] [] w.1 w.2.1 w.2.2 := by
  unfold DX12_stands_b35 at h
  refine w_iinc (lv' := [(3, .int (l3 + 1)), (0, .ref l0), (1, .int l1), (2, .int l2)]) 35 3 hX dX12_stands_35 rfl (inc_1 _) (by decide) rfl ?_
  refine w_goto (tgt := 2) 38 hX (by decide) dX12_stands_38 ?_
  exact w_sub [1, 2, 3, 0] rfl (hk2 l0 l1 l2 (l3 + 1) _ h)
noncomputable def DX12_stands_b2 (k2 : Nat → Int32 → Int32 → Int32 → Dm Int32) (l0 : Nat) (l1 : Int32) (l2 : Int32) (l3 : Int32) : Dm Int32 :=
  dbind (dread (gfI l0 12 6)) fun x1 => (if x1 ≤ l3 then (dret 0) else (dbind (dread (isC l0 12)) fun x3 => dbind (DX12_is l0 l3 l1 1) fun x4 => (if x4 = 0 then (DX12_stands_b35 k2 l0 l1 l2 l3) else (dbind (dread (gfR l0 12 16)) fun x6 => dbind (dread (aald x6 l3)) fun x7 => dbind (dread (iald x7 7)) fun x8 => (if x8 = l2 then (dret 1) else (DX12_stands_b35 k2 l0 l1 l2 l3))))))
theorem bDX12_stands_2 {G : Gt} {X : Xt} {w' : Wd} {v : Int32} (hX : CxOk G X cX12_stands 4 RX12 (some (.int v), w'.1, w'.2.1, w'.2.2) 2) (hR : CxRet G X (some .boolean) (some (.int v), w'.1, w'.2.1, w'.2.2)) {k2 : Nat → Int32 → Int32 → Int32 → Dm Int32} (hk2 : ∀ (l0 : Nat) (l1 : Int32) (l2 : Int32) (l3 : Int32) (w : Wd), (k2 l0 l1 l2 l3).1 w = some (v, w') → WM G X 2 [(0, .ref l0), (1, .int l1), (2, .int l2), (3, .int l3)] [] w.1 w.2.1 w.2.2) (l0 : Nat) (l1 : Int32) (l2 : Int32) (l3 : Int32) (w : Wd) (h : (DX12_stands_b2 k2 l0 l1 l2 l3).1 w = some (v, w')) : WM G X 2 [(0, .ref l0), (1, .int l1), (2, .int l2), (3, .int l3)] [] w.1 w.2.1 w.2.2 := by
  unfold DX12_stands_b2 at h
  refine w_iload_n 3 2 hX rfl rfl dX12_stands_2 ?_
  refine w_aload_n 0 3 hX rfl rfl dX12_stands_3 ?_
  obtain ⟨x1, gx1, h⟩ := d_rd h
  refine x_getI 4 hX CI_12 gx1 rfl fl_X12_50 rfl dX12_stands_4 ?_
  refine w_icmp_ge (tgt := 41) 7 hX dX12_stands_7 (by decide) (fun c2 => ?_) (fun c2 => ?_)
  · have h := dit h c2
    refine w_iconst 0 41 hX ic_0 dX12_stands_41 ?_
    obtain ⟨rfl, rfl⟩ := d_ret h
    exact w_zret 42 hX hR (by decide) dX12_stands_42 rfl
  · have h := die h c2
    refine w_aload_n 0 10 hX rfl rfl dX12_stands_10 ?_
    refine w_iload_n 3 11 hX rfl rfl dX12_stands_11 ?_
    refine w_iload_n 1 12 hX rfl rfl dX12_stands_12 ?_
    refine w_iconst 1 13 hX ic_1 dX12_stands_13 ?_
    obtain ⟨x3, gx3, h⟩ := d_rd h
    obtain ⟨x4, wx4, gx4, h⟩ := d_bind h
    refine w_invVi (av := [.int l3, .int l1, .int 1]) (st := []) 14 hX CI_12 (isC_ok gx3) rfl mv_yX12_is mi_yX12_is ml_X12_93 (CDX12_is l0 l3 l1 1 gx4) rfl (by decide) (Nat.le_of_ble_eq_true rfl) (d_le h).1 (d_le h).2 dX12_stands_14 ?_
    refine w_if_eq (tgt := 35) 17 hX dX12_stands_17 (by decide) (fun c5 => ?_) (fun c5 => ?_)
    · have h := dit h c5
      exact bDX12_stands_35 hX hR hk2 l0 l1 l2 l3 _ h
    · have h := die h c5
      refine w_aload_n 0 20 hX rfl rfl dX12_stands_20 ?_
      obtain ⟨x6, gx6, h⟩ := d_rd h
      refine x_getR 21 hX CI_12 gx6 rfl fl_X12_30 rfl dX12_stands_21 ?_
      refine w_iload_n 3 24 hX rfl rfl dX12_stands_24 ?_
      obtain ⟨x7, gx7, h⟩ := d_rd h
      refine x_aald 25 hX gx7 dX12_stands_25 ?_
      refine w_bipush 7 26 hX ib_7 dX12_stands_26 ?_
      obtain ⟨x8, gx8, h⟩ := d_rd h
      refine x_iald 28 hX gx8 dX12_stands_28 ?_
      refine w_iload_n 2 29 hX rfl rfl dX12_stands_29 ?_
      refine w_icmp_ne (tgt := 35) 30 hX dX12_stands_30 (by decide) (fun c9 => ?_) (fun c9 => ?_)
      · have h := die h c9
        exact bDX12_stands_35 hX hR hk2 l0 l1 l2 l3 _ h
      · have h := dit h c9
        refine w_iconst 1 33 hX ic_1 dX12_stands_33 ?_
        obtain ⟨rfl, rfl⟩ := d_ret h
        exact w_zret 34 hX hR (by decide) dX12_stands_34 rfl
noncomputable def DX12_stands_L2 : Nat → Nat → Int32 → Int32 → Int32 → Dm Int32
  | 0, _, _, _, _ => dno
  | n + 1, l0, l1, l2, l3 => DX12_stands_b2 (DX12_stands_L2 n) l0 l1 l2 l3
theorem lDX12_stands_2 {G : Gt} {X : Xt} {w' : Wd} {v : Int32} (hX : CxOk G X cX12_stands 4 RX12 (some (.int v), w'.1, w'.2.1, w'.2.2) 2) (hR : CxRet G X (some .boolean) (some (.int v), w'.1, w'.2.1, w'.2.2)) : ∀ (n : Nat) (l0 : Nat) (l1 : Int32) (l2 : Int32) (l3 : Int32) (w : Wd), (DX12_stands_L2 n l0 l1 l2 l3).1 w = some (v, w') → WM G X 2 [(0, .ref l0), (1, .int l1), (2, .int l2), (3, .int l3)] [] w.1 w.2.1 w.2.2 := by
  intro n
  induction n with
  | zero =>
    intro l0 l1 l2 l3 w h
    exact dn_ h
  | succ n ih =>
    intro l0 l1 l2 l3 w h
    exact bDX12_stands_2 hX hR ih l0 l1 l2 l3 w h
noncomputable def DX12_stands (p0 : Nat) (p1 : Int32) (p2 : Int32) : Dm Int32 :=
  DX12_stands_L2 FU p0 p1 p2 0
theorem CDX12_stands {G : Gt} (p0 : Nat) (p1 : Int32) (p2 : Int32) {w w' : Wd} {v : Int32} (h : (DX12_stands p0 p1 p2).1 w = some (v, w')) : CN G yX12_stands cX12_stands 4 (some .boolean) 2 [.ref p0, .int p1, .int p2] w (some (.int v)) w' :=
  cn_of (by decide) rfl (Nat.le_of_ble_eq_true rfl) (d_le h) (fun X hX _ hR => by
  unfold DX12_stands at h
  refine w_iconst 0 0 hX ic_0 dX12_stands_0 ?_
  refine w_istore_n (lv' := [(3, .int 0), (0, .ref p0), (1, .int p1), (2, .int p2)]) 1 hX rfl dX12_stands_1 (by decide) rfl ?_
  exact w_sub [1, 2, 3, 0] rfl (lDX12_stands_2 hX hR FU p0 p1 p2 0 _ h))
