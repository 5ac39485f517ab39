/-! the law's own walk -/
def rdS (sl : Nat) (sv : Nat → Int32) (i : Int32) : Option Int32 := if i < 0 ∨ sl ≤ i.toNatClampNeg then none else some (sv i.toNatClampNeg)
theorem w_sldx {G : Gt} {X : Xt} {b : ByteArray} {nL : Nat} {C : String} {T : Tt} {d : Nat} {lv : List (Nat × Value)} {st : List Value} {sh : List Shp} {r : Rf} {u : Mem} {j x : Int32} (pc : Nat) (hX : CxOk G X b nL C T d) (g : rdS (gS G).2.1 (gS G).2.2 j = some x) (hd : decode b pc = .ok (.iaload, 1)) (k : WM G X (pc + 1) lv (.int x :: st) sh r u) : WM G X pc lv (.int j :: .ref 4999 :: st) sh r u := by
  unfold rdS at g
  by_cases c : j < 0 ∨ (gS G).2.1 ≤ j.toNatClampNeg
  · rw [if_pos c] at g
    cases g
  · rw [if_neg c] at g
    refine w_sld pc hX c hd ?_
    rw [Option.some.inj g]
    exact k
def LwRet (G : Gt) (X : Xt) : Prop := ∀ (pc : Nat) (lv : List (Nat × Value)) {u : Mem}, decode cL_law pc = .ok (.ireturn, 1) → WM G X pc lv [.int 1] SH RHO u
def FLW_b1064 (sl : Nat) (sv : Nat → Int32) (k18 : Int32 → Mem → Option Int32) (l3 : Int32) (u : Mem) : Option Int32 :=
  k18 (l3 + 6) u
theorem bLW_1064 {G : Gt} {X : Xt} {u9 : Mem} (hX : CxOk G X cL_law 4 RL (none, SH, RHO, u9) 1000) (hR : LwRet G X) {k18 : Int32 → Mem → Option Int32} (hk18 : ∀ (l3 : Int32) (u : Mem), k18 l3 u = some 1 → WM G X 18 [(0, .ref 4999), (1, .ref 0), (2, .ref 146), (3, .int l3)] [] SH RHO u) (l3 : Int32) (u : Mem) (h : FLW_b1064 (gS G).2.1 (gS G).2.2 k18 l3 u = some 1) : WM G X 1064 [(0, .ref 4999), (1, .ref 0), (2, .ref 146), (3, .int l3)] [] SH RHO u := by
  unfold FLW_b1064 at h
  refine w_iinc (lv' := [(3, .int (l3 + 6)), (0, .ref 4999), (1, .ref 0), (2, .ref 146)]) 1064 3 hX dL_law_1064 rfl (inc_6 _) (by decide) rfl ?_
  refine w_goto (tgt := 18) 1067 hX (by decide) dL_law_1067 ?_
  exact w_sub [1, 2, 3, 0] rfl (hk18 (l3 + 6) u h)
def FLW_b1033 (sl : Nat) (sv : Nat → Int32) (k18 : Int32 → Mem → Option Int32) (l3 t0 t2 : Int32) (u : Mem) : Option Int32 :=
  bnd2 (FX12_image_146 t2 u) fun x1 u2 => (if t0 = x1 then (FLW_b1064 sl sv k18 l3 u2) else (some 0))
theorem bLW_1033 {G : Gt} {X : Xt} {u9 : Mem} (hX : CxOk G X cL_law 4 RL (none, SH, RHO, u9) 1000) (hR : LwRet G X) {k18 : Int32 → Mem → Option Int32} (hk18 : ∀ (l3 : Int32) (u : Mem), k18 l3 u = some 1 → WM G X 18 [(0, .ref 4999), (1, .ref 0), (2, .ref 146), (3, .int l3)] [] SH RHO u) (l3 t0 t2 : Int32) (u : Mem) (h : FLW_b1033 (gS G).2.1 (gS G).2.2 k18 l3 t0 t2 u = some 1) : WM G X 1033 [(0, .ref 4999), (1, .ref 0), (2, .ref 146), (3, .int l3)] [.int t2, .ref 146, .int t0] SH RHO u := by
  unfold FLW_b1033 at h
  obtain ⟨x1, u2, gx1, h⟩ := o_bnd2 h
  refine w_invVi (av := [.int t2]) (st := [.int t0]) 1033 hX CI_12 s_146 rfl mv_yX12_image mi_yX12_image ml_L_139 (CX12_image_146 t2 u gx1) rfl (by decide) (Nat.le_of_ble_eq_true rfl) (Nat.le_refl _) (Nat.le_refl _) dL_law_1033 ?_
  refine w_icmp_eq (tgt := 1064) 1036 hX dL_law_1036 (by decide) (fun c3 => ?_) (fun c3 => ?_)
  · have h := it h c3
    exact bLW_1064 hX hR hk18 l3 u2 h
  · have h := ie h c3
    refine w_iconst 0 1039 hX ic_0 dL_law_1039 ?_
    exact absurd (Option.some.inj h) (by decide)
def FLW_b1016 (sl : Nat) (sv : Nat → Int32) (k18 : Int32 → Mem → Option Int32) (l3 t1 : Int32) (u : Mem) : Option Int32 :=
  bnd2 (FX11_image_0 t1 u) fun x1 u2 => (rdS sl sv (l3 + 1)).bind fun x3 => (if x3 = 0 then (FLW_b1033 sl sv k18 l3 x1 0 u2) else (FLW_b1033 sl sv k18 l3 x1 1 u2))
theorem bLW_1016 {G : Gt} {X : Xt} {u9 : Mem} (hX : CxOk G X cL_law 4 RL (none, SH, RHO, u9) 1000) (hR : LwRet G X) {k18 : Int32 → Mem → Option Int32} (hk18 : ∀ (l3 : Int32) (u : Mem), k18 l3 u = some 1 → WM G X 18 [(0, .ref 4999), (1, .ref 0), (2, .ref 146), (3, .int l3)] [] SH RHO u) (l3 t1 : Int32) (u : Mem) (h : FLW_b1016 (gS G).2.1 (gS G).2.2 k18 l3 t1 u = some 1) : WM G X 1016 [(0, .ref 4999), (1, .ref 0), (2, .ref 146), (3, .int l3)] [.int t1, .ref 0] SH RHO u := by
  unfold FLW_b1016 at h
  obtain ⟨x1, u2, gx1, h⟩ := o_bnd2 h
  refine w_invVi (av := [.int t1]) (st := []) 1016 hX CI_11 s_0 rfl mv_yX11_image mi_yX11_image ml_L_135 (CX11_image_0 t1 u gx1) rfl (by decide) (Nat.le_of_ble_eq_true rfl) (Nat.le_refl _) (Nat.le_refl _) dL_law_1016 ?_
  refine w_aload_n 2 1019 hX rfl rfl dL_law_1019 ?_
  refine w_aload_n 0 1020 hX rfl rfl dL_law_1020 ?_
  refine w_iload_n 3 1021 hX rfl rfl dL_law_1021 ?_
  refine w_iconst 1 1022 hX ic_1 dL_law_1022 ?_
  refine w_iadd 1023 hX dL_law_1023 ?_
  obtain ⟨x3, gx3, h⟩ := o_bind h
  refine w_sldx 1024 hX gx3 dL_law_1024 ?_
  refine w_if_eq (tgt := 1032) 1025 hX dL_law_1025 (by decide) (fun c4 => ?_) (fun c4 => ?_)
  · have h := it h c4
    refine w_iconst 0 1032 hX ic_0 dL_law_1032 ?_
    exact bLW_1033 hX hR hk18 l3 x1 0 u2 h
  · have h := ie h c4
    refine w_iconst 1 1028 hX ic_1 dL_law_1028 ?_
    refine w_goto (tgt := 1033) 1029 hX (by decide) dL_law_1029 ?_
    exact bLW_1033 hX hR hk18 l3 x1 1 u2 h
def FLW_b18 (sl : Nat) (sv : Nat → Int32) (k18 : Int32 → Mem → Option Int32) (l3 : Int32) (u : Mem) : Option Int32 :=
  (if ((nI sl) - 6) < l3 then (some 1) else ((rdS sl sv l3).bind fun x2 => (if (x2 &&& 31) = 0 then ((rdS sl sv (l3 + 1)).bind fun x4 => bnd2 (FX11_state_0 x4 u) fun x5 u6 => (rdS sl sv (l3 + 1)).bind fun x7 => bnd2 (FX12_state_146 x7 u6) fun x8 u9 => (if x5 = x8 then (FLW_b1064 sl sv k18 l3 u9) else (some 0))) else ((if (x2 &&& 31) = 1 then ((rdS sl sv (l3 + 1)).bind fun x12 => (rdS sl sv (l3 + 2)).bind fun x13 => (rdS sl sv (l3 + 3)).bind fun x14 => bnd2 (FX11_man_0 x12 x13 x14 u) fun x15 u16 => (rdS sl sv (l3 + 1)).bind fun x17 => (rdS sl sv (l3 + 2)).bind fun x18 => (rdS sl sv (l3 + 3)).bind fun x19 => bnd2 (FX12_man_146 x17 x18 x19 u16) fun x20 u21 => (if x15 = x20 then (FLW_b1064 sl sv k18 l3 u21) else (some 0))) else ((if (x2 &&& 31) = 2 then ((rdS sl sv (l3 + 1)).bind fun x24 => (rdS sl sv (l3 + 2)).bind fun x25 => (rdS sl sv (l3 + 3)).bind fun x26 => bnd2 (FX11_set_0 x24 x25 x26 u) fun x27 u28 => (rdS sl sv (l3 + 1)).bind fun x29 => (rdS sl sv (l3 + 2)).bind fun x30 => (rdS sl sv (l3 + 3)).bind fun x31 => bnd2 (FX12_set_146 x29 x30 x31 u28) fun x32 u33 => (if x27 = x32 then (FLW_b1064 sl sv k18 l3 u33) else (some 0))) else ((if (x2 &&& 31) = 3 then ((rdS sl sv (l3 + 1)).bind fun x36 => (rdS sl sv (l3 + 2)).bind fun x37 => bnd2 (FX11_teach_0 x36 x37 u) fun x38 u39 => (rdS sl sv (l3 + 1)).bind fun x40 => (rdS sl sv (l3 + 2)).bind fun x41 => bnd2 (FX12_teach_146 x40 x41 u39) fun x42 u43 => (if x38 = x42 then (FLW_b1064 sl sv k18 l3 u43) else (some 0))) else ((if (x2 &&& 31) = 4 then ((rdS sl sv (l3 + 1)).bind fun x46 => (rdS sl sv (l3 + 2)).bind fun x47 => (rdS sl sv (l3 + 3)).bind fun x48 => bnd2 (FX11_send_0 x46 x47 x48 u) fun x49 u50 => (rdS sl sv (l3 + 1)).bind fun x51 => (rdS sl sv (l3 + 2)).bind fun x52 => (rdS sl sv (l3 + 3)).bind fun x53 => bnd2 (FX12_send_146 x51 x52 x53 u50) fun x54 u55 => (if x49 = x54 then (FLW_b1064 sl sv k18 l3 u55) else (some 0))) else ((if (x2 &&& 31) = 5 then ((rdS sl sv (l3 + 1)).bind fun x58 => bnd2 (FX11_days_0 x58 u) fun x59 u60 => (rdS sl sv (l3 + 1)).bind fun x61 => bnd2 (FX12_days_146 x61 u60) fun x62 u63 => (if x59 = x62 then (FLW_b1064 sl sv k18 l3 u63) else (some 0))) else ((if (x2 &&& 31) = 6 then ((rdS sl sv (l3 + 1)).bind fun x66 => (rdS sl sv (l3 + 2)).bind fun x67 => (rdS sl sv (l3 + 3)).bind fun x68 => (rdS sl sv (l3 + 4)).bind fun x69 => (rdS sl sv (l3 + 5)).bind fun x70 => bnd2 (FX11_feed_0 x66 x67 x68 x69 x70 u) fun x71 u72 => (rdS sl sv (l3 + 1)).bind fun x73 => (rdS sl sv (l3 + 2)).bind fun x74 => (rdS sl sv (l3 + 3)).bind fun x75 => (rdS sl sv (l3 + 4)).bind fun x76 => (rdS sl sv (l3 + 5)).bind fun x77 => bnd2 (FX12_feed_146 x73 x74 x75 x76 x77 u72) fun x78 u79 => (if x71 = x78 then (FLW_b1064 sl sv k18 l3 u79) else (some 0))) else ((if (x2 &&& 31) = 7 then ((rdS sl sv (l3 + 1)).bind fun x82 => bnd2 (FX11_end_0 x82 u) fun x83 u84 => (rdS sl sv (l3 + 1)).bind fun x85 => bnd2 (FX12_end_146 x85 u84) fun x86 u87 => (if x83 = x86 then (FLW_b1064 sl sv k18 l3 u87) else (some 0))) else ((if (x2 &&& 31) = 8 then ((rdS sl sv (l3 + 1)).bind fun x90 => bnd2 (FX11_text_0 x90 u) fun x91 u92 => (rdS sl sv (l3 + 1)).bind fun x93 => bnd2 (FX12_text_146 x93 u92) fun x94 u95 => (if x91 = x94 then (FLW_b1064 sl sv k18 l3 u95) else (some 0))) else ((if (x2 &&& 31) = 9 then ((rdS sl sv (l3 + 1)).bind fun x98 => (FX11_fault_0 x98 u).bind fun x99 => (rdS sl sv (l3 + 1)).bind fun x100 => (FX12_fault_146 x100 u).bind fun x101 => (if x99 = x101 then (FLW_b1064 sl sv k18 l3 u) else (some 0))) else ((if (x2 &&& 31) = 10 then ((rdS sl sv (l3 + 1)).bind fun x104 => (rdS sl sv (l3 + 2)).bind fun x105 => bnd2 (FX11_of_0 x104 x105 u) fun x106 u107 => (rdS sl sv (l3 + 1)).bind fun x108 => (rdS sl sv (l3 + 2)).bind fun x109 => bnd2 (FX12_of_146 x108 x109 u107) fun x110 u111 => (if x106 = x110 then (FLW_b1064 sl sv k18 l3 u111) else (some 0))) else ((if (x2 &&& 31) = 11 then ((rdS sl sv (l3 + 1)).bind fun x114 => (FX11_weight_0 x114 u).bind fun x115 => (rdS sl sv (l3 + 1)).bind fun x116 => (FX12_weight_146 x116 u).bind fun x117 => (if x115 = x117 then (FLW_b1064 sl sv k18 l3 u) else (some 0))) else ((if (x2 &&& 31) = 12 then ((rdS sl sv (l3 + 1)).bind fun x120 => (rdS sl sv (l3 + 2)).bind fun x121 => (FX11_country_0 x120 x121 u).bind fun x122 => (rdS sl sv (l3 + 1)).bind fun x123 => (rdS sl sv (l3 + 2)).bind fun x124 => (FX12_country_146 x123 x124 u).bind fun x125 => (if x122 = x125 then (FLW_b1064 sl sv k18 l3 u) else (some 0))) else ((if (x2 &&& 31) = 13 then ((rdS sl sv (l3 + 1)).bind fun x128 => (rdS sl sv (l3 + 2)).bind fun x129 => (FX11_book_0 x128 x129 u).bind fun x130 => (rdS sl sv (l3 + 1)).bind fun x131 => (rdS sl sv (l3 + 2)).bind fun x132 => (FX12_book_146 x131 x132 u).bind fun x133 => (if x130 = x133 then (FLW_b1064 sl sv k18 l3 u) else (some 0))) else ((if (x2 &&& 31) = 14 then ((rdS sl sv (l3 + 1)).bind fun x136 => bnd2 (FX11_lasts_0 x136 u) fun x137 u138 => (rdS sl sv (l3 + 1)).bind fun x139 => bnd2 (FX12_lasts_146 x139 u138) fun x140 u141 => (if x137 = x140 then (FLW_b1064 sl sv k18 l3 u141) else (some 0))) else ((if (x2 &&& 31) = 15 then ((rdS sl sv (l3 + 1)).bind fun x144 => (rdS sl sv (l3 + 2)).bind fun x145 => bnd2 (FX11_soonest_0 x144 x145 u) fun x146 u147 => (rdS sl sv (l3 + 1)).bind fun x148 => (rdS sl sv (l3 + 2)).bind fun x149 => bnd2 (FX12_soonest_146 x148 x149 u147) fun x150 u151 => (if x146 = x150 then (FLW_b1064 sl sv k18 l3 u151) else (some 0))) else ((if (x2 &&& 31) = 16 then ((rdS sl sv (l3 + 1)).bind fun x154 => bnd2 (FX11_from_0 x154 u) fun x155 u156 => (rdS sl sv (l3 + 1)).bind fun x157 => bnd2 (FX12_from_146 x157 u156) fun x158 u159 => (if x155 = x158 then (FLW_b1064 sl sv k18 l3 u159) else (some 0))) else ((if (x2 &&& 31) = 17 then ((rdS sl sv (l3 + 1)).bind fun x162 => (FX11_hears_0 x162 u).bind fun x163 => (rdS sl sv (l3 + 1)).bind fun x164 => (FX12_hears_146 x164 u).bind fun x165 => (if x163 = x165 then (FLW_b1064 sl sv k18 l3 u) else (some 0))) else ((if (x2 &&& 31) = 18 then ((rdS sl sv (l3 + 1)).bind fun x168 => (rdS sl sv (l3 + 2)).bind fun x169 => bnd2 (FX11_knees_0 x168 x169 u) fun x170 u171 => (rdS sl sv (l3 + 1)).bind fun x172 => (rdS sl sv (l3 + 2)).bind fun x173 => (FX12_knees_146 x172 x173 u171).bind fun x174 => (if x170 = x174 then (FLW_b1064 sl sv k18 l3 u171) else (some 0))) else ((if (x2 &&& 31) = 19 then ((rdS sl sv (l3 + 1)).bind fun x177 => (rdS sl sv (l3 + 2)).bind fun x178 => (rdS sl sv (l3 + 3)).bind fun x179 => (rdS sl sv (l3 + 4)).bind fun x180 => (FX11_march_0 x177 x178 x179 x180 u).bind fun x181 => (rdS sl sv (l3 + 1)).bind fun x182 => (rdS sl sv (l3 + 2)).bind fun x183 => (rdS sl sv (l3 + 3)).bind fun x184 => (rdS sl sv (l3 + 4)).bind fun x185 => (FX12_march_146 x182 x183 x184 x185 u).bind fun x186 => (if x181 = x186 then (FLW_b1064 sl sv k18 l3 u) else (some 0))) else ((if (x2 &&& 31) = 20 then ((rdS sl sv (l3 + 1)).bind fun x189 => (rdS sl sv (l3 + 2)).bind fun x190 => bnd2 (FX11_stands_0 x189 x190 u) fun x191 u192 => (rdS sl sv (l3 + 1)).bind fun x193 => (rdS sl sv (l3 + 2)).bind fun x194 => bnd2 (FX12_stands_146 x193 x194 u192) fun x195 u196 => (if x191 = x195 then (FLW_b1064 sl sv k18 l3 u196) else (some 0))) else ((if (x2 &&& 31) = 21 then ((rdS sl sv (l3 + 1)).bind fun x199 => (rdS sl sv (l3 + 2)).bind fun x200 => (rdS sl sv (l3 + 3)).bind fun x201 => bnd2 (FX11_slipper_0 x199 x200 x201 u) fun x202 u203 => (rdS sl sv (l3 + 1)).bind fun x204 => (rdS sl sv (l3 + 2)).bind fun x205 => (rdS sl sv (l3 + 3)).bind fun x206 => bnd2 (FX12_slipper_146 x204 x205 x206 u203) fun x207 u208 => (if x202 = x207 then (FLW_b1064 sl sv k18 l3 u208) else (some 0))) else ((if (x2 &&& 31) = 22 then ((FX11_left_0 u).bind fun x211 => (FX12_left_146 u).bind fun x212 => (if x211 = x212 then (FLW_b1064 sl sv k18 l3 u) else (some 0))) else ((if (x2 &&& 31) = 23 then ((FX11_ask_0 u).bind fun x215 => (FX12_ask_146 u).bind fun x216 => (if x215 = x216 then (FLW_b1064 sl sv k18 l3 u) else (some 0))) else ((if (x2 &&& 31) = 24 then ((rdS sl sv (l3 + 1)).bind fun x219 => (rdS sl sv (l3 + 2)).bind fun x220 => bnd2 (FX11_forgets_0 x219 x220 u) fun x221 u222 => (rdS sl sv (l3 + 1)).bind fun x223 => (rdS sl sv (l3 + 2)).bind fun x224 => bnd2 (FX12_forgets_146 x223 x224 u222) fun x225 u226 => (if x221 = x225 then (FLW_b1064 sl sv k18 l3 u226) else (some 0))) else ((if (x2 &&& 31) = 25 then ((FX11_last_0 u).bind fun x229 => (FX12_last_146 u).bind fun x230 => (if x229 = x230 then (FLW_b1064 sl sv k18 l3 u) else (some 0))) else ((if (x2 &&& 31) = 26 then ((rdS sl sv (l3 + 1)).bind fun x233 => (FX11_treaty_0 x233 u).bind fun x234 => (rdS sl sv (l3 + 1)).bind fun x235 => (FX12_treaty_146 x235 u).bind fun x236 => (if x234 = x236 then (FLW_b1064 sl sv k18 l3 u) else (some 0))) else ((if (x2 &&& 31) = 27 then (bnd2 (FX11_undo_0 u) fun x239 u240 => bnd2 (FX12_undo_146 u240) fun x241 u242 => (if x239 = x241 then (FLW_b1064 sl sv k18 l3 u242) else (some 0))) else ((if (x2 &&& 31) = 28 then ((rdS sl sv (l3 + 1)).bind fun x245 => (if x245 = 0 then (FLW_b1016 sl sv k18 l3 0 u) else (FLW_b1016 sl sv k18 l3 1 u))) else ((if (x2 &&& 31) = 29 then ((rdS sl sv (l3 + 1)).bind fun x248 => (FX11_look_0 x248 u).bind fun x249 => (rdS sl sv (l3 + 1)).bind fun x250 => (FX12_look_146 x250 u).bind fun x251 => (if x249 = x251 then (FLW_b1064 sl sv k18 l3 u) else (some 0))) else (FLW_b1064 sl sv k18 l3 u))))))))))))))))))))))))))))))))))))))))))))))))))))))))))))))
theorem bLW_18 {G : Gt} {X : Xt} {u9 : Mem} (hX : CxOk G X cL_law 4 RL (none, SH, RHO, u9) 1000) (hR : LwRet G X) {k18 : Int32 → Mem → Option Int32} (hk18 : ∀ (l3 : Int32) (u : Mem), k18 l3 u = some 1 → WM G X 18 [(0, .ref 4999), (1, .ref 0), (2, .ref 146), (3, .int l3)] [] SH RHO u) (l3 : Int32) (u : Mem) (h : FLW_b18 (gS G).2.1 (gS G).2.2 k18 l3 u = some 1) : WM G X 18 [(0, .ref 4999), (1, .ref 0), (2, .ref 146), (3, .int l3)] [] SH RHO u := by
  unfold FLW_b18 at h
  refine w_iload_n 3 18 hX rfl rfl dL_law_18 ?_
  refine w_aload_n 0 19 hX rfl rfl dL_law_19 ?_
  refine w_slen 20 hX dL_law_20 ?_
  refine w_bipush 6 21 hX ib_6 dL_law_21 ?_
  refine w_isub 23 hX dL_law_23 ?_
  refine w_icmp_gt (tgt := 1070) 24 hX dL_law_24 (by decide) (fun c1 => ?_) (fun c1 => ?_)
  · have h := it h c1
    refine w_iconst 1 1070 hX ic_1 dL_law_1070 ?_
    exact hR 1071 _ dL_law_1071
  · have h := ie h c1
    refine w_aload_n 0 27 hX rfl rfl dL_law_27 ?_
    refine w_iload_n 3 28 hX rfl rfl dL_law_28 ?_
    obtain ⟨x2, gx2, h⟩ := o_bind h
    refine w_sldx 29 hX gx2 dL_law_29 ?_
    refine w_bipush 31 30 hX ib_31 dL_law_30 ?_
    refine w_iand 32 hX dL_law_32 ?_
    by_cases c3 : (x2 &&& 31) = 0
    · have h := it h c3
      refine w_tabIn (tgt := 168) (off := 135) 33 hX dL_law_33 (by rw [c3]; decide) (by rw [c3]; decide) (by rw [c3]; decide) (by decide) ?_
      refine w_aload_n 1 168 hX rfl rfl dL_law_168 ?_
      refine w_aload_n 0 169 hX rfl rfl dL_law_169 ?_
      refine w_iload_n 3 170 hX rfl rfl dL_law_170 ?_
      refine w_iconst 1 171 hX ic_1 dL_law_171 ?_
      refine w_iadd 172 hX dL_law_172 ?_
      obtain ⟨x4, gx4, h⟩ := o_bind h
      refine w_sldx 173 hX gx4 dL_law_173 ?_
      obtain ⟨x5, u6, gx5, h⟩ := o_bnd2 h
      refine w_invVi (av := [.int x4]) (st := []) 174 hX CI_11 s_0 rfl mv_yX11_state mi_yX11_state ml_L_13 (CX11_state_0 x4 u gx5) rfl (by decide) (Nat.le_of_ble_eq_true rfl) (Nat.le_refl _) (Nat.le_refl _) dL_law_174 ?_
      refine w_aload_n 2 177 hX rfl rfl dL_law_177 ?_
      refine w_aload_n 0 178 hX rfl rfl dL_law_178 ?_
      refine w_iload_n 3 179 hX rfl rfl dL_law_179 ?_
      refine w_iconst 1 180 hX ic_1 dL_law_180 ?_
      refine w_iadd 181 hX dL_law_181 ?_
      obtain ⟨x7, gx7, h⟩ := o_bind h
      refine w_sldx 182 hX gx7 dL_law_182 ?_
      obtain ⟨x8, u9, gx8, h⟩ := o_bnd2 h
      refine w_invVi (av := [.int x7]) (st := [.int x5]) 183 hX CI_12 s_146 rfl mv_yX12_state mi_yX12_state ml_L_17 (CX12_state_146 x7 u6 gx8) rfl (by decide) (Nat.le_of_ble_eq_true rfl) (Nat.le_refl _) (Nat.le_refl _) dL_law_183 ?_
      refine w_icmp_eq (tgt := 1064) 186 hX dL_law_186 (by decide) (fun c10 => ?_) (fun c10 => ?_)
      · have h := it h c10
        exact bLW_1064 hX hR hk18 l3 u9 h
      · have h := ie h c10
        refine w_iconst 0 189 hX ic_0 dL_law_189 ?_
        exact absurd (Option.some.inj h) (by decide)
    · have h := ie h c3
      by_cases c11 : (x2 &&& 31) = 1
      · have h := it h c11
        refine w_tabIn (tgt := 191) (off := 158) 33 hX dL_law_33 (by rw [c11]; decide) (by rw [c11]; decide) (by rw [c11]; decide) (by decide) ?_
        refine w_aload_n 1 191 hX rfl rfl dL_law_191 ?_
        refine w_aload_n 0 192 hX rfl rfl dL_law_192 ?_
        refine w_iload_n 3 193 hX rfl rfl dL_law_193 ?_
        refine w_iconst 1 194 hX ic_1 dL_law_194 ?_
        refine w_iadd 195 hX dL_law_195 ?_
        obtain ⟨x12, gx12, h⟩ := o_bind h
        refine w_sldx 196 hX gx12 dL_law_196 ?_
        refine w_aload_n 0 197 hX rfl rfl dL_law_197 ?_
        refine w_iload_n 3 198 hX rfl rfl dL_law_198 ?_
        refine w_iconst 2 199 hX ic_2 dL_law_199 ?_
        refine w_iadd 200 hX dL_law_200 ?_
        obtain ⟨x13, gx13, h⟩ := o_bind h
        refine w_sldx 201 hX gx13 dL_law_201 ?_
        refine w_aload_n 0 202 hX rfl rfl dL_law_202 ?_
        refine w_iload_n 3 203 hX rfl rfl dL_law_203 ?_
        refine w_iconst 3 204 hX ic_3 dL_law_204 ?_
        refine w_iadd 205 hX dL_law_205 ?_
        obtain ⟨x14, gx14, h⟩ := o_bind h
        refine w_sldx 206 hX gx14 dL_law_206 ?_
        obtain ⟨x15, u16, gx15, h⟩ := o_bnd2 h
        refine w_invVi (av := [.int x12, .int x13, .int x14]) (st := []) 207 hX CI_11 s_0 rfl mv_yX11_man mi_yX11_man ml_L_18 (CX11_man_0 x12 x13 x14 u gx15) rfl (by decide) (Nat.le_of_ble_eq_true rfl) (Nat.le_refl _) (Nat.le_refl _) dL_law_207 ?_
        refine w_aload_n 2 210 hX rfl rfl dL_law_210 ?_
        refine w_aload_n 0 211 hX rfl rfl dL_law_211 ?_
        refine w_iload_n 3 212 hX rfl rfl dL_law_212 ?_
        refine w_iconst 1 213 hX ic_1 dL_law_213 ?_
        refine w_iadd 214 hX dL_law_214 ?_
        obtain ⟨x17, gx17, h⟩ := o_bind h
        refine w_sldx 215 hX gx17 dL_law_215 ?_
        refine w_aload_n 0 216 hX rfl rfl dL_law_216 ?_
        refine w_iload_n 3 217 hX rfl rfl dL_law_217 ?_
        refine w_iconst 2 218 hX ic_2 dL_law_218 ?_
        refine w_iadd 219 hX dL_law_219 ?_
        obtain ⟨x18, gx18, h⟩ := o_bind h
        refine w_sldx 220 hX gx18 dL_law_220 ?_
        refine w_aload_n 0 221 hX rfl rfl dL_law_221 ?_
        refine w_iload_n 3 222 hX rfl rfl dL_law_222 ?_
        refine w_iconst 3 223 hX ic_3 dL_law_223 ?_
        refine w_iadd 224 hX dL_law_224 ?_
        obtain ⟨x19, gx19, h⟩ := o_bind h
        refine w_sldx 225 hX gx19 dL_law_225 ?_
        obtain ⟨x20, u21, gx20, h⟩ := o_bnd2 h
        refine w_invVi (av := [.int x17, .int x18, .int x19]) (st := [.int x15]) 226 hX CI_12 s_146 rfl mv_yX12_man mi_yX12_man ml_L_22 (CX12_man_146 x17 x18 x19 u16 gx20) rfl (by decide) (Nat.le_of_ble_eq_true rfl) (Nat.le_refl _) (Nat.le_refl _) dL_law_226 ?_
        refine w_icmp_eq (tgt := 1064) 229 hX dL_law_229 (by decide) (fun c22 => ?_) (fun c22 => ?_)
        · have h := it h c22
          exact bLW_1064 hX hR hk18 l3 u21 h
        · have h := ie h c22
          refine w_iconst 0 232 hX ic_0 dL_law_232 ?_
          exact absurd (Option.some.inj h) (by decide)
      · have h := ie h c11
        by_cases c23 : (x2 &&& 31) = 2
        · have h := it h c23
          refine w_tabIn (tgt := 234) (off := 201) 33 hX dL_law_33 (by rw [c23]; decide) (by rw [c23]; decide) (by rw [c23]; decide) (by decide) ?_
          refine w_aload_n 1 234 hX rfl rfl dL_law_234 ?_
          refine w_aload_n 0 235 hX rfl rfl dL_law_235 ?_
          refine w_iload_n 3 236 hX rfl rfl dL_law_236 ?_
          refine w_iconst 1 237 hX ic_1 dL_law_237 ?_
          refine w_iadd 238 hX dL_law_238 ?_
          obtain ⟨x24, gx24, h⟩ := o_bind h
          refine w_sldx 239 hX gx24 dL_law_239 ?_
          refine w_aload_n 0 240 hX rfl rfl dL_law_240 ?_
          refine w_iload_n 3 241 hX rfl rfl dL_law_241 ?_
          refine w_iconst 2 242 hX ic_2 dL_law_242 ?_
          refine w_iadd 243 hX dL_law_243 ?_
          obtain ⟨x25, gx25, h⟩ := o_bind h
          refine w_sldx 244 hX gx25 dL_law_244 ?_
          refine w_aload_n 0 245 hX rfl rfl dL_law_245 ?_
          refine w_iload_n 3 246 hX rfl rfl dL_law_246 ?_
          refine w_iconst 3 247 hX ic_3 dL_law_247 ?_
          refine w_iadd 248 hX dL_law_248 ?_
          obtain ⟨x26, gx26, h⟩ := o_bind h
          refine w_sldx 249 hX gx26 dL_law_249 ?_
          obtain ⟨x27, u28, gx27, h⟩ := o_bnd2 h
          refine w_invVi (av := [.int x24, .int x25, .int x26]) (st := []) 250 hX CI_11 s_0 rfl mv_yX11_set mi_yX11_set ml_L_23 (CX11_set_0 x24 x25 x26 u gx27) rfl (by decide) (Nat.le_of_ble_eq_true rfl) (Nat.le_refl _) (Nat.le_refl _) dL_law_250 ?_
          refine w_aload_n 2 253 hX rfl rfl dL_law_253 ?_
          refine w_aload_n 0 254 hX rfl rfl dL_law_254 ?_
          refine w_iload_n 3 255 hX rfl rfl dL_law_255 ?_
          refine w_iconst 1 256 hX ic_1 dL_law_256 ?_
          refine w_iadd 257 hX dL_law_257 ?_
          obtain ⟨x29, gx29, h⟩ := o_bind h
          refine w_sldx 258 hX gx29 dL_law_258 ?_
          refine w_aload_n 0 259 hX rfl rfl dL_law_259 ?_
          refine w_iload_n 3 260 hX rfl rfl dL_law_260 ?_
          refine w_iconst 2 261 hX ic_2 dL_law_261 ?_
          refine w_iadd 262 hX dL_law_262 ?_
          obtain ⟨x30, gx30, h⟩ := o_bind h
          refine w_sldx 263 hX gx30 dL_law_263 ?_
          refine w_aload_n 0 264 hX rfl rfl dL_law_264 ?_
          refine w_iload_n 3 265 hX rfl rfl dL_law_265 ?_
          refine w_iconst 3 266 hX ic_3 dL_law_266 ?_
          refine w_iadd 267 hX dL_law_267 ?_
          obtain ⟨x31, gx31, h⟩ := o_bind h
          refine w_sldx 268 hX gx31 dL_law_268 ?_
          obtain ⟨x32, u33, gx32, h⟩ := o_bnd2 h
          refine w_invVi (av := [.int x29, .int x30, .int x31]) (st := [.int x27]) 269 hX CI_12 s_146 rfl mv_yX12_set mi_yX12_set ml_L_27 (CX12_set_146 x29 x30 x31 u28 gx32) rfl (by decide) (Nat.le_of_ble_eq_true rfl) (Nat.le_refl _) (Nat.le_refl _) dL_law_269 ?_
          refine w_icmp_eq (tgt := 1064) 272 hX dL_law_272 (by decide) (fun c34 => ?_) (fun c34 => ?_)
          · have h := it h c34
            exact bLW_1064 hX hR hk18 l3 u33 h
          · have h := ie h c34
            refine w_iconst 0 275 hX ic_0 dL_law_275 ?_
            exact absurd (Option.some.inj h) (by decide)
        · have h := ie h c23
          by_cases c35 : (x2 &&& 31) = 3
          · have h := it h c35
            refine w_tabIn (tgt := 277) (off := 244) 33 hX dL_law_33 (by rw [c35]; decide) (by rw [c35]; decide) (by rw [c35]; decide) (by decide) ?_
            refine w_aload_n 1 277 hX rfl rfl dL_law_277 ?_
            refine w_aload_n 0 278 hX rfl rfl dL_law_278 ?_
            refine w_iload_n 3 279 hX rfl rfl dL_law_279 ?_
            refine w_iconst 1 280 hX ic_1 dL_law_280 ?_
            refine w_iadd 281 hX dL_law_281 ?_
            obtain ⟨x36, gx36, h⟩ := o_bind h
            refine w_sldx 282 hX gx36 dL_law_282 ?_
            refine w_aload_n 0 283 hX rfl rfl dL_law_283 ?_
            refine w_iload_n 3 284 hX rfl rfl dL_law_284 ?_
            refine w_iconst 2 285 hX ic_2 dL_law_285 ?_
            refine w_iadd 286 hX dL_law_286 ?_
            obtain ⟨x37, gx37, h⟩ := o_bind h
            refine w_sldx 287 hX gx37 dL_law_287 ?_
            obtain ⟨x38, u39, gx38, h⟩ := o_bnd2 h
            refine w_invVi (av := [.int x36, .int x37]) (st := []) 288 hX CI_11 s_0 rfl mv_yX11_teach mi_yX11_teach ml_L_28 (CX11_teach_0 x36 x37 u gx38) rfl (by decide) (Nat.le_of_ble_eq_true rfl) (Nat.le_refl _) (Nat.le_refl _) dL_law_288 ?_
            refine w_aload_n 2 291 hX rfl rfl dL_law_291 ?_
            refine w_aload_n 0 292 hX rfl rfl dL_law_292 ?_
            refine w_iload_n 3 293 hX rfl rfl dL_law_293 ?_
            refine w_iconst 1 294 hX ic_1 dL_law_294 ?_
            refine w_iadd 295 hX dL_law_295 ?_
            obtain ⟨x40, gx40, h⟩ := o_bind h
            refine w_sldx 296 hX gx40 dL_law_296 ?_
            refine w_aload_n 0 297 hX rfl rfl dL_law_297 ?_
            refine w_iload_n 3 298 hX rfl rfl dL_law_298 ?_
            refine w_iconst 2 299 hX ic_2 dL_law_299 ?_
            refine w_iadd 300 hX dL_law_300 ?_
            obtain ⟨x41, gx41, h⟩ := o_bind h
            refine w_sldx 301 hX gx41 dL_law_301 ?_
            obtain ⟨x42, u43, gx42, h⟩ := o_bnd2 h
            refine w_invVi (av := [.int x40, .int x41]) (st := [.int x38]) 302 hX CI_12 s_146 rfl mv_yX12_teach mi_yX12_teach ml_L_32 (CX12_teach_146 x40 x41 u39 gx42) rfl (by decide) (Nat.le_of_ble_eq_true rfl) (Nat.le_refl _) (Nat.le_refl _) dL_law_302 ?_
            refine w_icmp_eq (tgt := 1064) 305 hX dL_law_305 (by decide) (fun c44 => ?_) (fun c44 => ?_)
            · have h := it h c44
              exact bLW_1064 hX hR hk18 l3 u43 h
            · have h := ie h c44
              refine w_iconst 0 308 hX ic_0 dL_law_308 ?_
              exact absurd (Option.some.inj h) (by decide)
          · have h := ie h c35
            by_cases c45 : (x2 &&& 31) = 4
            · have h := it h c45
              refine w_tabIn (tgt := 310) (off := 277) 33 hX dL_law_33 (by rw [c45]; decide) (by rw [c45]; decide) (by rw [c45]; decide) (by decide) ?_
              refine w_aload_n 1 310 hX rfl rfl dL_law_310 ?_
              refine w_aload_n 0 311 hX rfl rfl dL_law_311 ?_
              refine w_iload_n 3 312 hX rfl rfl dL_law_312 ?_
              refine w_iconst 1 313 hX ic_1 dL_law_313 ?_
              refine w_iadd 314 hX dL_law_314 ?_
              obtain ⟨x46, gx46, h⟩ := o_bind h
              refine w_sldx 315 hX gx46 dL_law_315 ?_
              refine w_aload_n 0 316 hX rfl rfl dL_law_316 ?_
              refine w_iload_n 3 317 hX rfl rfl dL_law_317 ?_
              refine w_iconst 2 318 hX ic_2 dL_law_318 ?_
              refine w_iadd 319 hX dL_law_319 ?_
              obtain ⟨x47, gx47, h⟩ := o_bind h
              refine w_sldx 320 hX gx47 dL_law_320 ?_
              refine w_aload_n 0 321 hX rfl rfl dL_law_321 ?_
              refine w_iload_n 3 322 hX rfl rfl dL_law_322 ?_
              refine w_iconst 3 323 hX ic_3 dL_law_323 ?_
              refine w_iadd 324 hX dL_law_324 ?_
              obtain ⟨x48, gx48, h⟩ := o_bind h
              refine w_sldx 325 hX gx48 dL_law_325 ?_
              obtain ⟨x49, u50, gx49, h⟩ := o_bnd2 h
              refine w_invVi (av := [.int x46, .int x47, .int x48]) (st := []) 326 hX CI_11 s_0 rfl mv_yX11_send mi_yX11_send ml_L_33 (CX11_send_0 x46 x47 x48 u gx49) rfl (by decide) (Nat.le_of_ble_eq_true rfl) (Nat.le_refl _) (Nat.le_refl _) dL_law_326 ?_
              refine w_aload_n 2 329 hX rfl rfl dL_law_329 ?_
              refine w_aload_n 0 330 hX rfl rfl dL_law_330 ?_
              refine w_iload_n 3 331 hX rfl rfl dL_law_331 ?_
              refine w_iconst 1 332 hX ic_1 dL_law_332 ?_
              refine w_iadd 333 hX dL_law_333 ?_
              obtain ⟨x51, gx51, h⟩ := o_bind h
              refine w_sldx 334 hX gx51 dL_law_334 ?_
              refine w_aload_n 0 335 hX rfl rfl dL_law_335 ?_
              refine w_iload_n 3 336 hX rfl rfl dL_law_336 ?_
              refine w_iconst 2 337 hX ic_2 dL_law_337 ?_
              refine w_iadd 338 hX dL_law_338 ?_
              obtain ⟨x52, gx52, h⟩ := o_bind h
              refine w_sldx 339 hX gx52 dL_law_339 ?_
              refine w_aload_n 0 340 hX rfl rfl dL_law_340 ?_
              refine w_iload_n 3 341 hX rfl rfl dL_law_341 ?_
              refine w_iconst 3 342 hX ic_3 dL_law_342 ?_
              refine w_iadd 343 hX dL_law_343 ?_
              obtain ⟨x53, gx53, h⟩ := o_bind h
              refine w_sldx 344 hX gx53 dL_law_344 ?_
              obtain ⟨x54, u55, gx54, h⟩ := o_bnd2 h
              refine w_invVi (av := [.int x51, .int x52, .int x53]) (st := [.int x49]) 345 hX CI_12 s_146 rfl mv_yX12_send mi_yX12_send ml_L_36 (CX12_send_146 x51 x52 x53 u50 gx54) rfl (by decide) (Nat.le_of_ble_eq_true rfl) (Nat.le_refl _) (Nat.le_refl _) dL_law_345 ?_
              refine w_icmp_eq (tgt := 1064) 348 hX dL_law_348 (by decide) (fun c56 => ?_) (fun c56 => ?_)
              · have h := it h c56
                exact bLW_1064 hX hR hk18 l3 u55 h
              · have h := ie h c56
                refine w_iconst 0 351 hX ic_0 dL_law_351 ?_
                exact absurd (Option.some.inj h) (by decide)
            · have h := ie h c45
              by_cases c57 : (x2 &&& 31) = 5
              · have h := it h c57
                refine w_tabIn (tgt := 353) (off := 320) 33 hX dL_law_33 (by rw [c57]; decide) (by rw [c57]; decide) (by rw [c57]; decide) (by decide) ?_
                refine w_aload_n 1 353 hX rfl rfl dL_law_353 ?_
                refine w_aload_n 0 354 hX rfl rfl dL_law_354 ?_
                refine w_iload_n 3 355 hX rfl rfl dL_law_355 ?_
                refine w_iconst 1 356 hX ic_1 dL_law_356 ?_
                refine w_iadd 357 hX dL_law_357 ?_
                obtain ⟨x58, gx58, h⟩ := o_bind h
                refine w_sldx 358 hX gx58 dL_law_358 ?_
                obtain ⟨x59, u60, gx59, h⟩ := o_bnd2 h
                refine w_invVi (av := [.int x58]) (st := []) 359 hX CI_11 s_0 rfl mv_yX11_days mi_yX11_days ml_L_37 (CX11_days_0 x58 u gx59) rfl (by decide) (Nat.le_of_ble_eq_true rfl) (Nat.le_refl _) (Nat.le_refl _) dL_law_359 ?_
                refine w_aload_n 2 362 hX rfl rfl dL_law_362 ?_
                refine w_aload_n 0 363 hX rfl rfl dL_law_363 ?_
                refine w_iload_n 3 364 hX rfl rfl dL_law_364 ?_
                refine w_iconst 1 365 hX ic_1 dL_law_365 ?_
                refine w_iadd 366 hX dL_law_366 ?_
                obtain ⟨x61, gx61, h⟩ := o_bind h
                refine w_sldx 367 hX gx61 dL_law_367 ?_
                obtain ⟨x62, u63, gx62, h⟩ := o_bnd2 h
                refine w_invVi (av := [.int x61]) (st := [.int x59]) 368 hX CI_12 s_146 rfl mv_yX12_days mi_yX12_days ml_L_40 (CX12_days_146 x61 u60 gx62) rfl (by decide) (Nat.le_of_ble_eq_true rfl) (Nat.le_refl _) (Nat.le_refl _) dL_law_368 ?_
                refine w_icmp_eq (tgt := 1064) 371 hX dL_law_371 (by decide) (fun c64 => ?_) (fun c64 => ?_)
                · have h := it h c64
                  exact bLW_1064 hX hR hk18 l3 u63 h
                · have h := ie h c64
                  refine w_iconst 0 374 hX ic_0 dL_law_374 ?_
                  exact absurd (Option.some.inj h) (by decide)
              · have h := ie h c57
                by_cases c65 : (x2 &&& 31) = 6
                · have h := it h c65
                  refine w_tabIn (tgt := 376) (off := 343) 33 hX dL_law_33 (by rw [c65]; decide) (by rw [c65]; decide) (by rw [c65]; decide) (by decide) ?_
                  refine w_aload_n 1 376 hX rfl rfl dL_law_376 ?_
                  refine w_aload_n 0 377 hX rfl rfl dL_law_377 ?_
                  refine w_iload_n 3 378 hX rfl rfl dL_law_378 ?_
                  refine w_iconst 1 379 hX ic_1 dL_law_379 ?_
                  refine w_iadd 380 hX dL_law_380 ?_
                  obtain ⟨x66, gx66, h⟩ := o_bind h
                  refine w_sldx 381 hX gx66 dL_law_381 ?_
                  refine w_aload_n 0 382 hX rfl rfl dL_law_382 ?_
                  refine w_iload_n 3 383 hX rfl rfl dL_law_383 ?_
                  refine w_iconst 2 384 hX ic_2 dL_law_384 ?_
                  refine w_iadd 385 hX dL_law_385 ?_
                  obtain ⟨x67, gx67, h⟩ := o_bind h
                  refine w_sldx 386 hX gx67 dL_law_386 ?_
                  refine w_aload_n 0 387 hX rfl rfl dL_law_387 ?_
                  refine w_iload_n 3 388 hX rfl rfl dL_law_388 ?_
                  refine w_iconst 3 389 hX ic_3 dL_law_389 ?_
                  refine w_iadd 390 hX dL_law_390 ?_
                  obtain ⟨x68, gx68, h⟩ := o_bind h
                  refine w_sldx 391 hX gx68 dL_law_391 ?_
                  refine w_aload_n 0 392 hX rfl rfl dL_law_392 ?_
                  refine w_iload_n 3 393 hX rfl rfl dL_law_393 ?_
                  refine w_iconst 4 394 hX ic_4 dL_law_394 ?_
                  refine w_iadd 395 hX dL_law_395 ?_
                  obtain ⟨x69, gx69, h⟩ := o_bind h
                  refine w_sldx 396 hX gx69 dL_law_396 ?_
                  refine w_aload_n 0 397 hX rfl rfl dL_law_397 ?_
                  refine w_iload_n 3 398 hX rfl rfl dL_law_398 ?_
                  refine w_iconst 5 399 hX ic_5 dL_law_399 ?_
                  refine w_iadd 400 hX dL_law_400 ?_
                  obtain ⟨x70, gx70, h⟩ := o_bind h
                  refine w_sldx 401 hX gx70 dL_law_401 ?_
                  obtain ⟨x71, u72, gx71, h⟩ := o_bnd2 h
                  refine w_invVi (av := [.int x66, .int x67, .int x68, .int x69, .int x70]) (st := []) 402 hX CI_11 s_0 rfl mv_yX11_feed mi_yX11_feed ml_L_41 (CX11_feed_0 x66 x67 x68 x69 x70 u gx71) rfl (by decide) (Nat.le_of_ble_eq_true rfl) (Nat.le_refl _) (Nat.le_refl _) dL_law_402 ?_
                  refine w_aload_n 2 405 hX rfl rfl dL_law_405 ?_
                  refine w_aload_n 0 406 hX rfl rfl dL_law_406 ?_
                  refine w_iload_n 3 407 hX rfl rfl dL_law_407 ?_
                  refine w_iconst 1 408 hX ic_1 dL_law_408 ?_
                  refine w_iadd 409 hX dL_law_409 ?_
                  obtain ⟨x73, gx73, h⟩ := o_bind h
                  refine w_sldx 410 hX gx73 dL_law_410 ?_
                  refine w_aload_n 0 411 hX rfl rfl dL_law_411 ?_
                  refine w_iload_n 3 412 hX rfl rfl dL_law_412 ?_
                  refine w_iconst 2 413 hX ic_2 dL_law_413 ?_
                  refine w_iadd 414 hX dL_law_414 ?_
                  obtain ⟨x74, gx74, h⟩ := o_bind h
                  refine w_sldx 415 hX gx74 dL_law_415 ?_
                  refine w_aload_n 0 416 hX rfl rfl dL_law_416 ?_
                  refine w_iload_n 3 417 hX rfl rfl dL_law_417 ?_
                  refine w_iconst 3 418 hX ic_3 dL_law_418 ?_
                  refine w_iadd 419 hX dL_law_419 ?_
                  obtain ⟨x75, gx75, h⟩ := o_bind h
                  refine w_sldx 420 hX gx75 dL_law_420 ?_
                  refine w_aload_n 0 421 hX rfl rfl dL_law_421 ?_
                  refine w_iload_n 3 422 hX rfl rfl dL_law_422 ?_
                  refine w_iconst 4 423 hX ic_4 dL_law_423 ?_
                  refine w_iadd 424 hX dL_law_424 ?_
                  obtain ⟨x76, gx76, h⟩ := o_bind h
                  refine w_sldx 425 hX gx76 dL_law_425 ?_
                  refine w_aload_n 0 426 hX rfl rfl dL_law_426 ?_
                  refine w_iload_n 3 427 hX rfl rfl dL_law_427 ?_
                  refine w_iconst 5 428 hX ic_5 dL_law_428 ?_
                  refine w_iadd 429 hX dL_law_429 ?_
                  obtain ⟨x77, gx77, h⟩ := o_bind h
                  refine w_sldx 430 hX gx77 dL_law_430 ?_
                  obtain ⟨x78, u79, gx78, h⟩ := o_bnd2 h
                  refine w_invVi (av := [.int x73, .int x74, .int x75, .int x76, .int x77]) (st := [.int x71]) 431 hX CI_12 s_146 rfl mv_yX12_feed mi_yX12_feed ml_L_45 (CX12_feed_146 x73 x74 x75 x76 x77 u72 gx78) rfl (by decide) (Nat.le_of_ble_eq_true rfl) (Nat.le_refl _) (Nat.le_refl _) dL_law_431 ?_
                  refine w_icmp_eq (tgt := 1064) 434 hX dL_law_434 (by decide) (fun c80 => ?_) (fun c80 => ?_)
                  · have h := it h c80
                    exact bLW_1064 hX hR hk18 l3 u79 h
                  · have h := ie h c80
                    refine w_iconst 0 437 hX ic_0 dL_law_437 ?_
                    exact absurd (Option.some.inj h) (by decide)
                · have h := ie h c65
                  by_cases c81 : (x2 &&& 31) = 7
                  · have h := it h c81
                    refine w_tabIn (tgt := 439) (off := 406) 33 hX dL_law_33 (by rw [c81]; decide) (by rw [c81]; decide) (by rw [c81]; decide) (by decide) ?_
                    refine w_aload_n 1 439 hX rfl rfl dL_law_439 ?_
                    refine w_aload_n 0 440 hX rfl rfl dL_law_440 ?_
                    refine w_iload_n 3 441 hX rfl rfl dL_law_441 ?_
                    refine w_iconst 1 442 hX ic_1 dL_law_442 ?_
                    refine w_iadd 443 hX dL_law_443 ?_
                    obtain ⟨x82, gx82, h⟩ := o_bind h
                    refine w_sldx 444 hX gx82 dL_law_444 ?_
                    obtain ⟨x83, u84, gx83, h⟩ := o_bnd2 h
                    refine w_invVi (av := [.int x82]) (st := []) 445 hX CI_11 s_0 rfl mv_yX11_end mi_yX11_end ml_L_46 (CX11_end_0 x82 u gx83) rfl (by decide) (Nat.le_of_ble_eq_true rfl) (Nat.le_refl _) (Nat.le_refl _) dL_law_445 ?_
                    refine w_aload_n 2 448 hX rfl rfl dL_law_448 ?_
                    refine w_aload_n 0 449 hX rfl rfl dL_law_449 ?_
                    refine w_iload_n 3 450 hX rfl rfl dL_law_450 ?_
                    refine w_iconst 1 451 hX ic_1 dL_law_451 ?_
                    refine w_iadd 452 hX dL_law_452 ?_
                    obtain ⟨x85, gx85, h⟩ := o_bind h
                    refine w_sldx 453 hX gx85 dL_law_453 ?_
                    obtain ⟨x86, u87, gx86, h⟩ := o_bnd2 h
                    refine w_invVi (av := [.int x85]) (st := [.int x83]) 454 hX CI_12 s_146 rfl mv_yX12_end mi_yX12_end ml_L_50 (CX12_end_146 x85 u84 gx86) rfl (by decide) (Nat.le_of_ble_eq_true rfl) (Nat.le_refl _) (Nat.le_refl _) dL_law_454 ?_
                    refine w_icmp_eq (tgt := 1064) 457 hX dL_law_457 (by decide) (fun c88 => ?_) (fun c88 => ?_)
                    · have h := it h c88
                      exact bLW_1064 hX hR hk18 l3 u87 h
                    · have h := ie h c88
                      refine w_iconst 0 460 hX ic_0 dL_law_460 ?_
                      exact absurd (Option.some.inj h) (by decide)
                  · have h := ie h c81
                    by_cases c89 : (x2 &&& 31) = 8
                    · have h := it h c89
                      refine w_tabIn (tgt := 462) (off := 429) 33 hX dL_law_33 (by rw [c89]; decide) (by rw [c89]; decide) (by rw [c89]; decide) (by decide) ?_
                      refine w_aload_n 1 462 hX rfl rfl dL_law_462 ?_
                      refine w_aload_n 0 463 hX rfl rfl dL_law_463 ?_
                      refine w_iload_n 3 464 hX rfl rfl dL_law_464 ?_
                      refine w_iconst 1 465 hX ic_1 dL_law_465 ?_
                      refine w_iadd 466 hX dL_law_466 ?_
                      obtain ⟨x90, gx90, h⟩ := o_bind h
                      refine w_sldx 467 hX gx90 dL_law_467 ?_
                      obtain ⟨x91, u92, gx91, h⟩ := o_bnd2 h
                      refine w_invVi (av := [.int x90]) (st := []) 468 hX CI_11 s_0 rfl mv_yX11_text mi_yX11_text ml_L_51 (CX11_text_0 x90 u gx91) rfl (by decide) (Nat.le_of_ble_eq_true rfl) (Nat.le_refl _) (Nat.le_refl _) dL_law_468 ?_
                      refine w_aload_n 2 471 hX rfl rfl dL_law_471 ?_
                      refine w_aload_n 0 472 hX rfl rfl dL_law_472 ?_
                      refine w_iload_n 3 473 hX rfl rfl dL_law_473 ?_
                      refine w_iconst 1 474 hX ic_1 dL_law_474 ?_
                      refine w_iadd 475 hX dL_law_475 ?_
                      obtain ⟨x93, gx93, h⟩ := o_bind h
                      refine w_sldx 476 hX gx93 dL_law_476 ?_
                      obtain ⟨x94, u95, gx94, h⟩ := o_bnd2 h
                      refine w_invVi (av := [.int x93]) (st := [.int x91]) 477 hX CI_12 s_146 rfl mv_yX12_text mi_yX12_text ml_L_54 (CX12_text_146 x93 u92 gx94) rfl (by decide) (Nat.le_of_ble_eq_true rfl) (Nat.le_refl _) (Nat.le_refl _) dL_law_477 ?_
                      refine w_icmp_eq (tgt := 1064) 480 hX dL_law_480 (by decide) (fun c96 => ?_) (fun c96 => ?_)
                      · have h := it h c96
                        exact bLW_1064 hX hR hk18 l3 u95 h
                      · have h := ie h c96
                        refine w_iconst 0 483 hX ic_0 dL_law_483 ?_
                        exact absurd (Option.some.inj h) (by decide)
                    · have h := ie h c89
                      by_cases c97 : (x2 &&& 31) = 9
                      · have h := it h c97
                        refine w_tabIn (tgt := 485) (off := 452) 33 hX dL_law_33 (by rw [c97]; decide) (by rw [c97]; decide) (by rw [c97]; decide) (by decide) ?_
                        refine w_aload_n 1 485 hX rfl rfl dL_law_485 ?_
                        refine w_aload_n 0 486 hX rfl rfl dL_law_486 ?_
                        refine w_iload_n 3 487 hX rfl rfl dL_law_487 ?_
                        refine w_iconst 1 488 hX ic_1 dL_law_488 ?_
                        refine w_iadd 489 hX dL_law_489 ?_
                        obtain ⟨x98, gx98, h⟩ := o_bind h
                        refine w_sldx 490 hX gx98 dL_law_490 ?_
                        obtain ⟨x99, gx99, h⟩ := o_bind h
                        refine w_invVi (av := [.int x98]) (st := []) 491 hX CI_11 s_0 rfl mv_yX11_fault mi_yX11_fault ml_L_55 (CX11_fault_0 x98 u gx99) rfl (by decide) (Nat.le_of_ble_eq_true rfl) (Nat.le_refl _) (Nat.le_refl _) dL_law_491 ?_
                        refine w_aload_n 2 494 hX rfl rfl dL_law_494 ?_
                        refine w_aload_n 0 495 hX rfl rfl dL_law_495 ?_
                        refine w_iload_n 3 496 hX rfl rfl dL_law_496 ?_
                        refine w_iconst 1 497 hX ic_1 dL_law_497 ?_
                        refine w_iadd 498 hX dL_law_498 ?_
                        obtain ⟨x100, gx100, h⟩ := o_bind h
                        refine w_sldx 499 hX gx100 dL_law_499 ?_
                        obtain ⟨x101, gx101, h⟩ := o_bind h
                        refine w_invVi (av := [.int x100]) (st := [.int x99]) 500 hX CI_12 s_146 rfl mv_yX12_fault mi_yX12_fault ml_L_58 (CX12_fault_146 x100 u gx101) rfl (by decide) (Nat.le_of_ble_eq_true rfl) (Nat.le_refl _) (Nat.le_refl _) dL_law_500 ?_
                        refine w_icmp_eq (tgt := 1064) 503 hX dL_law_503 (by decide) (fun c102 => ?_) (fun c102 => ?_)
                        · have h := it h c102
                          exact bLW_1064 hX hR hk18 l3 u h
                        · have h := ie h c102
                          refine w_iconst 0 506 hX ic_0 dL_law_506 ?_
                          exact absurd (Option.some.inj h) (by decide)
                      · have h := ie h c97
                        by_cases c103 : (x2 &&& 31) = 10
                        · have h := it h c103
                          refine w_tabIn (tgt := 508) (off := 475) 33 hX dL_law_33 (by rw [c103]; decide) (by rw [c103]; decide) (by rw [c103]; decide) (by decide) ?_
                          refine w_aload_n 1 508 hX rfl rfl dL_law_508 ?_
                          refine w_aload_n 0 509 hX rfl rfl dL_law_509 ?_
                          refine w_iload_n 3 510 hX rfl rfl dL_law_510 ?_
                          refine w_iconst 1 511 hX ic_1 dL_law_511 ?_
                          refine w_iadd 512 hX dL_law_512 ?_
                          obtain ⟨x104, gx104, h⟩ := o_bind h
                          refine w_sldx 513 hX gx104 dL_law_513 ?_
                          refine w_aload_n 0 514 hX rfl rfl dL_law_514 ?_
                          refine w_iload_n 3 515 hX rfl rfl dL_law_515 ?_
                          refine w_iconst 2 516 hX ic_2 dL_law_516 ?_
                          refine w_iadd 517 hX dL_law_517 ?_
                          obtain ⟨x105, gx105, h⟩ := o_bind h
                          refine w_sldx 518 hX gx105 dL_law_518 ?_
                          obtain ⟨x106, u107, gx106, h⟩ := o_bnd2 h
                          refine w_invVi (av := [.int x104, .int x105]) (st := []) 519 hX CI_11 s_0 rfl mv_yX11_of mi_yX11_of ml_L_59 (CX11_of_0 x104 x105 u gx106) rfl (by decide) (Nat.le_of_ble_eq_true rfl) (Nat.le_refl _) (Nat.le_refl _) dL_law_519 ?_
                          refine w_aload_n 2 522 hX rfl rfl dL_law_522 ?_
                          refine w_aload_n 0 523 hX rfl rfl dL_law_523 ?_
                          refine w_iload_n 3 524 hX rfl rfl dL_law_524 ?_
                          refine w_iconst 1 525 hX ic_1 dL_law_525 ?_
                          refine w_iadd 526 hX dL_law_526 ?_
                          obtain ⟨x108, gx108, h⟩ := o_bind h
                          refine w_sldx 527 hX gx108 dL_law_527 ?_
                          refine w_aload_n 0 528 hX rfl rfl dL_law_528 ?_
                          refine w_iload_n 3 529 hX rfl rfl dL_law_529 ?_
                          refine w_iconst 2 530 hX ic_2 dL_law_530 ?_
                          refine w_iadd 531 hX dL_law_531 ?_
                          obtain ⟨x109, gx109, h⟩ := o_bind h
                          refine w_sldx 532 hX gx109 dL_law_532 ?_
                          obtain ⟨x110, u111, gx110, h⟩ := o_bnd2 h
                          refine w_invVi (av := [.int x108, .int x109]) (st := [.int x106]) 533 hX CI_12 s_146 rfl mv_yX12_of mi_yX12_of ml_L_63 (CX12_of_146 x108 x109 u107 gx110) rfl (by decide) (Nat.le_of_ble_eq_true rfl) (Nat.le_refl _) (Nat.le_refl _) dL_law_533 ?_
                          refine w_icmp_eq (tgt := 1064) 536 hX dL_law_536 (by decide) (fun c112 => ?_) (fun c112 => ?_)
                          · have h := it h c112
                            exact bLW_1064 hX hR hk18 l3 u111 h
                          · have h := ie h c112
                            refine w_iconst 0 539 hX ic_0 dL_law_539 ?_
                            exact absurd (Option.some.inj h) (by decide)
                        · have h := ie h c103
                          by_cases c113 : (x2 &&& 31) = 11
                          · have h := it h c113
                            refine w_tabIn (tgt := 541) (off := 508) 33 hX dL_law_33 (by rw [c113]; decide) (by rw [c113]; decide) (by rw [c113]; decide) (by decide) ?_
                            refine w_aload_n 1 541 hX rfl rfl dL_law_541 ?_
                            refine w_aload_n 0 542 hX rfl rfl dL_law_542 ?_
                            refine w_iload_n 3 543 hX rfl rfl dL_law_543 ?_
                            refine w_iconst 1 544 hX ic_1 dL_law_544 ?_
                            refine w_iadd 545 hX dL_law_545 ?_
                            obtain ⟨x114, gx114, h⟩ := o_bind h
                            refine w_sldx 546 hX gx114 dL_law_546 ?_
                            obtain ⟨x115, gx115, h⟩ := o_bind h
                            refine w_invVi (av := [.int x114]) (st := []) 547 hX CI_11 s_0 rfl mv_yX11_weight mi_yX11_weight ml_L_64 (CX11_weight_0 x114 u gx115) rfl (by decide) (Nat.le_of_ble_eq_true rfl) (Nat.le_refl _) (Nat.le_refl _) dL_law_547 ?_
                            refine w_aload_n 2 550 hX rfl rfl dL_law_550 ?_
                            refine w_aload_n 0 551 hX rfl rfl dL_law_551 ?_
                            refine w_iload_n 3 552 hX rfl rfl dL_law_552 ?_
                            refine w_iconst 1 553 hX ic_1 dL_law_553 ?_
                            refine w_iadd 554 hX dL_law_554 ?_
                            obtain ⟨x116, gx116, h⟩ := o_bind h
                            refine w_sldx 555 hX gx116 dL_law_555 ?_
                            obtain ⟨x117, gx117, h⟩ := o_bind h
                            refine w_invVi (av := [.int x116]) (st := [.int x115]) 556 hX CI_12 s_146 rfl mv_yX12_weight mi_yX12_weight ml_L_67 (CX12_weight_146 x116 u gx117) rfl (by decide) (Nat.le_of_ble_eq_true rfl) (Nat.le_refl _) (Nat.le_refl _) dL_law_556 ?_
                            refine w_icmp_eq (tgt := 1064) 559 hX dL_law_559 (by decide) (fun c118 => ?_) (fun c118 => ?_)
                            · have h := it h c118
                              exact bLW_1064 hX hR hk18 l3 u h
                            · have h := ie h c118
                              refine w_iconst 0 562 hX ic_0 dL_law_562 ?_
                              exact absurd (Option.some.inj h) (by decide)
                          · have h := ie h c113
                            by_cases c119 : (x2 &&& 31) = 12
                            · have h := it h c119
                              refine w_tabIn (tgt := 564) (off := 531) 33 hX dL_law_33 (by rw [c119]; decide) (by rw [c119]; decide) (by rw [c119]; decide) (by decide) ?_
                              refine w_aload_n 1 564 hX rfl rfl dL_law_564 ?_
                              refine w_aload_n 0 565 hX rfl rfl dL_law_565 ?_
                              refine w_iload_n 3 566 hX rfl rfl dL_law_566 ?_
                              refine w_iconst 1 567 hX ic_1 dL_law_567 ?_
                              refine w_iadd 568 hX dL_law_568 ?_
                              obtain ⟨x120, gx120, h⟩ := o_bind h
                              refine w_sldx 569 hX gx120 dL_law_569 ?_
                              refine w_aload_n 0 570 hX rfl rfl dL_law_570 ?_
                              refine w_iload_n 3 571 hX rfl rfl dL_law_571 ?_
                              refine w_iconst 2 572 hX ic_2 dL_law_572 ?_
                              refine w_iadd 573 hX dL_law_573 ?_
                              obtain ⟨x121, gx121, h⟩ := o_bind h
                              refine w_sldx 574 hX gx121 dL_law_574 ?_
                              obtain ⟨x122, gx122, h⟩ := o_bind h
                              refine w_invVi (av := [.int x120, .int x121]) (st := []) 575 hX CI_11 s_0 rfl mv_yX11_country mi_yX11_country ml_L_68 (CX11_country_0 x120 x121 u gx122) rfl (by decide) (Nat.le_of_ble_eq_true rfl) (Nat.le_refl _) (Nat.le_refl _) dL_law_575 ?_
                              refine w_aload_n 2 578 hX rfl rfl dL_law_578 ?_
                              refine w_aload_n 0 579 hX rfl rfl dL_law_579 ?_
                              refine w_iload_n 3 580 hX rfl rfl dL_law_580 ?_
                              refine w_iconst 1 581 hX ic_1 dL_law_581 ?_
                              refine w_iadd 582 hX dL_law_582 ?_
                              obtain ⟨x123, gx123, h⟩ := o_bind h
                              refine w_sldx 583 hX gx123 dL_law_583 ?_
                              refine w_aload_n 0 584 hX rfl rfl dL_law_584 ?_
                              refine w_iload_n 3 585 hX rfl rfl dL_law_585 ?_
                              refine w_iconst 2 586 hX ic_2 dL_law_586 ?_
                              refine w_iadd 587 hX dL_law_587 ?_
                              obtain ⟨x124, gx124, h⟩ := o_bind h
                              refine w_sldx 588 hX gx124 dL_law_588 ?_
                              obtain ⟨x125, gx125, h⟩ := o_bind h
                              refine w_invVi (av := [.int x123, .int x124]) (st := [.int x122]) 589 hX CI_12 s_146 rfl mv_yX12_country mi_yX12_country ml_L_71 (CX12_country_146 x123 x124 u gx125) rfl (by decide) (Nat.le_of_ble_eq_true rfl) (Nat.le_refl _) (Nat.le_refl _) dL_law_589 ?_
                              refine w_icmp_eq (tgt := 1064) 592 hX dL_law_592 (by decide) (fun c126 => ?_) (fun c126 => ?_)
                              · have h := it h c126
                                exact bLW_1064 hX hR hk18 l3 u h
                              · have h := ie h c126
                                refine w_iconst 0 595 hX ic_0 dL_law_595 ?_
                                exact absurd (Option.some.inj h) (by decide)
                            · have h := ie h c119
                              by_cases c127 : (x2 &&& 31) = 13
                              · have h := it h c127
                                refine w_tabIn (tgt := 597) (off := 564) 33 hX dL_law_33 (by rw [c127]; decide) (by rw [c127]; decide) (by rw [c127]; decide) (by decide) ?_
                                refine w_aload_n 1 597 hX rfl rfl dL_law_597 ?_
                                refine w_aload_n 0 598 hX rfl rfl dL_law_598 ?_
                                refine w_iload_n 3 599 hX rfl rfl dL_law_599 ?_
                                refine w_iconst 1 600 hX ic_1 dL_law_600 ?_
                                refine w_iadd 601 hX dL_law_601 ?_
                                obtain ⟨x128, gx128, h⟩ := o_bind h
                                refine w_sldx 602 hX gx128 dL_law_602 ?_
                                refine w_aload_n 0 603 hX rfl rfl dL_law_603 ?_
                                refine w_iload_n 3 604 hX rfl rfl dL_law_604 ?_
                                refine w_iconst 2 605 hX ic_2 dL_law_605 ?_
                                refine w_iadd 606 hX dL_law_606 ?_
                                obtain ⟨x129, gx129, h⟩ := o_bind h
                                refine w_sldx 607 hX gx129 dL_law_607 ?_
                                obtain ⟨x130, gx130, h⟩ := o_bind h
                                refine w_invVi (av := [.int x128, .int x129]) (st := []) 608 hX CI_11 s_0 rfl mv_yX11_book mi_yX11_book ml_L_72 (CX11_book_0 x128 x129 u gx130) rfl (by decide) (Nat.le_of_ble_eq_true rfl) (Nat.le_refl _) (Nat.le_refl _) dL_law_608 ?_
                                refine w_aload_n 2 611 hX rfl rfl dL_law_611 ?_
                                refine w_aload_n 0 612 hX rfl rfl dL_law_612 ?_
                                refine w_iload_n 3 613 hX rfl rfl dL_law_613 ?_
                                refine w_iconst 1 614 hX ic_1 dL_law_614 ?_
                                refine w_iadd 615 hX dL_law_615 ?_
                                obtain ⟨x131, gx131, h⟩ := o_bind h
                                refine w_sldx 616 hX gx131 dL_law_616 ?_
                                refine w_aload_n 0 617 hX rfl rfl dL_law_617 ?_
                                refine w_iload_n 3 618 hX rfl rfl dL_law_618 ?_
                                refine w_iconst 2 619 hX ic_2 dL_law_619 ?_
                                refine w_iadd 620 hX dL_law_620 ?_
                                obtain ⟨x132, gx132, h⟩ := o_bind h
                                refine w_sldx 621 hX gx132 dL_law_621 ?_
                                obtain ⟨x133, gx133, h⟩ := o_bind h
                                refine w_invVi (av := [.int x131, .int x132]) (st := [.int x130]) 622 hX CI_12 s_146 rfl mv_yX12_book mi_yX12_book ml_L_75 (CX12_book_146 x131 x132 u gx133) rfl (by decide) (Nat.le_of_ble_eq_true rfl) (Nat.le_refl _) (Nat.le_refl _) dL_law_622 ?_
                                refine w_icmp_eq (tgt := 1064) 625 hX dL_law_625 (by decide) (fun c134 => ?_) (fun c134 => ?_)
                                · have h := it h c134
                                  exact bLW_1064 hX hR hk18 l3 u h
                                · have h := ie h c134
                                  refine w_iconst 0 628 hX ic_0 dL_law_628 ?_
                                  exact absurd (Option.some.inj h) (by decide)
                              · have h := ie h c127
                                by_cases c135 : (x2 &&& 31) = 14
                                · have h := it h c135
                                  refine w_tabIn (tgt := 630) (off := 597) 33 hX dL_law_33 (by rw [c135]; decide) (by rw [c135]; decide) (by rw [c135]; decide) (by decide) ?_
                                  refine w_aload_n 1 630 hX rfl rfl dL_law_630 ?_
                                  refine w_aload_n 0 631 hX rfl rfl dL_law_631 ?_
                                  refine w_iload_n 3 632 hX rfl rfl dL_law_632 ?_
                                  refine w_iconst 1 633 hX ic_1 dL_law_633 ?_
                                  refine w_iadd 634 hX dL_law_634 ?_
                                  obtain ⟨x136, gx136, h⟩ := o_bind h
                                  refine w_sldx 635 hX gx136 dL_law_635 ?_
                                  obtain ⟨x137, u138, gx137, h⟩ := o_bnd2 h
                                  refine w_invVi (av := [.int x136]) (st := []) 636 hX CI_11 s_0 rfl mv_yX11_lasts mi_yX11_lasts ml_L_76 (CX11_lasts_0 x136 u gx137) rfl (by decide) (Nat.le_of_ble_eq_true rfl) (Nat.le_refl _) (Nat.le_refl _) dL_law_636 ?_
                                  refine w_aload_n 2 639 hX rfl rfl dL_law_639 ?_
                                  refine w_aload_n 0 640 hX rfl rfl dL_law_640 ?_
                                  refine w_iload_n 3 641 hX rfl rfl dL_law_641 ?_
                                  refine w_iconst 1 642 hX ic_1 dL_law_642 ?_
                                  refine w_iadd 643 hX dL_law_643 ?_
                                  obtain ⟨x139, gx139, h⟩ := o_bind h
                                  refine w_sldx 644 hX gx139 dL_law_644 ?_
                                  obtain ⟨x140, u141, gx140, h⟩ := o_bnd2 h
                                  refine w_invVi (av := [.int x139]) (st := [.int x137]) 645 hX CI_12 s_146 rfl mv_yX12_lasts mi_yX12_lasts ml_L_79 (CX12_lasts_146 x139 u138 gx140) rfl (by decide) (Nat.le_of_ble_eq_true rfl) (Nat.le_refl _) (Nat.le_refl _) dL_law_645 ?_
                                  refine w_icmp_eq (tgt := 1064) 648 hX dL_law_648 (by decide) (fun c142 => ?_) (fun c142 => ?_)
                                  · have h := it h c142
                                    exact bLW_1064 hX hR hk18 l3 u141 h
                                  · have h := ie h c142
                                    refine w_iconst 0 651 hX ic_0 dL_law_651 ?_
                                    exact absurd (Option.some.inj h) (by decide)
                                · have h := ie h c135
                                  by_cases c143 : (x2 &&& 31) = 15
                                  · have h := it h c143
                                    refine w_tabIn (tgt := 653) (off := 620) 33 hX dL_law_33 (by rw [c143]; decide) (by rw [c143]; decide) (by rw [c143]; decide) (by decide) ?_
                                    refine w_aload_n 1 653 hX rfl rfl dL_law_653 ?_
                                    refine w_aload_n 0 654 hX rfl rfl dL_law_654 ?_
                                    refine w_iload_n 3 655 hX rfl rfl dL_law_655 ?_
                                    refine w_iconst 1 656 hX ic_1 dL_law_656 ?_
                                    refine w_iadd 657 hX dL_law_657 ?_
                                    obtain ⟨x144, gx144, h⟩ := o_bind h
                                    refine w_sldx 658 hX gx144 dL_law_658 ?_
                                    refine w_aload_n 0 659 hX rfl rfl dL_law_659 ?_
                                    refine w_iload_n 3 660 hX rfl rfl dL_law_660 ?_
                                    refine w_iconst 2 661 hX ic_2 dL_law_661 ?_
                                    refine w_iadd 662 hX dL_law_662 ?_
                                    obtain ⟨x145, gx145, h⟩ := o_bind h
                                    refine w_sldx 663 hX gx145 dL_law_663 ?_
                                    obtain ⟨x146, u147, gx146, h⟩ := o_bnd2 h
                                    refine w_invVi (av := [.int x144, .int x145]) (st := []) 664 hX CI_11 s_0 rfl mv_yX11_soonest mi_yX11_soonest ml_L_80 (CX11_soonest_0 x144 x145 u gx146) rfl (by decide) (Nat.le_of_ble_eq_true rfl) (Nat.le_refl _) (Nat.le_refl _) dL_law_664 ?_
                                    refine w_aload_n 2 667 hX rfl rfl dL_law_667 ?_
                                    refine w_aload_n 0 668 hX rfl rfl dL_law_668 ?_
                                    refine w_iload_n 3 669 hX rfl rfl dL_law_669 ?_
                                    refine w_iconst 1 670 hX ic_1 dL_law_670 ?_
                                    refine w_iadd 671 hX dL_law_671 ?_
                                    obtain ⟨x148, gx148, h⟩ := o_bind h
                                    refine w_sldx 672 hX gx148 dL_law_672 ?_
                                    refine w_aload_n 0 673 hX rfl rfl dL_law_673 ?_
                                    refine w_iload_n 3 674 hX rfl rfl dL_law_674 ?_
                                    refine w_iconst 2 675 hX ic_2 dL_law_675 ?_
                                    refine w_iadd 676 hX dL_law_676 ?_
                                    obtain ⟨x149, gx149, h⟩ := o_bind h
                                    refine w_sldx 677 hX gx149 dL_law_677 ?_
                                    obtain ⟨x150, u151, gx150, h⟩ := o_bnd2 h
                                    refine w_invVi (av := [.int x148, .int x149]) (st := [.int x146]) 678 hX CI_12 s_146 rfl mv_yX12_soonest mi_yX12_soonest ml_L_83 (CX12_soonest_146 x148 x149 u147 gx150) rfl (by decide) (Nat.le_of_ble_eq_true rfl) (Nat.le_refl _) (Nat.le_refl _) dL_law_678 ?_
                                    refine w_icmp_eq (tgt := 1064) 681 hX dL_law_681 (by decide) (fun c152 => ?_) (fun c152 => ?_)
                                    · have h := it h c152
                                      exact bLW_1064 hX hR hk18 l3 u151 h
                                    · have h := ie h c152
                                      refine w_iconst 0 684 hX ic_0 dL_law_684 ?_
                                      exact absurd (Option.some.inj h) (by decide)
                                  · have h := ie h c143
                                    by_cases c153 : (x2 &&& 31) = 16
                                    · have h := it h c153
                                      refine w_tabIn (tgt := 686) (off := 653) 33 hX dL_law_33 (by rw [c153]; decide) (by rw [c153]; decide) (by rw [c153]; decide) (by decide) ?_
                                      refine w_aload_n 1 686 hX rfl rfl dL_law_686 ?_
                                      refine w_aload_n 0 687 hX rfl rfl dL_law_687 ?_
                                      refine w_iload_n 3 688 hX rfl rfl dL_law_688 ?_
                                      refine w_iconst 1 689 hX ic_1 dL_law_689 ?_
                                      refine w_iadd 690 hX dL_law_690 ?_
                                      obtain ⟨x154, gx154, h⟩ := o_bind h
                                      refine w_sldx 691 hX gx154 dL_law_691 ?_
                                      obtain ⟨x155, u156, gx155, h⟩ := o_bnd2 h
                                      refine w_invVi (av := [.int x154]) (st := []) 692 hX CI_11 s_0 rfl mv_yX11_from mi_yX11_from ml_L_84 (CX11_from_0 x154 u gx155) rfl (by decide) (Nat.le_of_ble_eq_true rfl) (Nat.le_refl _) (Nat.le_refl _) dL_law_692 ?_
                                      refine w_aload_n 2 695 hX rfl rfl dL_law_695 ?_
                                      refine w_aload_n 0 696 hX rfl rfl dL_law_696 ?_
                                      refine w_iload_n 3 697 hX rfl rfl dL_law_697 ?_
                                      refine w_iconst 1 698 hX ic_1 dL_law_698 ?_
                                      refine w_iadd 699 hX dL_law_699 ?_
                                      obtain ⟨x157, gx157, h⟩ := o_bind h
                                      refine w_sldx 700 hX gx157 dL_law_700 ?_
                                      obtain ⟨x158, u159, gx158, h⟩ := o_bnd2 h
                                      refine w_invVi (av := [.int x157]) (st := [.int x155]) 701 hX CI_12 s_146 rfl mv_yX12_from mi_yX12_from ml_L_87 (CX12_from_146 x157 u156 gx158) rfl (by decide) (Nat.le_of_ble_eq_true rfl) (Nat.le_refl _) (Nat.le_refl _) dL_law_701 ?_
                                      refine w_icmp_eq (tgt := 1064) 704 hX dL_law_704 (by decide) (fun c160 => ?_) (fun c160 => ?_)
                                      · have h := it h c160
                                        exact bLW_1064 hX hR hk18 l3 u159 h
                                      · have h := ie h c160
                                        refine w_iconst 0 707 hX ic_0 dL_law_707 ?_
                                        exact absurd (Option.some.inj h) (by decide)
                                    · have h := ie h c153
                                      by_cases c161 : (x2 &&& 31) = 17
                                      · have h := it h c161
                                        refine w_tabIn (tgt := 709) (off := 676) 33 hX dL_law_33 (by rw [c161]; decide) (by rw [c161]; decide) (by rw [c161]; decide) (by decide) ?_
                                        refine w_aload_n 1 709 hX rfl rfl dL_law_709 ?_
                                        refine w_aload_n 0 710 hX rfl rfl dL_law_710 ?_
                                        refine w_iload_n 3 711 hX rfl rfl dL_law_711 ?_
                                        refine w_iconst 1 712 hX ic_1 dL_law_712 ?_
                                        refine w_iadd 713 hX dL_law_713 ?_
                                        obtain ⟨x162, gx162, h⟩ := o_bind h
                                        refine w_sldx 714 hX gx162 dL_law_714 ?_
                                        obtain ⟨x163, gx163, h⟩ := o_bind h
                                        refine w_invVi (av := [.int x162]) (st := []) 715 hX CI_11 s_0 rfl mv_yX11_hears mi_yX11_hears ml_L_88 (CX11_hears_0 x162 u gx163) rfl (by decide) (Nat.le_of_ble_eq_true rfl) (Nat.le_refl _) (Nat.le_refl _) dL_law_715 ?_
                                        refine w_aload_n 2 718 hX rfl rfl dL_law_718 ?_
                                        refine w_aload_n 0 719 hX rfl rfl dL_law_719 ?_
                                        refine w_iload_n 3 720 hX rfl rfl dL_law_720 ?_
                                        refine w_iconst 1 721 hX ic_1 dL_law_721 ?_
                                        refine w_iadd 722 hX dL_law_722 ?_
                                        obtain ⟨x164, gx164, h⟩ := o_bind h
                                        refine w_sldx 723 hX gx164 dL_law_723 ?_
                                        obtain ⟨x165, gx165, h⟩ := o_bind h
                                        refine w_invVi (av := [.int x164]) (st := [.int x163]) 724 hX CI_12 s_146 rfl mv_yX12_hears mi_yX12_hears ml_L_91 (CX12_hears_146 x164 u gx165) rfl (by decide) (Nat.le_of_ble_eq_true rfl) (Nat.le_refl _) (Nat.le_refl _) dL_law_724 ?_
                                        refine w_icmp_eq (tgt := 1064) 727 hX dL_law_727 (by decide) (fun c166 => ?_) (fun c166 => ?_)
                                        · have h := it h c166
                                          exact bLW_1064 hX hR hk18 l3 u h
                                        · have h := ie h c166
                                          refine w_iconst 0 730 hX ic_0 dL_law_730 ?_
                                          exact absurd (Option.some.inj h) (by decide)
                                      · have h := ie h c161
                                        by_cases c167 : (x2 &&& 31) = 18
                                        · have h := it h c167
                                          refine w_tabIn (tgt := 732) (off := 699) 33 hX dL_law_33 (by rw [c167]; decide) (by rw [c167]; decide) (by rw [c167]; decide) (by decide) ?_
                                          refine w_aload_n 1 732 hX rfl rfl dL_law_732 ?_
                                          refine w_aload_n 0 733 hX rfl rfl dL_law_733 ?_
                                          refine w_iload_n 3 734 hX rfl rfl dL_law_734 ?_
                                          refine w_iconst 1 735 hX ic_1 dL_law_735 ?_
                                          refine w_iadd 736 hX dL_law_736 ?_
                                          obtain ⟨x168, gx168, h⟩ := o_bind h
                                          refine w_sldx 737 hX gx168 dL_law_737 ?_
                                          refine w_aload_n 0 738 hX rfl rfl dL_law_738 ?_
                                          refine w_iload_n 3 739 hX rfl rfl dL_law_739 ?_
                                          refine w_iconst 2 740 hX ic_2 dL_law_740 ?_
                                          refine w_iadd 741 hX dL_law_741 ?_
                                          obtain ⟨x169, gx169, h⟩ := o_bind h
                                          refine w_sldx 742 hX gx169 dL_law_742 ?_
                                          obtain ⟨x170, u171, gx170, h⟩ := o_bnd2 h
                                          refine w_invVi (av := [.int x168, .int x169]) (st := []) 743 hX CI_11 s_0 rfl mv_yX11_knees mi_yX11_knees ml_L_92 (CX11_knees_0 x168 x169 u gx170) rfl (by decide) (Nat.le_of_ble_eq_true rfl) (Nat.le_refl _) (Nat.le_refl _) dL_law_743 ?_
                                          refine w_aload_n 2 746 hX rfl rfl dL_law_746 ?_
                                          refine w_aload_n 0 747 hX rfl rfl dL_law_747 ?_
                                          refine w_iload_n 3 748 hX rfl rfl dL_law_748 ?_
                                          refine w_iconst 1 749 hX ic_1 dL_law_749 ?_
                                          refine w_iadd 750 hX dL_law_750 ?_
                                          obtain ⟨x172, gx172, h⟩ := o_bind h
                                          refine w_sldx 751 hX gx172 dL_law_751 ?_
                                          refine w_aload_n 0 752 hX rfl rfl dL_law_752 ?_
                                          refine w_iload_n 3 753 hX rfl rfl dL_law_753 ?_
                                          refine w_iconst 2 754 hX ic_2 dL_law_754 ?_
                                          refine w_iadd 755 hX dL_law_755 ?_
                                          obtain ⟨x173, gx173, h⟩ := o_bind h
                                          refine w_sldx 756 hX gx173 dL_law_756 ?_
                                          obtain ⟨x174, gx174, h⟩ := o_bind h
                                          refine w_invVi (av := [.int x172, .int x173]) (st := [.int x170]) 757 hX CI_12 s_146 rfl mv_yX12_knees mi_yX12_knees ml_L_95 (CX12_knees_146 x172 x173 u171 gx174) rfl (by decide) (Nat.le_of_ble_eq_true rfl) (Nat.le_refl _) (Nat.le_refl _) dL_law_757 ?_
                                          refine w_icmp_eq (tgt := 1064) 760 hX dL_law_760 (by decide) (fun c175 => ?_) (fun c175 => ?_)
                                          · have h := it h c175
                                            exact bLW_1064 hX hR hk18 l3 u171 h
                                          · have h := ie h c175
                                            refine w_iconst 0 763 hX ic_0 dL_law_763 ?_
                                            exact absurd (Option.some.inj h) (by decide)
                                        · have h := ie h c167
                                          by_cases c176 : (x2 &&& 31) = 19
                                          · have h := it h c176
                                            refine w_tabIn (tgt := 765) (off := 732) 33 hX dL_law_33 (by rw [c176]; decide) (by rw [c176]; decide) (by rw [c176]; decide) (by decide) ?_
                                            refine w_aload_n 1 765 hX rfl rfl dL_law_765 ?_
                                            refine w_aload_n 0 766 hX rfl rfl dL_law_766 ?_
                                            refine w_iload_n 3 767 hX rfl rfl dL_law_767 ?_
                                            refine w_iconst 1 768 hX ic_1 dL_law_768 ?_
                                            refine w_iadd 769 hX dL_law_769 ?_
                                            obtain ⟨x177, gx177, h⟩ := o_bind h
                                            refine w_sldx 770 hX gx177 dL_law_770 ?_
                                            refine w_aload_n 0 771 hX rfl rfl dL_law_771 ?_
                                            refine w_iload_n 3 772 hX rfl rfl dL_law_772 ?_
                                            refine w_iconst 2 773 hX ic_2 dL_law_773 ?_
                                            refine w_iadd 774 hX dL_law_774 ?_
                                            obtain ⟨x178, gx178, h⟩ := o_bind h
                                            refine w_sldx 775 hX gx178 dL_law_775 ?_
                                            refine w_aload_n 0 776 hX rfl rfl dL_law_776 ?_
                                            refine w_iload_n 3 777 hX rfl rfl dL_law_777 ?_
                                            refine w_iconst 3 778 hX ic_3 dL_law_778 ?_
                                            refine w_iadd 779 hX dL_law_779 ?_
                                            obtain ⟨x179, gx179, h⟩ := o_bind h
                                            refine w_sldx 780 hX gx179 dL_law_780 ?_
                                            refine w_aload_n 0 781 hX rfl rfl dL_law_781 ?_
                                            refine w_iload_n 3 782 hX rfl rfl dL_law_782 ?_
                                            refine w_iconst 4 783 hX ic_4 dL_law_783 ?_
                                            refine w_iadd 784 hX dL_law_784 ?_
                                            obtain ⟨x180, gx180, h⟩ := o_bind h
                                            refine w_sldx 785 hX gx180 dL_law_785 ?_
                                            obtain ⟨x181, gx181, h⟩ := o_bind h
                                            refine w_invVi (av := [.int x177, .int x178, .int x179, .int x180]) (st := []) 786 hX CI_11 s_0 rfl mv_yX11_march mi_yX11_march ml_L_96 (CX11_march_0 x177 x178 x179 x180 u gx181) rfl (by decide) (Nat.le_of_ble_eq_true rfl) (Nat.le_refl _) (Nat.le_refl _) dL_law_786 ?_
                                            refine w_aload_n 2 789 hX rfl rfl dL_law_789 ?_
                                            refine w_aload_n 0 790 hX rfl rfl dL_law_790 ?_
                                            refine w_iload_n 3 791 hX rfl rfl dL_law_791 ?_
                                            refine w_iconst 1 792 hX ic_1 dL_law_792 ?_
                                            refine w_iadd 793 hX dL_law_793 ?_
                                            obtain ⟨x182, gx182, h⟩ := o_bind h
                                            refine w_sldx 794 hX gx182 dL_law_794 ?_
                                            refine w_aload_n 0 795 hX rfl rfl dL_law_795 ?_
                                            refine w_iload_n 3 796 hX rfl rfl dL_law_796 ?_
                                            refine w_iconst 2 797 hX ic_2 dL_law_797 ?_
                                            refine w_iadd 798 hX dL_law_798 ?_
                                            obtain ⟨x183, gx183, h⟩ := o_bind h
                                            refine w_sldx 799 hX gx183 dL_law_799 ?_
                                            refine w_aload_n 0 800 hX rfl rfl dL_law_800 ?_
                                            refine w_iload_n 3 801 hX rfl rfl dL_law_801 ?_
                                            refine w_iconst 3 802 hX ic_3 dL_law_802 ?_
                                            refine w_iadd 803 hX dL_law_803 ?_
                                            obtain ⟨x184, gx184, h⟩ := o_bind h
                                            refine w_sldx 804 hX gx184 dL_law_804 ?_
                                            refine w_aload_n 0 805 hX rfl rfl dL_law_805 ?_
                                            refine w_iload_n 3 806 hX rfl rfl dL_law_806 ?_
                                            refine w_iconst 4 807 hX ic_4 dL_law_807 ?_
                                            refine w_iadd 808 hX dL_law_808 ?_
                                            obtain ⟨x185, gx185, h⟩ := o_bind h
                                            refine w_sldx 809 hX gx185 dL_law_809 ?_
                                            obtain ⟨x186, gx186, h⟩ := o_bind h
                                            refine w_invVi (av := [.int x182, .int x183, .int x184, .int x185]) (st := [.int x181]) 810 hX CI_12 s_146 rfl mv_yX12_march mi_yX12_march ml_L_100 (CX12_march_146 x182 x183 x184 x185 u gx186) rfl (by decide) (Nat.le_of_ble_eq_true rfl) (Nat.le_refl _) (Nat.le_refl _) dL_law_810 ?_
                                            refine w_icmp_eq (tgt := 1064) 813 hX dL_law_813 (by decide) (fun c187 => ?_) (fun c187 => ?_)
                                            · have h := it h c187
                                              exact bLW_1064 hX hR hk18 l3 u h
                                            · have h := ie h c187
                                              refine w_iconst 0 816 hX ic_0 dL_law_816 ?_
                                              exact absurd (Option.some.inj h) (by decide)
                                          · have h := ie h c176
                                            by_cases c188 : (x2 &&& 31) = 20
                                            · have h := it h c188
                                              refine w_tabIn (tgt := 818) (off := 785) 33 hX dL_law_33 (by rw [c188]; decide) (by rw [c188]; decide) (by rw [c188]; decide) (by decide) ?_
                                              refine w_aload_n 1 818 hX rfl rfl dL_law_818 ?_
                                              refine w_aload_n 0 819 hX rfl rfl dL_law_819 ?_
                                              refine w_iload_n 3 820 hX rfl rfl dL_law_820 ?_
                                              refine w_iconst 1 821 hX ic_1 dL_law_821 ?_
                                              refine w_iadd 822 hX dL_law_822 ?_
                                              obtain ⟨x189, gx189, h⟩ := o_bind h
                                              refine w_sldx 823 hX gx189 dL_law_823 ?_
                                              refine w_aload_n 0 824 hX rfl rfl dL_law_824 ?_
                                              refine w_iload_n 3 825 hX rfl rfl dL_law_825 ?_
                                              refine w_iconst 2 826 hX ic_2 dL_law_826 ?_
                                              refine w_iadd 827 hX dL_law_827 ?_
                                              obtain ⟨x190, gx190, h⟩ := o_bind h
                                              refine w_sldx 828 hX gx190 dL_law_828 ?_
                                              obtain ⟨x191, u192, gx191, h⟩ := o_bnd2 h
                                              refine w_invVi (av := [.int x189, .int x190]) (st := []) 829 hX CI_11 s_0 rfl mv_yX11_stands mi_yX11_stands ml_L_101 (CX11_stands_0 x189 x190 u gx191) rfl (by decide) (Nat.le_of_ble_eq_true rfl) (Nat.le_refl _) (Nat.le_refl _) dL_law_829 ?_
                                              refine w_aload_n 2 832 hX rfl rfl dL_law_832 ?_
                                              refine w_aload_n 0 833 hX rfl rfl dL_law_833 ?_
                                              refine w_iload_n 3 834 hX rfl rfl dL_law_834 ?_
                                              refine w_iconst 1 835 hX ic_1 dL_law_835 ?_
                                              refine w_iadd 836 hX dL_law_836 ?_
                                              obtain ⟨x193, gx193, h⟩ := o_bind h
                                              refine w_sldx 837 hX gx193 dL_law_837 ?_
                                              refine w_aload_n 0 838 hX rfl rfl dL_law_838 ?_
                                              refine w_iload_n 3 839 hX rfl rfl dL_law_839 ?_
                                              refine w_iconst 2 840 hX ic_2 dL_law_840 ?_
                                              refine w_iadd 841 hX dL_law_841 ?_
                                              obtain ⟨x194, gx194, h⟩ := o_bind h
                                              refine w_sldx 842 hX gx194 dL_law_842 ?_
                                              obtain ⟨x195, u196, gx195, h⟩ := o_bnd2 h
                                              refine w_invVi (av := [.int x193, .int x194]) (st := [.int x191]) 843 hX CI_12 s_146 rfl mv_yX12_stands mi_yX12_stands ml_L_104 (CX12_stands_146 x193 x194 u192 gx195) rfl (by decide) (Nat.le_of_ble_eq_true rfl) (Nat.le_refl _) (Nat.le_refl _) dL_law_843 ?_
                                              refine w_icmp_eq (tgt := 1064) 846 hX dL_law_846 (by decide) (fun c197 => ?_) (fun c197 => ?_)
                                              · have h := it h c197
                                                exact bLW_1064 hX hR hk18 l3 u196 h
                                              · have h := ie h c197
                                                refine w_iconst 0 849 hX ic_0 dL_law_849 ?_
                                                exact absurd (Option.some.inj h) (by decide)
                                            · have h := ie h c188
                                              by_cases c198 : (x2 &&& 31) = 21
                                              · have h := it h c198
                                                refine w_tabIn (tgt := 851) (off := 818) 33 hX dL_law_33 (by rw [c198]; decide) (by rw [c198]; decide) (by rw [c198]; decide) (by decide) ?_
                                                refine w_aload_n 1 851 hX rfl rfl dL_law_851 ?_
                                                refine w_aload_n 0 852 hX rfl rfl dL_law_852 ?_
                                                refine w_iload_n 3 853 hX rfl rfl dL_law_853 ?_
                                                refine w_iconst 1 854 hX ic_1 dL_law_854 ?_
                                                refine w_iadd 855 hX dL_law_855 ?_
                                                obtain ⟨x199, gx199, h⟩ := o_bind h
                                                refine w_sldx 856 hX gx199 dL_law_856 ?_
                                                refine w_aload_n 0 857 hX rfl rfl dL_law_857 ?_
                                                refine w_iload_n 3 858 hX rfl rfl dL_law_858 ?_
                                                refine w_iconst 2 859 hX ic_2 dL_law_859 ?_
                                                refine w_iadd 860 hX dL_law_860 ?_
                                                obtain ⟨x200, gx200, h⟩ := o_bind h
                                                refine w_sldx 861 hX gx200 dL_law_861 ?_
                                                refine w_aload_n 0 862 hX rfl rfl dL_law_862 ?_
                                                refine w_iload_n 3 863 hX rfl rfl dL_law_863 ?_
                                                refine w_iconst 3 864 hX ic_3 dL_law_864 ?_
                                                refine w_iadd 865 hX dL_law_865 ?_
                                                obtain ⟨x201, gx201, h⟩ := o_bind h
                                                refine w_sldx 866 hX gx201 dL_law_866 ?_
                                                obtain ⟨x202, u203, gx202, h⟩ := o_bnd2 h
                                                refine w_invVi (av := [.int x199, .int x200, .int x201]) (st := []) 867 hX CI_11 s_0 rfl mv_yX11_slipper mi_yX11_slipper ml_L_105 (CX11_slipper_0 x199 x200 x201 u gx202) rfl (by decide) (Nat.le_of_ble_eq_true rfl) (Nat.le_refl _) (Nat.le_refl _) dL_law_867 ?_
                                                refine w_aload_n 2 870 hX rfl rfl dL_law_870 ?_
                                                refine w_aload_n 0 871 hX rfl rfl dL_law_871 ?_
                                                refine w_iload_n 3 872 hX rfl rfl dL_law_872 ?_
                                                refine w_iconst 1 873 hX ic_1 dL_law_873 ?_
                                                refine w_iadd 874 hX dL_law_874 ?_
                                                obtain ⟨x204, gx204, h⟩ := o_bind h
                                                refine w_sldx 875 hX gx204 dL_law_875 ?_
                                                refine w_aload_n 0 876 hX rfl rfl dL_law_876 ?_
                                                refine w_iload_n 3 877 hX rfl rfl dL_law_877 ?_
                                                refine w_iconst 2 878 hX ic_2 dL_law_878 ?_
                                                refine w_iadd 879 hX dL_law_879 ?_
                                                obtain ⟨x205, gx205, h⟩ := o_bind h
                                                refine w_sldx 880 hX gx205 dL_law_880 ?_
                                                refine w_aload_n 0 881 hX rfl rfl dL_law_881 ?_
                                                refine w_iload_n 3 882 hX rfl rfl dL_law_882 ?_
                                                refine w_iconst 3 883 hX ic_3 dL_law_883 ?_
                                                refine w_iadd 884 hX dL_law_884 ?_
                                                obtain ⟨x206, gx206, h⟩ := o_bind h
                                                refine w_sldx 885 hX gx206 dL_law_885 ?_
                                                obtain ⟨x207, u208, gx207, h⟩ := o_bnd2 h
                                                refine w_invVi (av := [.int x204, .int x205, .int x206]) (st := [.int x202]) 886 hX CI_12 s_146 rfl mv_yX12_slipper mi_yX12_slipper ml_L_108 (CX12_slipper_146 x204 x205 x206 u203 gx207) rfl (by decide) (Nat.le_of_ble_eq_true rfl) (Nat.le_refl _) (Nat.le_refl _) dL_law_886 ?_
                                                refine w_icmp_eq (tgt := 1064) 889 hX dL_law_889 (by decide) (fun c209 => ?_) (fun c209 => ?_)
                                                · have h := it h c209
                                                  exact bLW_1064 hX hR hk18 l3 u208 h
                                                · have h := ie h c209
                                                  refine w_iconst 0 892 hX ic_0 dL_law_892 ?_
                                                  exact absurd (Option.some.inj h) (by decide)
                                              · have h := ie h c198
                                                by_cases c210 : (x2 &&& 31) = 22
                                                · have h := it h c210
                                                  refine w_tabIn (tgt := 894) (off := 861) 33 hX dL_law_33 (by rw [c210]; decide) (by rw [c210]; decide) (by rw [c210]; decide) (by decide) ?_
                                                  refine w_aload_n 1 894 hX rfl rfl dL_law_894 ?_
                                                  obtain ⟨x211, gx211, h⟩ := o_bind h
                                                  refine w_invVi (av := []) (st := []) 895 hX CI_11 s_0 rfl mv_yX11_left mi_yX11_left ml_L_109 (CX11_left_0 u gx211) rfl (by decide) (Nat.le_of_ble_eq_true rfl) (Nat.le_refl _) (Nat.le_refl _) dL_law_895 ?_
                                                  refine w_aload_n 2 898 hX rfl rfl dL_law_898 ?_
                                                  obtain ⟨x212, gx212, h⟩ := o_bind h
                                                  refine w_invVi (av := []) (st := [.int x211]) 899 hX CI_12 s_146 rfl mv_yX12_left mi_yX12_left ml_L_113 (CX12_left_146 u gx212) rfl (by decide) (Nat.le_of_ble_eq_true rfl) (Nat.le_refl _) (Nat.le_refl _) dL_law_899 ?_
                                                  refine w_icmp_eq (tgt := 1064) 902 hX dL_law_902 (by decide) (fun c213 => ?_) (fun c213 => ?_)
                                                  · have h := it h c213
                                                    exact bLW_1064 hX hR hk18 l3 u h
                                                  · have h := ie h c213
                                                    refine w_iconst 0 905 hX ic_0 dL_law_905 ?_
                                                    exact absurd (Option.some.inj h) (by decide)
                                                · have h := ie h c210
                                                  by_cases c214 : (x2 &&& 31) = 23
                                                  · have h := it h c214
                                                    refine w_tabIn (tgt := 907) (off := 874) 33 hX dL_law_33 (by rw [c214]; decide) (by rw [c214]; decide) (by rw [c214]; decide) (by decide) ?_
                                                    refine w_aload_n 1 907 hX rfl rfl dL_law_907 ?_
                                                    obtain ⟨x215, gx215, h⟩ := o_bind h
                                                    refine w_invVi (av := []) (st := []) 908 hX CI_11 s_0 rfl mv_yX11_ask mi_yX11_ask ml_L_114 (CX11_ask_0 u gx215) rfl (by decide) (Nat.le_of_ble_eq_true rfl) (Nat.le_refl _) (Nat.le_refl _) dL_law_908 ?_
                                                    refine w_aload_n 2 911 hX rfl rfl dL_law_911 ?_
                                                    obtain ⟨x216, gx216, h⟩ := o_bind h
                                                    refine w_invVi (av := []) (st := [.int x215]) 912 hX CI_12 s_146 rfl mv_yX12_ask mi_yX12_ask ml_L_117 (CX12_ask_146 u gx216) rfl (by decide) (Nat.le_of_ble_eq_true rfl) (Nat.le_refl _) (Nat.le_refl _) dL_law_912 ?_
                                                    refine w_icmp_eq (tgt := 1064) 915 hX dL_law_915 (by decide) (fun c217 => ?_) (fun c217 => ?_)
                                                    · have h := it h c217
                                                      exact bLW_1064 hX hR hk18 l3 u h
                                                    · have h := ie h c217
                                                      refine w_iconst 0 918 hX ic_0 dL_law_918 ?_
                                                      exact absurd (Option.some.inj h) (by decide)
                                                  · have h := ie h c214
                                                    by_cases c218 : (x2 &&& 31) = 24
                                                    · have h := it h c218
                                                      refine w_tabIn (tgt := 920) (off := 887) 33 hX dL_law_33 (by rw [c218]; decide) (by rw [c218]; decide) (by rw [c218]; decide) (by decide) ?_
                                                      refine w_aload_n 1 920 hX rfl rfl dL_law_920 ?_
                                                      refine w_aload_n 0 921 hX rfl rfl dL_law_921 ?_
                                                      refine w_iload_n 3 922 hX rfl rfl dL_law_922 ?_
                                                      refine w_iconst 1 923 hX ic_1 dL_law_923 ?_
                                                      refine w_iadd 924 hX dL_law_924 ?_
                                                      obtain ⟨x219, gx219, h⟩ := o_bind h
                                                      refine w_sldx 925 hX gx219 dL_law_925 ?_
                                                      refine w_aload_n 0 926 hX rfl rfl dL_law_926 ?_
                                                      refine w_iload_n 3 927 hX rfl rfl dL_law_927 ?_
                                                      refine w_iconst 2 928 hX ic_2 dL_law_928 ?_
                                                      refine w_iadd 929 hX dL_law_929 ?_
                                                      obtain ⟨x220, gx220, h⟩ := o_bind h
                                                      refine w_sldx 930 hX gx220 dL_law_930 ?_
                                                      obtain ⟨x221, u222, gx221, h⟩ := o_bnd2 h
                                                      refine w_invVi (av := [.int x219, .int x220]) (st := []) 931 hX CI_11 s_0 rfl mv_yX11_forgets mi_yX11_forgets ml_L_118 (CX11_forgets_0 x219 x220 u gx221) rfl (by decide) (Nat.le_of_ble_eq_true rfl) (Nat.le_refl _) (Nat.le_refl _) dL_law_931 ?_
                                                      refine w_aload_n 2 934 hX rfl rfl dL_law_934 ?_
                                                      refine w_aload_n 0 935 hX rfl rfl dL_law_935 ?_
                                                      refine w_iload_n 3 936 hX rfl rfl dL_law_936 ?_
                                                      refine w_iconst 1 937 hX ic_1 dL_law_937 ?_
                                                      refine w_iadd 938 hX dL_law_938 ?_
                                                      obtain ⟨x223, gx223, h⟩ := o_bind h
                                                      refine w_sldx 939 hX gx223 dL_law_939 ?_
                                                      refine w_aload_n 0 940 hX rfl rfl dL_law_940 ?_
                                                      refine w_iload_n 3 941 hX rfl rfl dL_law_941 ?_
                                                      refine w_iconst 2 942 hX ic_2 dL_law_942 ?_
                                                      refine w_iadd 943 hX dL_law_943 ?_
                                                      obtain ⟨x224, gx224, h⟩ := o_bind h
                                                      refine w_sldx 944 hX gx224 dL_law_944 ?_
                                                      obtain ⟨x225, u226, gx225, h⟩ := o_bnd2 h
                                                      refine w_invVi (av := [.int x223, .int x224]) (st := [.int x221]) 945 hX CI_12 s_146 rfl mv_yX12_forgets mi_yX12_forgets ml_L_121 (CX12_forgets_146 x223 x224 u222 gx225) rfl (by decide) (Nat.le_of_ble_eq_true rfl) (Nat.le_refl _) (Nat.le_refl _) dL_law_945 ?_
                                                      refine w_icmp_eq (tgt := 1064) 948 hX dL_law_948 (by decide) (fun c227 => ?_) (fun c227 => ?_)
                                                      · have h := it h c227
                                                        exact bLW_1064 hX hR hk18 l3 u226 h
                                                      · have h := ie h c227
                                                        refine w_iconst 0 951 hX ic_0 dL_law_951 ?_
                                                        exact absurd (Option.some.inj h) (by decide)
                                                    · have h := ie h c218
                                                      by_cases c228 : (x2 &&& 31) = 25
                                                      · have h := it h c228
                                                        refine w_tabIn (tgt := 953) (off := 920) 33 hX dL_law_33 (by rw [c228]; decide) (by rw [c228]; decide) (by rw [c228]; decide) (by decide) ?_
                                                        refine w_aload_n 1 953 hX rfl rfl dL_law_953 ?_
                                                        obtain ⟨x229, gx229, h⟩ := o_bind h
                                                        refine w_invVi (av := []) (st := []) 954 hX CI_11 s_0 rfl mv_yX11_last mi_yX11_last ml_L_122 (CX11_last_0 u gx229) rfl (by decide) (Nat.le_of_ble_eq_true rfl) (Nat.le_refl _) (Nat.le_refl _) dL_law_954 ?_
                                                        refine w_aload_n 2 957 hX rfl rfl dL_law_957 ?_
                                                        obtain ⟨x230, gx230, h⟩ := o_bind h
                                                        refine w_invVi (av := []) (st := [.int x229]) 958 hX CI_12 s_146 rfl mv_yX12_last mi_yX12_last ml_L_125 (CX12_last_146 u gx230) rfl (by decide) (Nat.le_of_ble_eq_true rfl) (Nat.le_refl _) (Nat.le_refl _) dL_law_958 ?_
                                                        refine w_icmp_eq (tgt := 1064) 961 hX dL_law_961 (by decide) (fun c231 => ?_) (fun c231 => ?_)
                                                        · have h := it h c231
                                                          exact bLW_1064 hX hR hk18 l3 u h
                                                        · have h := ie h c231
                                                          refine w_iconst 0 964 hX ic_0 dL_law_964 ?_
                                                          exact absurd (Option.some.inj h) (by decide)
                                                      · have h := ie h c228
                                                        by_cases c232 : (x2 &&& 31) = 26
                                                        · have h := it h c232
                                                          refine w_tabIn (tgt := 966) (off := 933) 33 hX dL_law_33 (by rw [c232]; decide) (by rw [c232]; decide) (by rw [c232]; decide) (by decide) ?_
                                                          refine w_aload_n 1 966 hX rfl rfl dL_law_966 ?_
                                                          refine w_aload_n 0 967 hX rfl rfl dL_law_967 ?_
                                                          refine w_iload_n 3 968 hX rfl rfl dL_law_968 ?_
                                                          refine w_iconst 1 969 hX ic_1 dL_law_969 ?_
                                                          refine w_iadd 970 hX dL_law_970 ?_
                                                          obtain ⟨x233, gx233, h⟩ := o_bind h
                                                          refine w_sldx 971 hX gx233 dL_law_971 ?_
                                                          obtain ⟨x234, gx234, h⟩ := o_bind h
                                                          refine w_invVi (av := [.int x233]) (st := []) 972 hX CI_11 s_0 rfl mv_yX11_treaty mi_yX11_treaty ml_L_126 (CX11_treaty_0 x233 u gx234) rfl (by decide) (Nat.le_of_ble_eq_true rfl) (Nat.le_refl _) (Nat.le_refl _) dL_law_972 ?_
                                                          refine w_aload_n 2 975 hX rfl rfl dL_law_975 ?_
                                                          refine w_aload_n 0 976 hX rfl rfl dL_law_976 ?_
                                                          refine w_iload_n 3 977 hX rfl rfl dL_law_977 ?_
                                                          refine w_iconst 1 978 hX ic_1 dL_law_978 ?_
                                                          refine w_iadd 979 hX dL_law_979 ?_
                                                          obtain ⟨x235, gx235, h⟩ := o_bind h
                                                          refine w_sldx 980 hX gx235 dL_law_980 ?_
                                                          obtain ⟨x236, gx236, h⟩ := o_bind h
                                                          refine w_invVi (av := [.int x235]) (st := [.int x234]) 981 hX CI_12 s_146 rfl mv_yX12_treaty mi_yX12_treaty ml_L_129 (CX12_treaty_146 x235 u gx236) rfl (by decide) (Nat.le_of_ble_eq_true rfl) (Nat.le_refl _) (Nat.le_refl _) dL_law_981 ?_
                                                          refine w_icmp_eq (tgt := 1064) 984 hX dL_law_984 (by decide) (fun c237 => ?_) (fun c237 => ?_)
                                                          · have h := it h c237
                                                            exact bLW_1064 hX hR hk18 l3 u h
                                                          · have h := ie h c237
                                                            refine w_iconst 0 987 hX ic_0 dL_law_987 ?_
                                                            exact absurd (Option.some.inj h) (by decide)
                                                        · have h := ie h c232
                                                          by_cases c238 : (x2 &&& 31) = 27
                                                          · have h := it h c238
                                                            refine w_tabIn (tgt := 989) (off := 956) 33 hX dL_law_33 (by rw [c238]; decide) (by rw [c238]; decide) (by rw [c238]; decide) (by decide) ?_
                                                            refine w_aload_n 1 989 hX rfl rfl dL_law_989 ?_
                                                            obtain ⟨x239, u240, gx239, h⟩ := o_bnd2 h
                                                            refine w_invVi (av := []) (st := []) 990 hX CI_11 s_0 rfl mv_yX11_undo mi_yX11_undo ml_L_130 (CX11_undo_0 u gx239) rfl (by decide) (Nat.le_of_ble_eq_true rfl) (Nat.le_refl _) (Nat.le_refl _) dL_law_990 ?_
                                                            refine w_aload_n 2 993 hX rfl rfl dL_law_993 ?_
                                                            obtain ⟨x241, u242, gx241, h⟩ := o_bnd2 h
                                                            refine w_invVi (av := []) (st := [.int x239]) 994 hX CI_12 s_146 rfl mv_yX12_undo mi_yX12_undo ml_L_134 (CX12_undo_146 u240 gx241) rfl (by decide) (Nat.le_of_ble_eq_true rfl) (Nat.le_refl _) (Nat.le_refl _) dL_law_994 ?_
                                                            refine w_icmp_eq (tgt := 1064) 997 hX dL_law_997 (by decide) (fun c243 => ?_) (fun c243 => ?_)
                                                            · have h := it h c243
                                                              exact bLW_1064 hX hR hk18 l3 u242 h
                                                            · have h := ie h c243
                                                              refine w_iconst 0 1000 hX ic_0 dL_law_1000 ?_
                                                              exact absurd (Option.some.inj h) (by decide)
                                                          · have h := ie h c238
                                                            by_cases c244 : (x2 &&& 31) = 28
                                                            · have h := it h c244
                                                              refine w_tabIn (tgt := 1002) (off := 969) 33 hX dL_law_33 (by rw [c244]; decide) (by rw [c244]; decide) (by rw [c244]; decide) (by decide) ?_
                                                              refine w_aload_n 1 1002 hX rfl rfl dL_law_1002 ?_
                                                              refine w_aload_n 0 1003 hX rfl rfl dL_law_1003 ?_
                                                              refine w_iload_n 3 1004 hX rfl rfl dL_law_1004 ?_
                                                              refine w_iconst 1 1005 hX ic_1 dL_law_1005 ?_
                                                              refine w_iadd 1006 hX dL_law_1006 ?_
                                                              obtain ⟨x245, gx245, h⟩ := o_bind h
                                                              refine w_sldx 1007 hX gx245 dL_law_1007 ?_
                                                              refine w_if_eq (tgt := 1015) 1008 hX dL_law_1008 (by decide) (fun c246 => ?_) (fun c246 => ?_)
                                                              · have h := it h c246
                                                                refine w_iconst 0 1015 hX ic_0 dL_law_1015 ?_
                                                                exact bLW_1016 hX hR hk18 l3 0 u h
                                                              · have h := ie h c246
                                                                refine w_iconst 1 1011 hX ic_1 dL_law_1011 ?_
                                                                refine w_goto (tgt := 1016) 1012 hX (by decide) dL_law_1012 ?_
                                                                exact bLW_1016 hX hR hk18 l3 1 u h
                                                            · have h := ie h c244
                                                              by_cases c247 : (x2 &&& 31) = 29
                                                              · have h := it h c247
                                                                refine w_tabIn (tgt := 1041) (off := 1008) 33 hX dL_law_33 (by rw [c247]; decide) (by rw [c247]; decide) (by rw [c247]; decide) (by decide) ?_
                                                                refine w_aload_n 1 1041 hX rfl rfl dL_law_1041 ?_
                                                                refine w_aload_n 0 1042 hX rfl rfl dL_law_1042 ?_
                                                                refine w_iload_n 3 1043 hX rfl rfl dL_law_1043 ?_
                                                                refine w_iconst 1 1044 hX ic_1 dL_law_1044 ?_
                                                                refine w_iadd 1045 hX dL_law_1045 ?_
                                                                obtain ⟨x248, gx248, h⟩ := o_bind h
                                                                refine w_sldx 1046 hX gx248 dL_law_1046 ?_
                                                                obtain ⟨x249, gx249, h⟩ := o_bind h
                                                                refine w_invVi (av := [.int x248]) (st := []) 1047 hX CI_11 s_0 rfl mv_yX11_look mi_yX11_look ml_L_140 (CX11_look_0 x248 u gx249) rfl (by decide) (Nat.le_of_ble_eq_true rfl) (Nat.le_refl _) (Nat.le_refl _) dL_law_1047 ?_
                                                                refine w_aload_n 2 1050 hX rfl rfl dL_law_1050 ?_
                                                                refine w_aload_n 0 1051 hX rfl rfl dL_law_1051 ?_
                                                                refine w_iload_n 3 1052 hX rfl rfl dL_law_1052 ?_
                                                                refine w_iconst 1 1053 hX ic_1 dL_law_1053 ?_
                                                                refine w_iadd 1054 hX dL_law_1054 ?_
                                                                obtain ⟨x250, gx250, h⟩ := o_bind h
                                                                refine w_sldx 1055 hX gx250 dL_law_1055 ?_
                                                                obtain ⟨x251, gx251, h⟩ := o_bind h
                                                                refine w_invVi (av := [.int x250]) (st := [.int x249]) 1056 hX CI_12 s_146 rfl mv_yX12_look mi_yX12_look ml_L_143 (CX12_look_146 x250 u gx251) rfl (by decide) (Nat.le_of_ble_eq_true rfl) (Nat.le_refl _) (Nat.le_refl _) dL_law_1056 ?_
                                                                refine w_icmp_eq (tgt := 1064) 1059 hX dL_law_1059 (by decide) (fun c252 => ?_) (fun c252 => ?_)
                                                                · have h := it h c252
                                                                  exact bLW_1064 hX hR hk18 l3 u h
                                                                · have h := ie h c252
                                                                  refine w_iconst 0 1062 hX ic_0 dL_law_1062 ?_
                                                                  exact absurd (Option.some.inj h) (by decide)
                                                              · have h := ie h c247
                                                                have zc3 := lv_neT c3 (a := 0) (by decide)
                                                                have zc11 := lv_neT c11 (a := 1) (by decide)
                                                                have zc23 := lv_neT c23 (a := 2) (by decide)
                                                                have zc35 := lv_neT c35 (a := 3) (by decide)
                                                                have zc45 := lv_neT c45 (a := 4) (by decide)
                                                                have zc57 := lv_neT c57 (a := 5) (by decide)
                                                                have zc65 := lv_neT c65 (a := 6) (by decide)
                                                                have zc81 := lv_neT c81 (a := 7) (by decide)
                                                                have zc89 := lv_neT c89 (a := 8) (by decide)
                                                                have zc97 := lv_neT c97 (a := 9) (by decide)
                                                                have zc103 := lv_neT c103 (a := 10) (by decide)
                                                                have zc113 := lv_neT c113 (a := 11) (by decide)
                                                                have zc119 := lv_neT c119 (a := 12) (by decide)
                                                                have zc127 := lv_neT c127 (a := 13) (by decide)
                                                                have zc135 := lv_neT c135 (a := 14) (by decide)
                                                                have zc143 := lv_neT c143 (a := 15) (by decide)
                                                                have zc153 := lv_neT c153 (a := 16) (by decide)
                                                                have zc161 := lv_neT c161 (a := 17) (by decide)
                                                                have zc167 := lv_neT c167 (a := 18) (by decide)
                                                                have zc176 := lv_neT c176 (a := 19) (by decide)
                                                                have zc188 := lv_neT c188 (a := 20) (by decide)
                                                                have zc198 := lv_neT c198 (a := 21) (by decide)
                                                                have zc210 := lv_neT c210 (a := 22) (by decide)
                                                                have zc214 := lv_neT c214 (a := 23) (by decide)
                                                                have zc218 := lv_neT c218 (a := 24) (by decide)
                                                                have zc228 := lv_neT c228 (a := 25) (by decide)
                                                                have zc232 := lv_neT c232 (a := 26) (by decide)
                                                                have zc238 := lv_neT c238 (a := 27) (by decide)
                                                                have zc244 := lv_neT c244 (a := 28) (by decide)
                                                                have zc247 := lv_neT c247 (a := 29) (by decide)
                                                                refine w_tabOut (tgt := 1064) 33 hX dL_law_33 (by omega) (by decide) ?_
                                                                exact bLW_1064 hX hR hk18 l3 u h
def FLW_L18 (sl : Nat) (sv : Nat → Int32) : Nat → Int32 → Mem → Option Int32
  | 0, _, _ => none
  | n + 1, l3, u => FLW_b18 sl sv (FLW_L18 sl sv n) l3 u
theorem lLW_18 {G : Gt} {X : Xt} {u9 : Mem} (hX : CxOk G X cL_law 4 RL (none, SH, RHO, u9) 1000) (hR : LwRet G X) : ∀ (n : Nat) (l3 : Int32) (u : Mem) , FLW_L18 (gS G).2.1 (gS G).2.2 n l3 u = some 1 → WM G X 18 [(0, .ref 4999), (1, .ref 0), (2, .ref 146), (3, .int l3)] [] SH RHO u := by
  intro n
  induction n with
  | zero =>
    intro l3 u h
    exact nn_ h
  | succ n ih =>
    intro l3 u h
    exact bLW_18 hX hR ih l3 u h
