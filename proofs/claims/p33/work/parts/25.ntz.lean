def FJ6_numberOfTrailingZeros_0f7a4_b74 (l0 l1 : Int32) : Option Int32 :=
  some (l1 + (((l0 : Int32).toUInt32 >>> ((1 : Int32).toUInt32 &&& Int32.toUInt32 31)).toInt32))
theorem bJ6_numberOfTrailingZeros_0f7a4_74 {G : Gt} {X : Xt} {v : Int32} {u : Mem} (hX : CxOk G X cJ6_numberOfTrailingZeros_0f7a4 2 RJ6 (some (.int v), (SHg G), (RHg G), u) 1) (hR : CxRet G X (some .int) (some (.int v), (SHg G), (RHg G), u)) (l0 l1 : Int32) (h : FJ6_numberOfTrailingZeros_0f7a4_b74 l0 l1 = some v) : WM G X 74 [(0, .int l0), (1, .int l1)] [] (SHg G) (RHg G) u := by
  unfold FJ6_numberOfTrailingZeros_0f7a4_b74 at h
  refine w_iload_n 1 74 hX rfl rfl dJ6_numberOfTrailingZeros_0f7a4_74 ?_
  refine w_iload_n 0 75 hX rfl rfl dJ6_numberOfTrailingZeros_0f7a4_75 ?_
  refine w_iconst 1 76 hX ic_1 dJ6_numberOfTrailingZeros_0f7a4_76 ?_
  refine w_iushr 77 hX dJ6_numberOfTrailingZeros_0f7a4_77 ?_
  refine w_iadd 78 hX dJ6_numberOfTrailingZeros_0f7a4_78 ?_
  exact w_iret 79 hX hR dJ6_numberOfTrailingZeros_0f7a4_79 (by cases h; rfl)
def FJ6_numberOfTrailingZeros_0f7a4_b62 (l0 l1 : Int32) : Option Int32 :=
  (if l0 ≤ 4 then (FJ6_numberOfTrailingZeros_0f7a4_b74 l0 l1) else (FJ6_numberOfTrailingZeros_0f7a4_b74 (((l0 : Int32).toUInt32 >>> ((2 : Int32).toUInt32 &&& Int32.toUInt32 31)).toInt32) (l1 + 2)))
theorem bJ6_numberOfTrailingZeros_0f7a4_62 {G : Gt} {X : Xt} {v : Int32} {u : Mem} (hX : CxOk G X cJ6_numberOfTrailingZeros_0f7a4 2 RJ6 (some (.int v), (SHg G), (RHg G), u) 1) (hR : CxRet G X (some .int) (some (.int v), (SHg G), (RHg G), u)) (l0 l1 : Int32) (h : FJ6_numberOfTrailingZeros_0f7a4_b62 l0 l1 = some v) : WM G X 62 [(0, .int l0), (1, .int l1)] [] (SHg G) (RHg G) u := by
  unfold FJ6_numberOfTrailingZeros_0f7a4_b62 at h
  refine w_iload_n 0 62 hX rfl rfl dJ6_numberOfTrailingZeros_0f7a4_62 ?_
  refine w_iconst 4 63 hX ic_4 dJ6_numberOfTrailingZeros_0f7a4_63 ?_
  refine w_icmp_le (tgt := 74) 64 hX dJ6_numberOfTrailingZeros_0f7a4_64 (by decide) (fun c1 => ?_) (fun c1 => ?_)
  · have h := it h c1
    exact bJ6_numberOfTrailingZeros_0f7a4_74 hX hR l0 l1 h
  · have h := ie h c1
    refine w_iinc (lv' := [(1, .int (l1 + 2)), (0, .int l0)]) 67 1 hX dJ6_numberOfTrailingZeros_0f7a4_67 rfl (inc_2 _) (by decide) rfl ?_
    refine w_iload_n 1 70 hX rfl rfl dJ6_numberOfTrailingZeros_0f7a4_70 ?_
    refine w_iconst 2 71 hX ic_2 dJ6_numberOfTrailingZeros_0f7a4_71 ?_
    refine w_iushr 72 hX dJ6_numberOfTrailingZeros_0f7a4_72 ?_
    refine w_istore_n (lv' := [(0, .int (((l0 : Int32).toUInt32 >>> ((2 : Int32).toUInt32 &&& Int32.toUInt32 31)).toInt32)), (1, .int (l1 + 2))]) 73 hX rfl dJ6_numberOfTrailingZeros_0f7a4_73 (by decide) rfl ?_
    exact bJ6_numberOfTrailingZeros_0f7a4_74 hX hR (((l0 : Int32).toUInt32 >>> ((2 : Int32).toUInt32 &&& Int32.toUInt32 31)).toInt32) (l1 + 2) h
def FJ6_numberOfTrailingZeros_0f7a4_b49 (l0 l1 : Int32) : Option Int32 :=
  (if l0 ≤ 16 then (FJ6_numberOfTrailingZeros_0f7a4_b62 l0 l1) else (FJ6_numberOfTrailingZeros_0f7a4_b62 (((l0 : Int32).toUInt32 >>> ((4 : Int32).toUInt32 &&& Int32.toUInt32 31)).toInt32) (l1 + 4)))
theorem bJ6_numberOfTrailingZeros_0f7a4_49 {G : Gt} {X : Xt} {v : Int32} {u : Mem} (hX : CxOk G X cJ6_numberOfTrailingZeros_0f7a4 2 RJ6 (some (.int v), (SHg G), (RHg G), u) 1) (hR : CxRet G X (some .int) (some (.int v), (SHg G), (RHg G), u)) (l0 l1 : Int32) (h : FJ6_numberOfTrailingZeros_0f7a4_b49 l0 l1 = some v) : WM G X 49 [(0, .int l0), (1, .int l1)] [] (SHg G) (RHg G) u := by
  unfold FJ6_numberOfTrailingZeros_0f7a4_b49 at h
  refine w_iload_n 0 49 hX rfl rfl dJ6_numberOfTrailingZeros_0f7a4_49 ?_
  refine w_bipush 16 50 hX ib_16 dJ6_numberOfTrailingZeros_0f7a4_50 ?_
  refine w_icmp_le (tgt := 62) 52 hX dJ6_numberOfTrailingZeros_0f7a4_52 (by decide) (fun c1 => ?_) (fun c1 => ?_)
  · have h := it h c1
    exact bJ6_numberOfTrailingZeros_0f7a4_62 hX hR l0 l1 h
  · have h := ie h c1
    refine w_iinc (lv' := [(1, .int (l1 + 4)), (0, .int l0)]) 55 1 hX dJ6_numberOfTrailingZeros_0f7a4_55 rfl (inc_4 _) (by decide) rfl ?_
    refine w_iload_n 1 58 hX rfl rfl dJ6_numberOfTrailingZeros_0f7a4_58 ?_
    refine w_iconst 4 59 hX ic_4 dJ6_numberOfTrailingZeros_0f7a4_59 ?_
    refine w_iushr 60 hX dJ6_numberOfTrailingZeros_0f7a4_60 ?_
    refine w_istore_n (lv' := [(0, .int (((l0 : Int32).toUInt32 >>> ((4 : Int32).toUInt32 &&& Int32.toUInt32 31)).toInt32)), (1, .int (l1 + 4))]) 61 hX rfl dJ6_numberOfTrailingZeros_0f7a4_61 (by decide) rfl ?_
    exact bJ6_numberOfTrailingZeros_0f7a4_62 hX hR (((l0 : Int32).toUInt32 >>> ((4 : Int32).toUInt32 &&& Int32.toUInt32 31)).toInt32) (l1 + 4) h
def FJ6_numberOfTrailingZeros_0f7a4_b34 (l0 l1 : Int32) : Option Int32 :=
  (if l0 ≤ 256 then (FJ6_numberOfTrailingZeros_0f7a4_b49 l0 l1) else (FJ6_numberOfTrailingZeros_0f7a4_b49 (((l0 : Int32).toUInt32 >>> ((8 : Int32).toUInt32 &&& Int32.toUInt32 31)).toInt32) (l1 + 8)))
theorem bJ6_numberOfTrailingZeros_0f7a4_34 {G : Gt} {X : Xt} {v : Int32} {u : Mem} (hX : CxOk G X cJ6_numberOfTrailingZeros_0f7a4 2 RJ6 (some (.int v), (SHg G), (RHg G), u) 1) (hR : CxRet G X (some .int) (some (.int v), (SHg G), (RHg G), u)) (l0 l1 : Int32) (h : FJ6_numberOfTrailingZeros_0f7a4_b34 l0 l1 = some v) : WM G X 34 [(0, .int l0), (1, .int l1)] [] (SHg G) (RHg G) u := by
  unfold FJ6_numberOfTrailingZeros_0f7a4_b34 at h
  refine w_iload_n 0 34 hX rfl rfl dJ6_numberOfTrailingZeros_0f7a4_34 ?_
  refine w_sipush 256 35 hX isp_256 dJ6_numberOfTrailingZeros_0f7a4_35 ?_
  refine w_icmp_le (tgt := 49) 38 hX dJ6_numberOfTrailingZeros_0f7a4_38 (by decide) (fun c1 => ?_) (fun c1 => ?_)
  · have h := it h c1
    exact bJ6_numberOfTrailingZeros_0f7a4_49 hX hR l0 l1 h
  · have h := ie h c1
    refine w_iinc (lv' := [(1, .int (l1 + 8)), (0, .int l0)]) 41 1 hX dJ6_numberOfTrailingZeros_0f7a4_41 rfl (inc_8 _) (by decide) rfl ?_
    refine w_iload_n 1 44 hX rfl rfl dJ6_numberOfTrailingZeros_0f7a4_44 ?_
    refine w_bipush 8 45 hX ib_8 dJ6_numberOfTrailingZeros_0f7a4_45 ?_
    refine w_iushr 47 hX dJ6_numberOfTrailingZeros_0f7a4_47 ?_
    refine w_istore_n (lv' := [(0, .int (((l0 : Int32).toUInt32 >>> ((8 : Int32).toUInt32 &&& Int32.toUInt32 31)).toInt32)), (1, .int (l1 + 8))]) 48 hX rfl dJ6_numberOfTrailingZeros_0f7a4_48 (by decide) rfl ?_
    exact bJ6_numberOfTrailingZeros_0f7a4_49 hX hR (((l0 : Int32).toUInt32 >>> ((8 : Int32).toUInt32 &&& Int32.toUInt32 31)).toInt32) (l1 + 8) h
def FJ6_numberOfTrailingZeros_0f7a4 (p0 : Int32) : Option Int32 :=
  (if 0 < ((p0 ^^^ (-1)) &&& (p0 - 1)) then ((if ((p0 ^^^ (-1)) &&& (p0 - 1)) ≤ 65536 then (FJ6_numberOfTrailingZeros_0f7a4_b34 ((p0 ^^^ (-1)) &&& (p0 - 1)) 1) else (FJ6_numberOfTrailingZeros_0f7a4_b34 ((((p0 ^^^ (-1)) &&& (p0 - 1) : Int32).toUInt32 >>> ((16 : Int32).toUInt32 &&& Int32.toUInt32 31)).toInt32) (1 + 16)))) else (some (((p0 ^^^ (-1)) &&& (p0 - 1)) &&& 32)))
theorem CJ6_numberOfTrailingZeros_0f7a4 {G : Gt} (p0 : Int32) (u : Mem) {v : Int32} (h : FJ6_numberOfTrailingZeros_0f7a4 p0 = some v) : CT G yJ6_numberOfTrailingZeros_0f7a4 cJ6_numberOfTrailingZeros_0f7a4 2 (some .int) 1 [.int p0] (SHg G) (RHg G) u (some (.int v), (SHg G), (RHg G), u) :=
  ct_of (by decide) rfl (Nat.le_of_ble_eq_true rfl) (Nat.le_refl _) (Nat.le_refl _) (fun X hX hR => by
  unfold FJ6_numberOfTrailingZeros_0f7a4 at h
  refine w_iload_n 0 0 hX rfl rfl dJ6_numberOfTrailingZeros_0f7a4_0 ?_
  refine w_iconst (-1) 1 hX ic_m1 dJ6_numberOfTrailingZeros_0f7a4_1 ?_
  refine w_ixor 2 hX dJ6_numberOfTrailingZeros_0f7a4_2 ?_
  refine w_iload_n 0 3 hX rfl rfl dJ6_numberOfTrailingZeros_0f7a4_3 ?_
  refine w_iconst 1 4 hX ic_1 dJ6_numberOfTrailingZeros_0f7a4_4 ?_
  refine w_isub 5 hX dJ6_numberOfTrailingZeros_0f7a4_5 ?_
  refine w_iand 6 hX dJ6_numberOfTrailingZeros_0f7a4_6 ?_
  refine w_istore_n (lv' := [(0, .int ((p0 ^^^ (-1)) &&& (p0 - 1)))]) 7 hX rfl dJ6_numberOfTrailingZeros_0f7a4_7 (by decide) rfl ?_
  refine w_iload_n 0 8 hX rfl rfl dJ6_numberOfTrailingZeros_0f7a4_8 ?_
  refine w_if_gt (tgt := 17) 9 hX dJ6_numberOfTrailingZeros_0f7a4_9 (by decide) (fun c1 => ?_) (fun c1 => ?_)
  · have h := it h c1
    refine w_iconst 1 17 hX ic_1 dJ6_numberOfTrailingZeros_0f7a4_17 ?_
    refine w_istore_n (lv' := [(1, .int 1), (0, .int ((p0 ^^^ (-1)) &&& (p0 - 1)))]) 18 hX rfl dJ6_numberOfTrailingZeros_0f7a4_18 (by decide) rfl ?_
    refine w_iload_n 1 19 hX rfl rfl dJ6_numberOfTrailingZeros_0f7a4_19 ?_
    refine w_ldcw 65536 20 hX cs_J6_264 dJ6_numberOfTrailingZeros_0f7a4_20 ?_
    refine w_icmp_le (tgt := 34) 23 hX dJ6_numberOfTrailingZeros_0f7a4_23 (by decide) (fun c2 => ?_) (fun c2 => ?_)
    · have h := it h c2
      exact w_sub [1, 0] rfl (bJ6_numberOfTrailingZeros_0f7a4_34 hX hR ((p0 ^^^ (-1)) &&& (p0 - 1)) 1 h)
    · have h := ie h c2
      refine w_iinc (lv' := [(1, .int (1 + 16)), (0, .int ((p0 ^^^ (-1)) &&& (p0 - 1)))]) 26 0 hX dJ6_numberOfTrailingZeros_0f7a4_26 rfl (inc_16 _) (by decide) rfl ?_
      refine w_iload_n 1 29 hX rfl rfl dJ6_numberOfTrailingZeros_0f7a4_29 ?_
      refine w_bipush 16 30 hX ib_16 dJ6_numberOfTrailingZeros_0f7a4_30 ?_
      refine w_iushr 32 hX dJ6_numberOfTrailingZeros_0f7a4_32 ?_
      refine w_istore_n (lv' := [(0, .int ((((p0 ^^^ (-1)) &&& (p0 - 1) : Int32).toUInt32 >>> ((16 : Int32).toUInt32 &&& Int32.toUInt32 31)).toInt32)), (1, .int (1 + 16))]) 33 hX rfl dJ6_numberOfTrailingZeros_0f7a4_33 (by decide) rfl ?_
      exact bJ6_numberOfTrailingZeros_0f7a4_34 hX hR ((((p0 ^^^ (-1)) &&& (p0 - 1) : Int32).toUInt32 >>> ((16 : Int32).toUInt32 &&& Int32.toUInt32 31)).toInt32) (1 + 16) h
  · have h := ie h c1
    refine w_iload_n 0 12 hX rfl rfl dJ6_numberOfTrailingZeros_0f7a4_12 ?_
    refine w_bipush 32 13 hX ib_32 dJ6_numberOfTrailingZeros_0f7a4_13 ?_
    refine w_iand 15 hX dJ6_numberOfTrailingZeros_0f7a4_15 ?_
    exact w_iret 16 hX hR dJ6_numberOfTrailingZeros_0f7a4_16 (by cases h; rfl))
