theorem oks_0 {w : Wd} (h : OKs w) : w.1[0]? = some (.inr (.inl 11)) := by
  have h1 : (w.1.take 146)[0]? = some (.inr (.inl 11)) := by rw [h.1]; exact s0_0
  rwa [List.getElem?_take, if_pos (by decide)] at h1
theorem dopt_n {α β : Type} {a : Dm β} {b : α → Dm β} {w : Wd} {z : Option (β × Wd)} (h : (dopt none a b).1 w = z) : a.1 w = z := h
theorem dopt_s {α β : Type} {x : α} {a : Dm β} {b : α → Dm β} {w : Wd} {z : Option (β × Wd)} (h : (dopt (some x) a b).1 w = z) : (b x).1 w = z := h
def cchk (x : Int32) : Option Int32 := if (x.toUInt32 % 65536).toInt32 = x then some x else none
def ychk (x : Int32) : Option Int32 := if x.toInt8.toInt32 = x then some x else none
theorem cchk_ok {x z : Int32} (h : cchk x = some z) : x = z ∧ narrow .char (.int z) = .int z := by
  unfold cchk at h
  by_cases q : (x.toUInt32 % 65536).toInt32 = x
  · rw [if_pos q] at h
    cases h
    exact ⟨rfl, congrArg Value.int q⟩
  · rw [if_neg q] at h; cases h
theorem ychk_ok {x z : Int32} (h : ychk x = some z) : x = z ∧ narrow .byte (.int z) = .int z := by
  unfold ychk at h
  by_cases q : x.toInt8.toInt32 = x
  · rw [if_pos q] at h
    cases h
    exact ⟨rfl, congrArg Value.int q⟩
  · rw [if_neg q] at h; cases h
def rdS (sl : Nat) (sv : Nat → Int32) (i : Int32) : Option Int32 := if i < 0 ∨ sl ≤ i.toNatClampNeg then none else some (sv i.toNatClampNeg)
theorem w_sldx {G : Gt} {X : Xt} {b : ByteArray} {nL : Nat} {C : String} {T : Tt} {d : Nat} {lv : List (Nat × Value)} {st : List Value} {sh : List Shp} {r : Rf} {u : Mem} {j x : Int32} (pc : Nat) (hX : CxOk G X b nL C T d) (g : rdS (gS G).2.1 (gS G).2.2 j = some x) (hd : decode b pc = .ok (.iaload, 1)) (k : WM G X (pc + 1) lv (.int x :: st) sh r u) : WM G X pc lv (.int j :: .ref 1999999 :: st) sh r u := by
  unfold rdS at g
  by_cases c : j < 0 ∨ (gS G).2.1 ≤ j.toNatClampNeg
  · rw [if_pos c] at g
    cases g
  · rw [if_neg c] at g
    refine w_sld pc hX c hd ?_
    rw [Option.some.inj g]
    exact k
theorem aw_byte : Cond.arrayClass .byte ∈ TW := tw_of 963 (by decide +kernel) rfl
theorem clw_3 : Cond.instanceMethod ⟨"java/lang/Object", "clone", "()Ljava/lang/Object;"⟩ ∈ TW := tw_of 848 (by decide +kernel) rfl
theorem clw_2 : Cond.native ⟨"java/lang/Object", "clone", "()Ljava/lang/Object;"⟩ ∈ TW := tw_of 847 (by decide +kernel) rfl
theorem clwI_1 : Cond.sameMethod "[I" "java/lang/Object" "clone" "()Ljava/lang/Object;" ∈ TW := tw_of 846 (by decide +kernel) rfl
theorem clwI_4 : Cond.selects "[I" ⟨"[I", "clone", "()Ljava/lang/Object;"⟩ ⟨"java/lang/Object", "clone", "()Ljava/lang/Object;"⟩ ∈ TW := tw_of 849 (by decide +kernel) rfl
theorem clwI_5 : Cond.castable "[I" "java/lang/Cloneable" ∈ NW := nw_of 850 (by decide +kernel) rfl
theorem clwB_1 : Cond.sameMethod "[B" "java/lang/Object" "clone" "()Ljava/lang/Object;" ∈ TW := tw_of 995 (by decide +kernel) rfl
theorem clwB_4 : Cond.selects "[B" ⟨"[B", "clone", "()Ljava/lang/Object;"⟩ ⟨"java/lang/Object", "clone", "()Ljava/lang/Object;"⟩ ∈ TW := tw_of 996 (by decide +kernel) rfl
theorem clwB_5 : Cond.castable "[B" "java/lang/Cloneable" ∈ NW := nw_of 997 (by decide +kernel) rfl
theorem clkI_X12_65 : Cond.methodLink RX12 65 ⟨"[I", "clone", "()Ljava/lang/Object;"⟩ ∈ TW := tw_of 845 (by decide +kernel) rfl
theorem clkB_J7_310 : Cond.methodLink RJ7 310 ⟨"[B", "clone", "()Ljava/lang/Object;"⟩ ∈ TW := tw_of 994 (by decide +kernel) rfl
theorem wu_yJ5_append_c97b9_1 : Cond.sameMethod yJ5_append_c97b9.cls yJ5_append_c97b9.cls yJ5_append_c97b9.name yJ5_append_c97b9.desc ∈ TW := tw_of 1437 (by decide +kernel) rfl
theorem wu_yJ5_append_cf1ce_1 : Cond.sameMethod yJ5_append_cf1ce.cls yJ5_append_cf1ce.cls yJ5_append_cf1ce.name yJ5_append_cf1ce.desc ∈ TW := tw_of 1440 (by decide +kernel) rfl
theorem wu_yJ5_appendNull_278bc_1 : Cond.sameMethod yJ5_appendNull_278bc.cls yJ5_appendNull_278bc.cls yJ5_appendNull_278bc.name yJ5_appendNull_278bc.desc ∈ TW := tw_of 1441 (by decide +kernel) rfl
theorem wu_yJ5_appendNull_278bc_2 (args : Array Value) (s : State) (h : ∀ w ∈ TW, w.before args s = true) (hN : ∀ w ∈ NW, va_Nw w s) : (Cond.selects RJ4 yJ5_appendNull_278bc yJ5_appendNull_278bc).before args s = true := sel_priv (z := yJ5_isLatin1_aae02) (n := 4) ⟨by decide, by decide⟩ rfl (h _ (tw_of 933 (by decide +kernel) rfl)) (va_Nw.use rfl (hN _ (nw_of 1053 (by decide +kernel) rfl))) (h _ mo_yJ5_appendNull_278bc) (h _ mo_yJ5_isLatin1_aae02) (h _ (tw_of 1004 (by decide +kernel) rfl))
theorem wu_yJ5_ensureCapacityInternal_d00df_1 : Cond.sameMethod yJ5_ensureCapacityInternal_d00df.cls yJ5_ensureCapacityInternal_d00df.cls yJ5_ensureCapacityInternal_d00df.name yJ5_ensureCapacityInternal_d00df.desc ∈ TW := tw_of 1438 (by decide +kernel) rfl
theorem wu_yJ5_ensureCapacityInternal_d00df_2 (args : Array Value) (s : State) (h : ∀ w ∈ TW, w.before args s = true) (hN : ∀ w ∈ NW, va_Nw w s) : (Cond.selects RJ4 yJ5_ensureCapacityInternal_d00df yJ5_ensureCapacityInternal_d00df).before args s = true := sel_priv (z := yJ5_isLatin1_aae02) (n := 4) ⟨by decide, by decide⟩ rfl (h _ (tw_of 933 (by decide +kernel) rfl)) (va_Nw.use rfl (hN _ (nw_of 975 (by decide +kernel) rfl))) (h _ mo_yJ5_ensureCapacityInternal_d00df) (h _ mo_yJ5_isLatin1_aae02) (h _ (tw_of 1004 (by decide +kernel) rfl))
theorem wu_yJ5_getValue_6d5f1_1 : Cond.sameMethod yJ5_getValue_6d5f1.cls yJ5_getValue_6d5f1.cls yJ5_getValue_6d5f1.name yJ5_getValue_6d5f1.desc ∈ TW := tw_of 1118 (by decide +kernel) rfl
theorem wu_yJ5_getValue_6d5f1_2 (args : Array Value) (s : State) (h : ∀ w ∈ TW, w.before args s = true) (hN : ∀ w ∈ NW, va_Nw w s) : (Cond.selects RJ4 yJ5_getValue_6d5f1 yJ5_getValue_6d5f1).before args s = true := h _ (tw_of 1119 (by decide +kernel) rfl)
theorem wu_yJ5_inflate_da8c8_1 : Cond.sameMethod yJ5_inflate_da8c8.cls yJ5_inflate_da8c8.cls yJ5_inflate_da8c8.name yJ5_inflate_da8c8.desc ∈ TW := tw_of 1444 (by decide +kernel) rfl
theorem wu_yJ5_inflate_da8c8_2 (args : Array Value) (s : State) (h : ∀ w ∈ TW, w.before args s = true) (hN : ∀ w ∈ NW, va_Nw w s) : (Cond.selects RJ4 yJ5_inflate_da8c8 yJ5_inflate_da8c8).before args s = true := sel_priv (z := yJ5_isLatin1_aae02) (n := 4) ⟨by decide, by decide⟩ rfl (h _ (tw_of 933 (by decide +kernel) rfl)) (va_Nw.use rfl (hN _ (nw_of 1078 (by decide +kernel) rfl))) (h _ mo_yJ5_inflate_da8c8) (h _ mo_yJ5_isLatin1_aae02) (h _ (tw_of 1004 (by decide +kernel) rfl))
theorem wu_yJ5_inflateIfNeededFor_a7421_1 : Cond.sameMethod yJ5_inflateIfNeededFor_a7421.cls yJ5_inflateIfNeededFor_a7421.cls yJ5_inflateIfNeededFor_a7421.name yJ5_inflateIfNeededFor_a7421.desc ∈ TW := tw_of 1443 (by decide +kernel) rfl
theorem wu_yJ5_inflateIfNeededFor_a7421_2 (args : Array Value) (s : State) (h : ∀ w ∈ TW, w.before args s = true) (hN : ∀ w ∈ NW, va_Nw w s) : (Cond.selects RJ4 yJ5_inflateIfNeededFor_a7421 yJ5_inflateIfNeededFor_a7421).before args s = true := sel_priv (z := yJ5_isLatin1_aae02) (n := 4) ⟨by decide, by decide⟩ rfl (h _ (tw_of 933 (by decide +kernel) rfl)) (va_Nw.use rfl (hN _ (nw_of 1073 (by decide +kernel) rfl))) (h _ mo_yJ5_inflateIfNeededFor_a7421) (h _ mo_yJ5_isLatin1_aae02) (h _ (tw_of 1004 (by decide +kernel) rfl))
theorem wu_yJ5_isLatin1_aae02_1 : Cond.sameMethod yJ5_isLatin1_aae02.cls yJ5_isLatin1_aae02.cls yJ5_isLatin1_aae02.name yJ5_isLatin1_aae02.desc ∈ TW := tw_of 1003 (by decide +kernel) rfl
theorem wu_yJ5_isLatin1_aae02_2 (args : Array Value) (s : State) (h : ∀ w ∈ TW, w.before args s = true) (hN : ∀ w ∈ NW, va_Nw w s) : (Cond.selects RJ4 yJ5_isLatin1_aae02 yJ5_isLatin1_aae02).before args s = true := h _ (tw_of 1004 (by decide +kernel) rfl)
theorem wu_yJ5_length_8abf5_1 : Cond.sameMethod yJ5_length_8abf5.cls yJ5_length_8abf5.cls yJ5_length_8abf5.name yJ5_length_8abf5.desc ∈ TW := tw_of 1123 (by decide +kernel) rfl
theorem wu_yJ5_newCapacity_0f7a4_1 : Cond.sameMethod yJ5_newCapacity_0f7a4.cls yJ5_newCapacity_0f7a4.cls yJ5_newCapacity_0f7a4.name yJ5_newCapacity_0f7a4.desc ∈ TW := tw_of 1439 (by decide +kernel) rfl
theorem wu_yJ5_newCapacity_0f7a4_2 (args : Array Value) (s : State) (h : ∀ w ∈ TW, w.before args s = true) (hN : ∀ w ∈ NW, va_Nw w s) : (Cond.selects RJ4 yJ5_newCapacity_0f7a4 yJ5_newCapacity_0f7a4).before args s = true := sel_priv (z := yJ5_isLatin1_aae02) (n := 4) ⟨by decide, by decide⟩ rfl (h _ (tw_of 933 (by decide +kernel) rfl)) (va_Nw.use rfl (hN _ (nw_of 979 (by decide +kernel) rfl))) (h _ mo_yJ5_newCapacity_0f7a4) (h _ mo_yJ5_isLatin1_aae02) (h _ (tw_of 1004 (by decide +kernel) rfl))
theorem wu_yJ5_putStringAt_47b60_1 : Cond.sameMethod yJ5_putStringAt_47b60.cls yJ5_putStringAt_47b60.cls yJ5_putStringAt_47b60.name yJ5_putStringAt_47b60.desc ∈ TW := tw_of 1442 (by decide +kernel) rfl
theorem wu_yJ5_putStringAt_47b60_2 (args : Array Value) (s : State) (h : ∀ w ∈ TW, w.before args s = true) (hN : ∀ w ∈ NW, va_Nw w s) : (Cond.selects RJ4 yJ5_putStringAt_47b60 yJ5_putStringAt_47b60).before args s = true := sel_priv (z := yJ5_isLatin1_aae02) (n := 4) ⟨by decide, by decide⟩ rfl (h _ (tw_of 933 (by decide +kernel) rfl)) (va_Nw.use rfl (hN _ (nw_of 1069 (by decide +kernel) rfl))) (h _ mo_yJ5_putStringAt_47b60) (h _ mo_yJ5_isLatin1_aae02) (h _ (tw_of 1004 (by decide +kernel) rfl))
theorem wu_yJ5_length_8abf5_2 (args : Array Value) (s : State) (h : ∀ w ∈ TW, w.before args s = true) (hN : ∀ w ∈ NW, va_Nw w s) : (Cond.selects RJ4 yJ5_length_8abf5 yJ4_length_8abf5).before args s = true := h _ (tw_of 1124 (by decide +kernel) rfl)
theorem wu_sup : Cond.superclass RJ4 RJ5 ∈ TW := tw_of 962 (by decide +kernel) rfl
theorem insW_12 : Cond.instantiable RX12 20 ∈ TW := tw_of 761 (by decide +kernel) rfl
theorem izW_12 : Cond.initialized RX12 ∈ TW := tw_of 54 (by decide +kernel) rfl
theorem dvW_12 {G : Gt} : ∀ j, j < 20 → defaultValue (tyX12 j) = vp_V (flds G 12 (fun _ => none) (fun _ => 0)) j := fun j hj => by
  rw [dvG (show j < (fkind 12).length from hj)]
  have h : j = 0 ∨ j = 1 ∨ j = 2 ∨ j = 3 ∨ j = 4 ∨ j = 5 ∨ j = 6 ∨ j = 7 ∨ j = 8 ∨ j = 9 ∨ j = 10 ∨ j = 11 ∨ j = 12 ∨ j = 13 ∨ j = 14 ∨ j = 15 ∨ j = 16 ∨ j = 17 ∨ j = 18 ∨ j = 19 := by omega
  rcases h with rfl | rfl | rfl | rfl | rfl | rfl | rfl | rfl | rfl | rfl | rfl | rfl | rfl | rfl | rfl | rfl | rfl | rfl | rfl | rfl <;> rfl
theorem insW_13 : Cond.instantiable RJ0 4 ∈ TW := tw_of 1108 (by decide +kernel) rfl
theorem izW_13 : Cond.initialized RJ0 ∈ TW := tw_of 57 (by decide +kernel) rfl
theorem dvW_13 {G : Gt} : ∀ j, j < 4 → defaultValue (tyJ0 j) = vp_V (flds G 13 (fun _ => none) (fun _ => 0)) j := fun j hj => by
  rw [dvG (show j < (fkind 13).length from hj)]
  have h : j = 0 ∨ j = 1 ∨ j = 2 ∨ j = 3 := by omega
  rcases h with rfl | rfl | rfl | rfl <;> rfl
theorem insW_14 : Cond.instantiable RJ4 4 ∈ TW := tw_of 933 (by decide +kernel) rfl
theorem izW_14 : Cond.initialized RJ4 ∈ TW := tw_of 56 (by decide +kernel) rfl
theorem dvW_14 {G : Gt} : ∀ j, j < 4 → defaultValue (tyJ4 j) = vp_V (flds G 14 (fun _ => none) (fun _ => 0)) j := fun j hj => by
  rw [dvG (show j < (fkind 14).length from hj)]
  have h : j = 0 ∨ j = 1 ∨ j = 2 ∨ j = 3 := by omega
  rcases h with rfl | rfl | rfl | rfl <;> rfl
theorem ib_m100 : (Int8.ofInt (-100)).toInt32 = (-100) := by decide
theorem ib_11 : (Int8.ofInt 11).toInt32 = 11 := by decide
theorem ib_14 : (Int8.ofInt 14).toInt32 = 14 := by decide
theorem ib_80 : (Int8.ofInt 80).toInt32 = 80 := by decide
theorem ib_100 : (Int8.ofInt 100).toInt32 = 100 := by decide
theorem ib_101 : (Int8.ofInt 101).toInt32 = 101 := by decide
theorem ib_121 : (Int8.ofInt 121).toInt32 = 121 := by decide
theorem isp_157 : (Int16.ofInt 157).toInt32 = 157 := by decide
theorem isp_239 : (Int16.ofInt 239).toInt32 = 239 := by decide
theorem isp_241 : (Int16.ofInt 241).toInt32 = 241 := by decide
theorem isp_251 : (Int16.ofInt 251).toInt32 = 251 := by decide
theorem isp_300 : (Int16.ofInt 300).toInt32 = 300 := by decide
theorem isp_593 : (Int16.ofInt 593).toInt32 = 593 := by decide
theorem isp_599 : (Int16.ofInt 599).toInt32 = 599 := by decide
theorem inc_m1 (x : Int32) : x + Int32.ofInt (-1) = x + (-1) := by rw [show Int32.ofInt (-1) = (-1) by decide]
theorem inc_2 (x : Int32) : x + Int32.ofInt 2 = x + 2 := by rw [show Int32.ofInt 2 = 2 by decide]
theorem inc_4 (x : Int32) : x + Int32.ofInt 4 = x + 4 := by rw [show Int32.ofInt 4 = 4 by decide]
theorem inc_8 (x : Int32) : x + Int32.ofInt 8 = x + 8 := by rw [show Int32.ofInt 8 = 8 by decide]
theorem inc_16 (x : Int32) : x + Int32.ofInt 16 = x + 16 := by rw [show Int32.ofInt 16 = 16 by decide]
theorem inc_20 (x : Int32) : x + Int32.ofInt 20 = x + 20 := by rw [show Int32.ofInt 20 = 20 by decide]
