/-! the JDK's members over the text constants (text i < strN) -/
def chI (i k : Nat) : Int32 := ((((strByt.getD i []).getD k 0) &&& 255).toUInt32 % 65536).toInt32
def S_len (i : Nat) : Option Int32 := some (nI (strLen.getD i 0))
def S_chr (i : Nat) (k : Int32) : Option Int32 := if k < 0 ∨ strLen.getD i 0 ≤ k.toNatClampNeg then none else some (chI i k.toNatClampNeg)
theorem str_all : ∀ i, i < strN → (strLen.getD i 0 = (strByt.getD i []).length ∧ strLen.getD i 0 < 1000 ∧ ∀ b ∈ strByt.getD i [], (0 ≤ b ∧ b < 128)) := by decide +kernel
theorem ch_nar (x : Int32) : narrow .char (.int ((x &&& 255).toUInt32 % 65536).toInt32) = .int ((x &&& 255).toUInt32 % 65536).toInt32 := pk_nc _
theorem C_coder {G : Gt} (i : Nat) (hi : i < strN) (u : Mem) : CT G yJ0_coder_7d493 cJ0_coder_7d493 1 (some .byte) 1 [.ref (2000000 + i)] (SHg G) (RHg G) u (some (.int 0), (SHg G), (RHg G), u) :=
  ct_of (by decide) rfl (Nat.le_of_ble_eq_true rfl) (Nat.le_refl _) (Nat.le_refl _) (fun X hX hR => by
  refine w_gcs 0 hX flS_38 dJ0_coder_7d493_0 ?_
  refine w_if_eq (tgt := 13) 3 hX dJ0_coder_7d493_3 (by decide) (fun c => absurd c (by decide)) (fun c => ?_)
  refine w_aload_n 0 6 hX rfl rfl dJ0_coder_7d493_6 ?_
  refine w_scod 7 hX hi flS_15 dJ0_coder_7d493_7 ?_
  refine w_goto (tgt := 14) 10 hX (by decide) dJ0_coder_7d493_10 ?_
  exact w_nret 14 hX hR (by decide) dJ0_coder_7d493_14 rfl)
theorem C_isLatin1 {G : Gt} (i : Nat) (hi : i < strN) (u : Mem) : CT G yJ0_isLatin1_aae02 cJ0_isLatin1_aae02 1 (some .boolean) 1 [.ref (2000000 + i)] (SHg G) (RHg G) u (some (.int 1), (SHg G), (RHg G), u) :=
  ct_of (by decide) rfl (Nat.le_of_ble_eq_true rfl) (Nat.le_refl _) (Nat.le_refl _) (fun X hX hR => by
  refine w_gcs 0 hX flS_38 dJ0_isLatin1_aae02_0 ?_
  refine w_if_eq (tgt := 17) 3 hX dJ0_isLatin1_aae02_3 (by decide) (fun c => absurd c (by decide)) (fun c => ?_)
  refine w_aload_n 0 6 hX rfl rfl dJ0_isLatin1_aae02_6 ?_
  refine w_scod 7 hX hi flS_15 dJ0_isLatin1_aae02_7 ?_
  refine w_if_ne (tgt := 17) 10 hX dJ0_isLatin1_aae02_10 (by decide) (fun c => absurd rfl c) (fun c => ?_)
  refine w_iconst 1 13 hX ic_1 dJ0_isLatin1_aae02_13 ?_
  refine w_goto (tgt := 18) 14 hX (by decide) dJ0_isLatin1_aae02_14 ?_
  exact w_nret 18 hX hR (by decide) dJ0_isLatin1_aae02_18 rfl)
theorem shr0 (x : Int32) : x >>> ((0 : Int32) &&& 31) = x := by
  rw [show ((0 : Int32) &&& 31) = 0 by decide]
  exact Int32.shiftRight_zero
theorem C_len {G : Gt} (i : Nat) (hi : i < strN) (u : Mem) : CT G yJ0_length_8abf5 cJ0_length_8abf5 1 (some .int) 2 [.ref (2000000 + i)] (SHg G) (RHg G) u (some (.int (nI (strLen.getD i 0))), (SHg G), (RHg G), u) :=
  ct_of (by decide) rfl (Nat.le_of_ble_eq_true rfl) (Nat.le_refl _) (Nat.le_refl _) (fun X hX hR => by
  refine w_aload_n 0 0 hX rfl rfl dJ0_length_8abf5_0 ?_
  refine w_sval 1 hX hi flS_9 dJ0_length_8abf5_1 ?_
  refine w_alenB 4 hX hi dJ0_length_8abf5_4 ?_
  refine w_aload_n 0 5 hX rfl rfl dJ0_length_8abf5_5 ?_
  refine w_invVT (T2 := (some (.int 0), (SHg G), (RHg G), u)) (av := []) (st := [.int (nI (strLen.getD i 0))]) 6 hX hi rfl mv_yJ0_coder_7d493 mi_yJ0_coder_7d493 ml_J0_335 (C_coder i hi u) rfl (by decide) (Nat.le_of_ble_eq_true rfl) (Nat.le_refl _) (Nat.le_refl _) dJ0_length_8abf5_6 ?_
  refine w_ishr (x := nI (strLen.getD i 0)) (y := 0) (st := []) 9 hX dJ0_length_8abf5_9 ?_
  rw [shr0]
  exact w_iret 10 hX hR dJ0_length_8abf5_10 rfl)
/-- Preconditions.checkIndex, an index that is one -/
theorem C_pre {G : Gt} (w : Value) (hw : w.category = 1) (x y : Int32) (h0 : ¬ x < 0) (h1 : x < y) (u : Mem) : CT G yJ3_checkIndex_8e157 cJ3_checkIndex_8e157 3 (some .int) 1 [.int x, .int y, w] (SHg G) (RHg G) u (some (.int x), (SHg G), (RHg G), u) :=
  ct_of (by decide) (by show ((Value.int x).category == 1 && ((Value.int y).category == 1 && (w.category == 1 && true))) = true; rw [hw]; rfl) (Nat.le_of_ble_eq_true rfl) (Nat.le_refl _) (Nat.le_refl _) (fun X hX hR => by
  refine w_iload_n 0 0 hX rfl rfl dJ3_checkIndex_8e157_0 ?_
  refine w_if_lt (tgt := 9) 1 hX dJ3_checkIndex_8e157_1 (by decide) (fun c => absurd c h0) (fun c => ?_)
  refine w_iload_n 0 4 hX rfl rfl dJ3_checkIndex_8e157_4 ?_
  refine w_iload_n 1 5 hX rfl rfl dJ3_checkIndex_8e157_5 ?_
  refine w_icmp_lt (tgt := 16) 6 hX dJ3_checkIndex_8e157_6 (by decide) (fun c => ?_) (fun c => absurd h1 c)
  refine w_iload_n 0 16 hX rfl rfl dJ3_checkIndex_8e157_16 ?_
  exact w_iret 17 hX hR dJ3_checkIndex_8e157_17 rfl)
theorem C_chk {G : Gt} (x y : Int32) (h0 : ¬ x < 0) (h1 : x < y) (u : Mem) : CT G yJ0_checkIndex_df160 cJ0_checkIndex_df160 2 none 2 [.int x, .int y] (SHg G) (RHg G) u (none, (SHg G), (RHg G), u) :=
  ct_of (by decide) rfl (Nat.le_of_ble_eq_true rfl) (Nat.le_refl _) (Nat.le_refl _) (fun X hX hR => by
  refine w_iload_n 0 0 hX rfl rfl dJ0_checkIndex_df160_0 ?_
  refine w_iload_n 1 1 hX rfl rfl dJ0_checkIndex_df160_1 ?_
  refine w_gsi 2 hX flS_1053 dJ0_checkIndex_df160_2 (fun w hw => ?_)
  refine w_invSi (av := [.int x, .int y, w]) (st := []) 5 hX ms_yJ3_checkIndex_8e157 mi_yJ3_checkIndex_8e157 ml_J0_1059 (C_pre w hw x y h0 h1 u) rfl (by decide) (Nat.le_of_ble_eq_true rfl) (Nat.le_refl _) (Nat.le_refl _) dJ0_checkIndex_df160_5 ?_
  refine w_pop 8 hX rfl dJ0_checkIndex_df160_8 ?_
  exact w_vret 9 hX hR dJ0_checkIndex_df160_9 rfl)
theorem C_chr1 {G : Gt} (i k : Nat) (hi : i < strN) (hk : k < strLen.getD i 0) (u : Mem) : CT G yJ1_charAt_3b067 cJ1_charAt_3b067 2 (some .char) 3 [.ref (3000000 + i), .int (nI k)] (SHg G) (RHg G) u (some (.int (chI i k)), (SHg G), (RHg G), u) :=
  ct_of (by decide) rfl (Nat.le_of_ble_eq_true rfl) (Nat.le_refl _) (Nat.le_refl _) (fun X hX hR => by
  have hl := (str_all i hi).2.1
  have e1 : (nI k).toNatClampNeg = k := nI_clamp (by omega)
  refine w_iload_n 1 0 hX rfl rfl dJ1_charAt_3b067_0 ?_
  refine w_aload_n 0 1 hX rfl rfl dJ1_charAt_3b067_1 ?_
  refine w_alenB 2 hX hi dJ1_charAt_3b067_2 ?_
  refine w_invSv (av := [.int (nI k), .int (nI (strLen.getD i 0))]) (st := []) 3 hX ms_yJ0_checkIndex_df160 mi_yJ0_checkIndex_df160 ml_J1_9 (C_chk _ _ (nI_pos (by omega)) (nI_lt hk (by omega)) u) rfl (by decide) (Nat.le_of_ble_eq_true rfl) (Nat.le_refl _) (Nat.le_refl _) dJ1_charAt_3b067_3 ?_
  refine w_aload_n 0 6 hX rfl rfl dJ1_charAt_3b067_6 ?_
  refine w_iload_n 1 7 hX rfl rfl dJ1_charAt_3b067_7 ?_
  refine w_bald 8 hX hi (vp_in_nI hk (by omega)) dJ1_charAt_3b067_8 ?_
  rw [e1]
  refine w_sipush 255 9 hX (by decide) dJ1_charAt_3b067_9 ?_
  refine w_iand 12 hX dJ1_charAt_3b067_12 ?_
  refine w_i2c 13 hX dJ1_charAt_3b067_13 ?_
  exact w_nret 14 hX hR (ch_nar _) dJ1_charAt_3b067_14 rfl)
theorem C_chr {G : Gt} (i k : Nat) (hi : i < strN) (hk : k < strLen.getD i 0) (u : Mem) : CT G yJ0_charAt_5068e cJ0_charAt_5068e 2 (some .char) 4 [.ref (2000000 + i), .int (nI k)] (SHg G) (RHg G) u (some (.int (chI i k)), (SHg G), (RHg G), u) :=
  ct_of (by decide) rfl (Nat.le_of_ble_eq_true rfl) (Nat.le_refl _) (Nat.le_refl _) (fun X hX hR => by
  refine w_aload_n 0 0 hX rfl rfl dJ0_charAt_5068e_0 ?_
  refine w_invVT (T2 := (some (.int 1), (SHg G), (RHg G), u)) (av := []) (st := []) 1 hX hi rfl mv_yJ0_isLatin1_aae02 mi_yJ0_isLatin1_aae02 ml_J0_492 (C_isLatin1 i hi u) rfl (by decide) (Nat.le_of_ble_eq_true rfl) (Nat.le_refl _) (Nat.le_refl _) dJ0_charAt_5068e_1 ?_
  refine w_if_eq (tgt := 16) (x := 1) (st := []) 4 hX dJ0_charAt_5068e_4 (by decide) (fun c => absurd c (by decide)) (fun c => ?_)
  refine w_aload_n 0 7 hX rfl rfl dJ0_charAt_5068e_7 ?_
  refine w_sval 8 hX hi flS_9 dJ0_charAt_5068e_8 ?_
  refine w_iload_n 1 11 hX rfl rfl dJ0_charAt_5068e_11 ?_
  refine w_invSi (av := [.ref (3000000 + i), .int (nI k)]) (st := []) 12 hX ms_yJ1_charAt_3b067 mi_yJ1_charAt_3b067 ml_J0_495 (C_chr1 i k hi hk u) rfl (by decide) (Nat.le_of_ble_eq_true rfl) (Nat.le_refl _) (Nat.le_refl _) dJ0_charAt_5068e_12 ?_
  exact w_nret 15 hX hR (ch_nar _) dJ0_charAt_5068e_15 rfl)
/-- the first place of c in what is left -/
def ixF (c : Int32) : List Int32 → Nat → Int32
  | [], _ => -1
  | b :: l, k => if b = c then nI k else ixF c l (k + 1)
def S_idx (i : Nat) (c : Int32) : Option Int32 := some (if c < 0 ∨ 255 < c then -1 else ixF c.toInt8.toInt32 (strByt.getD i []) 0)
theorem C_can {G : Gt} (c : Int32) (u : Mem) : CT G yJ1_canEncode_9a6ad cJ1_canEncode_9a6ad 1 (some .boolean) 1 [.int c] (SHg G) (RHg G) u (some (.int (if c < 0 ∨ 255 < c then 0 else 1)), (SHg G), (RHg G), u) :=
  ct_of (by decide) rfl (Nat.le_of_ble_eq_true rfl) (Nat.le_refl _) (Nat.le_refl _) (fun X hX hR => by
  refine w_iload_n 0 0 hX rfl rfl dJ1_canEncode_9a6ad_0 ?_
  refine w_if_lt (tgt := 15) 1 hX dJ1_canEncode_9a6ad_1 (by decide) (fun c1 => ?_) (fun c1 => ?_)
  · refine w_iconst 0 15 hX ic_0 dJ1_canEncode_9a6ad_15 ?_
    exact w_nret 16 hX hR (by decide) dJ1_canEncode_9a6ad_16 (by rw [if_pos (Or.inl c1)])
  · refine w_iload_n 0 4 hX rfl rfl dJ1_canEncode_9a6ad_4 ?_
    refine w_sipush 255 5 hX (by decide) dJ1_canEncode_9a6ad_5 ?_
    refine w_icmp_gt (tgt := 15) 8 hX dJ1_canEncode_9a6ad_8 (by decide) (fun c2 => ?_) (fun c2 => ?_)
    · refine w_iconst 0 15 hX ic_0 dJ1_canEncode_9a6ad_15 ?_
      exact w_nret 16 hX hR (by decide) dJ1_canEncode_9a6ad_16 (by rw [if_pos (Or.inr c2)])
    · refine w_iconst 1 11 hX ic_1 dJ1_canEncode_9a6ad_11 ?_
      refine w_goto (tgt := 16) 12 hX (by decide) dJ1_canEncode_9a6ad_12 ?_
      exact w_nret 16 hX hR (by decide) dJ1_canEncode_9a6ad_16 (by rw [if_neg (by rintro (q | q); exact c1 q; exact c2 q)]))
theorem drop_get {l t : List Int32} {b : Int32} {k : Nat} (h : l.drop k = b :: t) : k < l.length ∧ l.getD k 0 = b ∧ l.drop (k + 1) = t := by
  have h1 : k < l.length := by
    rcases Nat.lt_or_ge k l.length with q | q
    · exact q
    · rw [List.drop_eq_nil_of_le q] at h; cases h
  rw [List.drop_eq_getElem_cons h1] at h
  injection h with h2 h3
  refine ⟨h1, ?_, h3⟩
  rw [List.getD_eq_getElem?_getD, List.getElem?_eq_getElem h1]
  exact h2
theorem L_ixc {G : Gt} {X : Xt} {i : Nat} {c v : Int32} {u : Mem} (hi : i < strN) (hX : CxOk G X cJ1_indexOfChar_4cfef 6 RJ1 (some (.int v), (SHg G), (RHg G), u) 1) (hR : CxRet G X (some .int) (some (.int v), (SHg G), (RHg G), u)) : ∀ (t : List Int32) (k : Nat), (strByt.getD i []).drop k = t → k ≤ strLen.getD i 0 → v = ixF c t k → WM G X 7 [(5, .int (nI k)), (4, .int c), (3, .int (nI (strLen.getD i 0))), (0, .ref (3000000 + i))] [] (SHg G) (RHg G) u := by
  obtain ⟨hl, hL, -⟩ := str_all i hi
  intro t
  induction t with
  | nil =>
    intro k ht hk hv
    have hge : strLen.getD i 0 ≤ k := by rw [hl]; exact List.drop_eq_nil_iff.mp ht
    refine w_iload 0 7 hX rfl dJ1_indexOfChar_4cfef_7 ?_
    refine w_iload_n 2 9 hX rfl rfl dJ1_indexOfChar_4cfef_9 ?_
    refine w_icmp_ge (tgt := 31) 10 hX dJ1_indexOfChar_4cfef_10 (by decide) (fun q => ?_) (fun q => absurd (nI_le hge (by omega)) q)
    refine w_iconst (-1) 31 hX ic_m1 dJ1_indexOfChar_4cfef_31 ?_
    exact w_iret 32 hX hR dJ1_indexOfChar_4cfef_32 (by rw [hv]; rfl)
  | cons b t ih =>
    intro k ht hk hv
    obtain ⟨g1, g2, g3⟩ := drop_get ht
    have hlt : k < strLen.getD i 0 := by rw [hl]; exact g1
    have e1 : (nI k).toNatClampNeg = k := nI_clamp (by omega)
    refine w_iload 0 7 hX rfl dJ1_indexOfChar_4cfef_7 ?_
    refine w_iload_n 2 9 hX rfl rfl dJ1_indexOfChar_4cfef_9 ?_
    refine w_icmp_ge (tgt := 31) 10 hX dJ1_indexOfChar_4cfef_10 (by decide) (fun q => absurd q (nI_ge hlt (by omega))) (fun q => ?_)
    refine w_aload_n 3 13 hX rfl rfl dJ1_indexOfChar_4cfef_13 ?_
    refine w_iload 0 14 hX rfl dJ1_indexOfChar_4cfef_14 ?_
    refine w_bald 16 hX hi (vp_in_nI hlt (by omega)) dJ1_indexOfChar_4cfef_16 ?_
    rw [e1, g2]
    refine w_iload 1 17 hX rfl dJ1_indexOfChar_4cfef_17 ?_
    have hs : ixF c (b :: t) k = if b = c then nI k else ixF c t (k + 1) := rfl
    rw [hs] at hv
    refine w_icmp_ne (tgt := 25) 19 hX dJ1_indexOfChar_4cfef_19 (by decide) (fun q => ?_) (fun q => ?_)
    · rw [if_neg q] at hv
      refine w_iinc (lv' := [(5, .int (nI (k + 1))), (4, .int c), (3, .int (nI (strLen.getD i 0))), (0, .ref (3000000 + i))]) 25 0 hX dJ1_indexOfChar_4cfef_25 rfl (by rw [show Int32.ofInt 1 = 1 by decide]; exact nI_1 k) (by decide) rfl ?_
      refine w_goto (tgt := 7) 28 hX (by decide) dJ1_indexOfChar_4cfef_28 ?_
      exact ih (k + 1) g3 hlt hv
    · rw [if_pos q] at hv
      refine w_iload 0 22 hX rfl dJ1_indexOfChar_4cfef_22 ?_
      exact w_iret 24 hX hR dJ1_indexOfChar_4cfef_24 (by rw [hv])
theorem C_ixc {G : Gt} (i : Nat) (hi : i < strN) (c : Int32) (u : Mem) : CT G yJ1_indexOfChar_4cfef cJ1_indexOfChar_4cfef 6 (some .int) 1 [.ref (3000000 + i), .int c, .int 0, .int (nI (strLen.getD i 0))] (SHg G) (RHg G) u (some (.int (ixF c.toInt8.toInt32 (strByt.getD i []) 0)), (SHg G), (RHg G), u) :=
  ct_of (by decide) rfl (Nat.le_of_ble_eq_true rfl) (Nat.le_refl _) (Nat.le_refl _) (fun X hX hR => by
  refine w_iload_n 1 0 hX rfl rfl dJ1_indexOfChar_4cfef_0 ?_
  refine w_i2b 1 hX dJ1_indexOfChar_4cfef_1 ?_
  refine w_istore (lv' := [(4, .int c.toInt8.toInt32), (0, .ref (3000000 + i)), (1, .int c), (2, .int 0), (3, .int (nI (strLen.getD i 0)))]) 2 hX dJ1_indexOfChar_4cfef_2 (by decide) rfl ?_
  refine w_iload_n 3 4 hX rfl rfl dJ1_indexOfChar_4cfef_4 ?_
  refine w_istore (lv' := [(5, .int 0), (4, .int c.toInt8.toInt32), (0, .ref (3000000 + i)), (1, .int c), (2, .int 0), (3, .int (nI (strLen.getD i 0)))]) 5 hX dJ1_indexOfChar_4cfef_5 (by decide) rfl ?_
  exact w_sub [0, 1, 5, 2] rfl (L_ixc hi hX hR (strByt.getD i []) 0 rfl (Nat.zero_le _) rfl))
theorem C_ix1 {G : Gt} (i : Nat) (hi : i < strN) (h0 : 0 < strLen.getD i 0) (c : Int32) (u : Mem) : CT G yJ1_indexOf_4cfef cJ1_indexOf_4cfef 4 (some .int) 2 [.ref (3000000 + i), .int c, .int 0, .int (nI (strLen.getD i 0))] (SHg G) (RHg G) u (some (.int (if c < 0 ∨ 255 < c then -1 else ixF c.toInt8.toInt32 (strByt.getD i []) 0)), (SHg G), (RHg G), u) :=
  ct_of (by decide) rfl (Nat.le_of_ble_eq_true rfl) (Nat.le_refl _) (Nat.le_refl _) (fun X hX hR => by
  have hL := (str_all i hi).2.1
  refine w_iload_n 1 0 hX rfl rfl dJ1_indexOf_4cfef_0 ?_
  refine w_invSi (av := [.int c]) (st := []) 1 hX ms_yJ1_canEncode_9a6ad mi_yJ1_canEncode_9a6ad ml_J1_88 (C_can c u) rfl (by decide) (Nat.le_of_ble_eq_true rfl) (Nat.le_refl _) (Nat.le_refl _) dJ1_indexOf_4cfef_1 ?_
  by_cases hc : c < 0 ∨ 255 < c
  · rw [if_pos hc]
    rw [if_pos hc] at hX hR
    refine w_if_ne (tgt := 9) 4 hX dJ1_indexOf_4cfef_4 (by decide) (fun q => absurd rfl q) (fun q => ?_)
    refine w_iconst (-1) 7 hX ic_m1 dJ1_indexOf_4cfef_7 ?_
    exact w_iret 8 hX hR dJ1_indexOf_4cfef_8 rfl
  · rw [if_neg hc]
    rw [if_neg hc] at hX hR
    refine w_if_ne (tgt := 9) 4 hX dJ1_indexOf_4cfef_4 (by decide) (fun q => ?_) (fun q => absurd q (by decide))
    refine w_iload_n 2 9 hX rfl rfl dJ1_indexOf_4cfef_9 ?_
    refine w_iconst 0 10 hX ic_0 dJ1_indexOf_4cfef_10 ?_
    refine w_max 11 hX ml_J1_92 jm_max_s jm_i jm_max_c (by decide) (Nat.le_of_ble_eq_true rfl) (Nat.le_refl _) (Nat.le_refl _) dJ1_indexOf_4cfef_11 ?_
    rw [show (if (0 : Int32) < 0 then (0 : Int32) else 0) = 0 by decide]
    refine w_istore_n (lv' := [(2, .int 0), (0, .ref (3000000 + i)), (1, .int c), (3, .int (nI (strLen.getD i 0)))]) 14 hX rfl dJ1_indexOf_4cfef_14 (by decide) rfl ?_
    refine w_iload_n 3 15 hX rfl rfl dJ1_indexOf_4cfef_15 ?_
    refine w_aload_n 1 16 hX rfl rfl dJ1_indexOf_4cfef_16 ?_
    refine w_alenB 17 hX hi dJ1_indexOf_4cfef_17 ?_
    refine w_min 18 hX ml_J1_38 jm_min_s jm_i jm_min_c (by decide) (Nat.le_of_ble_eq_true rfl) (Nat.le_refl _) (Nat.le_refl _) dJ1_indexOf_4cfef_18 ?_
    rw [ite_self]
    refine w_istore_n (lv' := [(3, .int (nI (strLen.getD i 0))), (2, .int 0), (0, .ref (3000000 + i)), (1, .int c)]) 21 hX rfl dJ1_indexOf_4cfef_21 (by decide) rfl ?_
    refine w_iload_n 1 22 hX rfl rfl dJ1_indexOf_4cfef_22 ?_
    refine w_iload_n 0 23 hX rfl rfl dJ1_indexOf_4cfef_23 ?_
    refine w_icmp_lt (tgt := 29) 24 hX dJ1_indexOf_4cfef_24 (by decide) (fun q => ?_) (fun q => absurd (nI_lt (a := 0) h0 (by omega)) q)
    refine w_aload_n 2 29 hX rfl rfl dJ1_indexOf_4cfef_29 ?_
    refine w_iload_n 3 30 hX rfl rfl dJ1_indexOf_4cfef_30 ?_
    refine w_iload_n 1 31 hX rfl rfl dJ1_indexOf_4cfef_31 ?_
    refine w_iload_n 0 32 hX rfl rfl dJ1_indexOf_4cfef_32 ?_
    refine w_invSi (av := [.ref (3000000 + i), .int c, .int 0, .int (nI (strLen.getD i 0))]) (st := []) 33 hX ms_yJ1_indexOfChar_4cfef mi_yJ1_indexOfChar_4cfef ml_J1_95 (C_ixc i hi c u) rfl (by decide) (Nat.le_of_ble_eq_true rfl) (Nat.le_refl _) (Nat.le_refl _) dJ1_indexOf_4cfef_33 ?_
    exact w_iret 36 hX hR dJ1_indexOf_4cfef_36 rfl)
theorem C_ix2 {G : Gt} (i : Nat) (hi : i < strN) (h0 : 0 < strLen.getD i 0) (c : Int32) (u : Mem) : CT G yJ0_indexOf_7cf53 cJ0_indexOf_7cf53 3 (some .int) 3 [.ref (2000000 + i), .int c, .int 0] (SHg G) (RHg G) u (some (.int (if c < 0 ∨ 255 < c then -1 else ixF c.toInt8.toInt32 (strByt.getD i []) 0)), (SHg G), (RHg G), u) :=
  ct_of (by decide) rfl (Nat.le_of_ble_eq_true rfl) (Nat.le_refl _) (Nat.le_refl _) (fun X hX hR => by
  refine w_aload_n 0 0 hX rfl rfl dJ0_indexOf_7cf53_0 ?_
  refine w_invVT (T2 := (some (.int 1), (SHg G), (RHg G), u)) (av := []) (st := []) 1 hX hi rfl mv_yJ0_isLatin1_aae02 mi_yJ0_isLatin1_aae02 ml_J0_492 (C_isLatin1 i hi u) rfl (by decide) (Nat.le_of_ble_eq_true rfl) (Nat.le_refl _) (Nat.le_refl _) dJ0_indexOf_7cf53_1 ?_
  refine w_if_eq (tgt := 23) (x := 1) (st := []) 4 hX dJ0_indexOf_7cf53_4 (by decide) (fun c => absurd c (by decide)) (fun c => ?_)
  refine w_aload_n 0 7 hX rfl rfl dJ0_indexOf_7cf53_7 ?_
  refine w_sval 8 hX hi flS_9 dJ0_indexOf_7cf53_8 ?_
  refine w_iload_n 1 11 hX rfl rfl dJ0_indexOf_7cf53_11 ?_
  refine w_iload_n 2 12 hX rfl rfl dJ0_indexOf_7cf53_12 ?_
  refine w_aload_n 0 13 hX rfl rfl dJ0_indexOf_7cf53_13 ?_
  refine w_invVT (T2 := (some (.int (nI (strLen.getD i 0))), (SHg G), (RHg G), u)) (av := []) (st := [.int 0, .int _, .ref (3000000 + i)]) 14 hX hi rfl mv_yJ0_length_8abf5 mi_yJ0_length_8abf5 ml_J0_505 (C_len i hi u) rfl (by decide) (Nat.le_of_ble_eq_true rfl) (Nat.le_refl _) (Nat.le_refl _) dJ0_indexOf_7cf53_14 ?_
  refine w_invSi (av := [.ref (3000000 + i), .int _, .int 0, .int (nI (strLen.getD i 0))]) (st := []) 17 hX ms_yJ1_indexOf_4cfef mi_yJ1_indexOf_4cfef ml_J0_637 (C_ix1 i hi h0 _ u) rfl (by decide) (Nat.le_of_ble_eq_true rfl) (Nat.le_refl _) (Nat.le_refl _) dJ0_indexOf_7cf53_17 ?_
  refine w_goto (tgt := 36) 20 hX (by decide) dJ0_indexOf_7cf53_20 ?_
  exact w_iret 36 hX hR dJ0_indexOf_7cf53_36 rfl)
theorem C_idx {G : Gt} (i : Nat) (hi : i < strN) (h0 : 0 < strLen.getD i 0) (c : Int32) (u : Mem) : CT G yJ0_indexOf_0f7a4 cJ0_indexOf_0f7a4 2 (some .int) 4 [.ref (2000000 + i), .int c] (SHg G) (RHg G) u (some (.int (if c < 0 ∨ 255 < c then -1 else ixF c.toInt8.toInt32 (strByt.getD i []) 0)), (SHg G), (RHg G), u) :=
  ct_of (by decide) rfl (Nat.le_of_ble_eq_true rfl) (Nat.le_refl _) (Nat.le_refl _) (fun X hX hR => by
  refine w_aload_n 0 0 hX rfl rfl dJ0_indexOf_0f7a4_0 ?_
  refine w_iload_n 1 1 hX rfl rfl dJ0_indexOf_0f7a4_1 ?_
  refine w_iconst 0 2 hX ic_0 dJ0_indexOf_0f7a4_2 ?_
  refine w_invVT (T2 := (some (.int (if c < 0 ∨ 255 < c then -1 else ixF c.toInt8.toInt32 (strByt.getD i []) 0)), (SHg G), (RHg G), u)) (av := [.int c, .int 0]) (st := []) 3 hX hi rfl mv_yJ0_indexOf_7cf53 mi_yJ0_indexOf_7cf53 ml_J0_633 (C_ix2 i hi h0 c u) rfl (by decide) (Nat.le_of_ble_eq_true rfl) (Nat.le_refl _) (Nat.le_refl _) dJ0_indexOf_0f7a4_3 ?_
  exact w_iret 6 hX hR dJ0_indexOf_0f7a4_6 rfl)
section StrRows
variable {G : Gt} {X : Xt} {b : ByteArray} {nL : Nat} {C : String} {d : Nat} {lv : List (Nat × Value)} {st : List Value} {u : Mem} {v : Option Value} {u' : Mem}
theorem w_S_len {ix i : Nat} {x : Int32} (pc : Nat) (hX : CxOk G X b nL C (v, (SHg G), (RHg G), u') d) (hl : Cond.methodLink C ix yJ0_length_8abf5 ∈ TW) (g : S_len i = some x) (hi : i < strN) (hd1 : 7 ≤ d) (hcat : (st.map fun v => v.category).sum ≤ 8) (hd : decode b pc = .ok (.invokevirtual ix, 3)) (k : WM G X (pc + 3) lv (.int x :: st) (SHg G) (RHg G) u) : WM G X pc lv (.ref (2000000 + i) :: st) (SHg G) (RHg G) u := by
  cases g
  exact w_invVT (T2 := (some (.int (nI (strLen.getD i 0))), (SHg G), (RHg G), u)) (av := []) pc hX hi rfl mv_yJ0_length_8abf5 mi_yJ0_length_8abf5 hl (C_len i hi u) rfl (by omega) hcat (Nat.le_refl _) (Nat.le_refl _) hd k
theorem w_S_chr {ix i : Nat} {k0 x : Int32} (pc : Nat) (hX : CxOk G X b nL C (v, (SHg G), (RHg G), u') d) (hl : Cond.methodLink C ix yJ0_charAt_5068e ∈ TW) (g : S_chr i k0 = some x) (hi : i < strN) (hd1 : 7 ≤ d) (hcat : (st.map fun v => v.category).sum ≤ 8) (hd : decode b pc = .ok (.invokevirtual ix, 3)) (k : WM G X (pc + 3) lv (.int x :: st) (SHg G) (RHg G) u) : WM G X pc lv (.int k0 :: .ref (2000000 + i) :: st) (SHg G) (RHg G) u := by
  unfold S_chr at g
  by_cases hk : k0 < 0 ∨ strLen.getD i 0 ≤ k0.toNatClampNeg
  · rw [if_pos hk] at g; cases g
  · rw [if_neg hk] at g
    have hL := (str_all i hi).2.1
    obtain ⟨j, hj, rfl⟩ := vp_in_of (x := k0) (n := strLen.getD i 0) hk (by omega)
    rw [nI_clamp (by omega)] at g
    cases g
    exact w_invVT (T2 := (some (.int (chI i j)), (SHg G), (RHg G), u)) (av := [.int (nI j)]) pc hX hi rfl mv_yJ0_charAt_5068e mi_yJ0_charAt_5068e hl (C_chr i j hi hj u) rfl (by omega) hcat (Nat.le_refl _) (Nat.le_refl _) hd k
theorem w_S_idx {ix i : Nat} {c x : Int32} (pc : Nat) (hX : CxOk G X b nL C (v, (SHg G), (RHg G), u') d) (hl : Cond.methodLink C ix yJ0_indexOf_0f7a4 ∈ TW) (g : S_idx i c = some x) (hi : i < strN) (h0 : 0 < strLen.getD i 0) (hd1 : 7 ≤ d) (hcat : (st.map fun v => v.category).sum ≤ 8) (hd : decode b pc = .ok (.invokevirtual ix, 3)) (k : WM G X (pc + 3) lv (.int x :: st) (SHg G) (RHg G) u) : WM G X pc lv (.int c :: .ref (2000000 + i) :: st) (SHg G) (RHg G) u := by
  cases g
  exact w_invVT (T2 := (some (.int (if c < 0 ∨ 255 < c then -1 else ixF c.toInt8.toInt32 (strByt.getD i []) 0)), (SHg G), (RHg G), u)) (av := [.int c]) pc hX hi rfl mv_yJ0_indexOf_0f7a4 mi_yJ0_indexOf_0f7a4 hl (C_idx i hi h0 c u) rfl (by omega) hcat (Nat.le_refl _) (Nat.le_refl _) hd k
end StrRows
