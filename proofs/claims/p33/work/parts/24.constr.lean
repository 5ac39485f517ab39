/-! the constructors -/
theorem ct_ofN {G : Gt} {y : MethodName} {b : ByteArray} {nL : Nat} {ret : Option FieldType} {d : Nat} {av : List Value} {sh : List Shp} {r : Rf} {u : Mem} {T : Tt} (hy : plainName y.cls = true) (hc : cat1 av = true) (hn : av.length ≤ nL) (hm1 : sh.length ≤ T.2.1.length) (hm2 : ssum sh ≤ ssum T.2.1)
    (body : ∀ X : Xt, CxOk G X b nL y.cls T d → CxNm X y.name → CxRet G X ret T → WM G X 0 (largs 0 av) [] sh r u) : CT G y b nL ret d av sh r u T := by
  refine ⟨hm1, hm2, ?_⟩
  refine Met.ofW (cc := b) (maxL := nL) (ret := ret) hy rfl ?_
  intro p e s m args below meth c s₁ B hml hv
  obtain ⟨rfl, hR, hW⟩ := hv
  have hts := atoms_spec (ws := .code y b nL ret :: TW) B.pre
  have hown : s.vm.findClass y.cls = some m.cls := findClass_of_methodNamed B.named
  have hlocks := B.notSynchronized
  have hlen := lg_sl_len G hc
  have hl := lv_entry (sts G av) (n := nL) (by rw [hlen]; exact hn)
  rw [lg_entry_eq]
  rw [lv_args_sts G hc] at hl
  exact body (p, e, _, s, m, _, below, meth, c, _, nL, sh.length, ssum sh) ⟨B.exec, B.bytes, hml, hown, fun w hw => hts w (List.mem_cons_of_mem _ hw), hW, rfl, Nat.le_refl _, Nat.le_refl _, (by show T.2.1.length ≤ T.2.1.length - sh.length + sh.length; omega), (by show ssum T.2.1 ≤ ssum T.2.1 - ssum sh + ssum sh; omega), hlocks⟩ (name_of_methodNamed B.named B.method).1 ⟨B.returns, rfl⟩ s.heap [] _ 0 0 hR (fun q hq => by cases hq) hl (by omega) (by omega)
theorem SH_len : SH.length = 146 := by decide +kernel
theorem tkL {m : Nat} (h : m ≤ 146) : (SH.take m).length = m := by
  rw [List.length_take, SH_len]
  omega
theorem tkLe {a b : Nat} (h : a ≤ b) : (SH.take a).length ≤ (SH.take b).length := by
  rw [List.length_take, List.length_take, SH_len]
  omega
theorem tkA {m : Nat} {s : Shp} (h : SH[m]? = some s) : SH.take m ++ [s] = SH.take (m + 1) := by
  rw [List.take_succ, h]
  rfl
theorem tkS {m a : Nat} {s : Shp} (h : SH[a]? = some s) (ha : a < m) : (SH.take m)[a]? = some s := by
  rw [List.getElem?_take, if_pos ha]
  exact h
theorem tkM {a b : Nat} (h : a ≤ b) : ssum (SH.take a) ≤ ssum (SH.take b) := by
  induction h with
  | refl => exact Nat.le_refl _
  | step _ ih =>
    refine Nat.le_trans ih ?_
    rw [List.take_succ]
    simp only [ssum, List.map_append, List.sum_append]
    exact Nat.le_add_right _ _
theorem tkQ {m n : Nat} {s : Shp} (h : SH[m]? = some s) (hmn : m + 1 ≤ n) : (SH.take m ++ [s]).length ≤ (SH.take n).length := by
  rw [tkA h]
  exact tkLe hmn
theorem tkQs {m n : Nat} {s : Shp} (h : SH[m]? = some s) (hmn : m + 1 ≤ n) : ssum (SH.take m ++ [s]) ≤ ssum (SH.take n) := by
  rw [tkA h]
  exact tkM hmn
theorem ssum_SH : ssum SH ≤ 7080000 := by decide +kernel
theorem tkB {m : Nat} {s : Shp} (h : SH[m]? = some s) : ssum (SH.take m) + ssz s ≤ 7080000 := by
  have h1 := ssum_push (SH.take m) s
  rw [tkA h] at h1
  have hm : m + 1 ≤ 146 := by
    have h5 := (List.getElem?_eq_some_iff.mp h).1
    rw [SH_len] at h5
    omega
  have h2 := tkM hm
  have h3 := ssum_SH
  have h4 : SH.take 146 = SH := by rw [← SH_len, List.take_length]
  rw [h4] at h2
  omega
theorem frsh {m m1 m2 : Nat} {r : Rf} {u : Mem} (hm : m ≤ 146) (hr : ∀ a, m1 ≤ a → ∀ k, r a k = none) (hu : ∀ a, m2 ≤ a → ∀ k, u a k = 0) (h1 : m1 ≤ m) (h2 : m2 ≤ m) : Fresh (SH.take m) r u :=
  ⟨fun k => hr _ (by rw [tkL hm]; exact h1) k, fun k => hu _ (by rw [tkL hm]; exact h2) k⟩
theorem frR {r : Rf} {m m' a0 k0 z : Nat} (h : ∀ a, m ≤ a → ∀ k, r a k = none) (hm : m ≤ m') (ha : a0 < m') : ∀ a, m' ≤ a → ∀ k, rset r a0 k0 z a k = none := fun a h1 k => by
  show (if a = a0 ∧ k = k0 then some z else r a k) = none
  rw [if_neg (by omega)]
  exact h a (by omega) k
theorem frU {u : Mem} {m m' a0 k0 : Nat} {x : Int32} (h : ∀ a, m ≤ a → ∀ k, u a k = 0) (hm : m ≤ m') (ha : a0 < m') : ∀ a, m' ≤ a → ∀ k, mupd u a0 k0 x a k = 0 := fun a h1 k => by
  rw [mupd_ne u k0 x (by omega)]
  exact h a (by omega) k
theorem dvG {G : Gt} {ci j : Nat} (h : j < (fkind ci).length) : vp_V (flds G ci (fun _ => none) (fun _ => 0)) j = if (fkind ci).getD j true = true then .null else .int 0 := by
  unfold vp_V flds
  rw [List.getD_eq_getElem?_getD, List.getElem?_mapIdx, List.getD_eq_getElem?_getD, List.getElem?_eq_getElem h]
  cases (fkind ci)[j] <;> rfl
theorem frS {r : Rf} {a0 k0 z : Nat} (h : ∀ a k, 40 ≤ k → r a k = none) (hk : k0 < 40) : ∀ a k, 40 ≤ k → rset r a0 k0 z a k = none := fun a k h1 => by
  show (if a = a0 ∧ k = k0 then some z else r a k) = none
  rw [if_neg (by omega)]
  exact h a k h1
def e_r0 : Rf := fun _ _ => none
theorem e_r0F : ∀ a, 0 ≤ a → ∀ k, e_r0 a k = none := fun _ _ _ => rfl
theorem e_r0S : ∀ a k, 40 ≤ k → e_r0 a k = none := fun _ _ _ => rfl
def e_u0 : Mem := fun _ _ => 0
theorem e_u0F : ∀ a, 0 ≤ a → ∀ k, e_u0 a k = 0 := fun _ _ _ => rfl
theorem w_alp {G : Gt} {X : Xt} {pc : Nat} {lv : List (Nat × Value)} {st : List Value} {m : Nat} {s : Shp} {r : Rf} {u : Mem} (h : SH[m]? = some s) (k : WM G X pc lv st (SH.take (m + 1)) r u) : WM G X pc lv st (SH.take m ++ [s]) r u := by
  rw [tkA h]
  exact k
theorem aw_int : Cond.arrayClass .int ∈ TW := tw_of 114 (by decide +kernel) rfl
theorem insW_0 : Cond.instantiable RX0 10 ∈ TW := tw_of 237 (by decide +kernel) rfl
theorem izW_0 : Cond.initialized RX0 ∈ TW := tw_of 47 (by decide +kernel) rfl
theorem dvW_0 {G : Gt} : ∀ j, j < 10 → defaultValue (tyX0 j) = vp_V (flds G 0 (fun _ => none) (fun _ => 0)) j := fun j hj => by
  rw [dvG (show j < (fkind 0).length from hj)]
  have h : j = 0 ∨ j = 1 ∨ j = 2 ∨ j = 3 ∨ j = 4 ∨ j = 5 ∨ j = 6 ∨ j = 7 ∨ j = 8 ∨ j = 9 := by omega
  rcases h with rfl | rfl | rfl | rfl | rfl | rfl | rfl | rfl | rfl | rfl <;> rfl
theorem insW_1 : Cond.instantiable RX1 1 ∈ TW := tw_of 291 (by decide +kernel) rfl
theorem izW_1 : Cond.initialized RX1 ∈ TW := tw_of 48 (by decide +kernel) rfl
theorem dvW_1 {G : Gt} : ∀ j, j < 1 → defaultValue (tyX1 j) = vp_V (flds G 1 (fun _ => none) (fun _ => 0)) j := fun j hj => by
  rw [dvG (show j < (fkind 1).length from hj)]
  have h : j = 0 := by omega
  rcases h with rfl <;> rfl
theorem insW_2 : Cond.instantiable RX2 6 ∈ TW := tw_of 406 (by decide +kernel) rfl
theorem izW_2 : Cond.initialized RX2 ∈ TW := tw_of 52 (by decide +kernel) rfl
theorem dvW_2 {G : Gt} : ∀ j, j < 6 → defaultValue (tyX2 j) = vp_V (flds G 2 (fun _ => none) (fun _ => 0)) j := fun j hj => by
  rw [dvG (show j < (fkind 2).length from hj)]
  have h : j = 0 ∨ j = 1 ∨ j = 2 ∨ j = 3 ∨ j = 4 ∨ j = 5 := by omega
  rcases h with rfl | rfl | rfl | rfl | rfl | rfl <;> rfl
theorem insW_3 : Cond.instantiable RX3 7 ∈ TW := tw_of 301 (by decide +kernel) rfl
theorem izW_3 : Cond.initialized RX3 ∈ TW := tw_of 49 (by decide +kernel) rfl
theorem dvW_3 {G : Gt} : ∀ j, j < 7 → defaultValue (tyX3 j) = vp_V (flds G 3 (fun _ => none) (fun _ => 0)) j := fun j hj => by
  rw [dvG (show j < (fkind 3).length from hj)]
  have h : j = 0 ∨ j = 1 ∨ j = 2 ∨ j = 3 ∨ j = 4 ∨ j = 5 ∨ j = 6 := by omega
  rcases h with rfl | rfl | rfl | rfl | rfl | rfl | rfl <;> rfl
theorem insW_4 : Cond.instantiable RX4 8 ∈ TW := tw_of 83 (by decide +kernel) rfl
theorem izW_4 : Cond.initialized RX4 ∈ TW := tw_of 44 (by decide +kernel) rfl
theorem dvW_4 {G : Gt} : ∀ j, j < 8 → defaultValue (tyX4 j) = vp_V (flds G 4 (fun _ => none) (fun _ => 0)) j := fun j hj => by
  rw [dvG (show j < (fkind 4).length from hj)]
  have h : j = 0 ∨ j = 1 ∨ j = 2 ∨ j = 3 ∨ j = 4 ∨ j = 5 ∨ j = 6 ∨ j = 7 := by omega
  rcases h with rfl | rfl | rfl | rfl | rfl | rfl | rfl | rfl <;> rfl
theorem insW_5 : Cond.instantiable RX5 4 ∈ TW := tw_of 116 (by decide +kernel) rfl
theorem izW_5 : Cond.initialized RX5 ∈ TW := tw_of 45 (by decide +kernel) rfl
theorem dvW_5 {G : Gt} : ∀ j, j < 4 → defaultValue (tyX5 j) = vp_V (flds G 5 (fun _ => none) (fun _ => 0)) j := fun j hj => by
  rw [dvG (show j < (fkind 5).length from hj)]
  have h : j = 0 ∨ j = 1 ∨ j = 2 ∨ j = 3 := by omega
  rcases h with rfl | rfl | rfl | rfl <;> rfl
theorem insW_6 : Cond.instantiable RX6 15 ∈ TW := tw_of 329 (by decide +kernel) rfl
theorem izW_6 : Cond.initialized RX6 ∈ TW := tw_of 50 (by decide +kernel) rfl
theorem dvW_6 {G : Gt} : ∀ j, j < 15 → defaultValue (tyX6 j) = vp_V (flds G 6 (fun _ => none) (fun _ => 0)) j := fun j hj => by
  rw [dvG (show j < (fkind 6).length from hj)]
  have h : j = 0 ∨ j = 1 ∨ j = 2 ∨ j = 3 ∨ j = 4 ∨ j = 5 ∨ j = 6 ∨ j = 7 ∨ j = 8 ∨ j = 9 ∨ j = 10 ∨ j = 11 ∨ j = 12 ∨ j = 13 ∨ j = 14 := by omega
  rcases h with rfl | rfl | rfl | rfl | rfl | rfl | rfl | rfl | rfl | rfl | rfl | rfl | rfl | rfl | rfl <;> rfl
theorem insW_7 : Cond.instantiable RX7 13 ∈ TW := tw_of 433 (by decide +kernel) rfl
theorem izW_7 : Cond.initialized RX7 ∈ TW := tw_of 53 (by decide +kernel) rfl
theorem dvW_7 {G : Gt} : ∀ j, j < 13 → defaultValue (tyX7 j) = vp_V (flds G 7 (fun _ => none) (fun _ => 0)) j := fun j hj => by
  rw [dvG (show j < (fkind 7).length from hj)]
  have h : j = 0 ∨ j = 1 ∨ j = 2 ∨ j = 3 ∨ j = 4 ∨ j = 5 ∨ j = 6 ∨ j = 7 ∨ j = 8 ∨ j = 9 ∨ j = 10 ∨ j = 11 ∨ j = 12 := by omega
  rcases h with rfl | rfl | rfl | rfl | rfl | rfl | rfl | rfl | rfl | rfl | rfl | rfl | rfl <;> rfl
theorem insW_8 : Cond.instantiable RX8 4 ∈ TW := tw_of 137 (by decide +kernel) rfl
theorem izW_8 : Cond.initialized RX8 ∈ TW := tw_of 46 (by decide +kernel) rfl
theorem dvW_8 {G : Gt} : ∀ j, j < 4 → defaultValue (tyX8 j) = vp_V (flds G 8 (fun _ => none) (fun _ => 0)) j := fun j hj => by
  rw [dvG (show j < (fkind 8).length from hj)]
  have h : j = 0 ∨ j = 1 ∨ j = 2 ∨ j = 3 := by omega
  rcases h with rfl | rfl | rfl | rfl <;> rfl
theorem insW_9 : Cond.instantiable RX9 16 ∈ TW := tw_of 77 (by decide +kernel) rfl
theorem izW_9 : Cond.initialized RX9 ∈ TW := tw_of 43 (by decide +kernel) rfl
theorem dvW_9 {G : Gt} : ∀ j, j < 16 → defaultValue (tyX9 j) = vp_V (flds G 9 (fun _ => none) (fun _ => 0)) j := fun j hj => by
  rw [dvG (show j < (fkind 9).length from hj)]
  have h : j = 0 ∨ j = 1 ∨ j = 2 ∨ j = 3 ∨ j = 4 ∨ j = 5 ∨ j = 6 ∨ j = 7 ∨ j = 8 ∨ j = 9 ∨ j = 10 ∨ j = 11 ∨ j = 12 ∨ j = 13 ∨ j = 14 ∨ j = 15 := by omega
  rcases h with rfl | rfl | rfl | rfl | rfl | rfl | rfl | rfl | rfl | rfl | rfl | rfl | rfl | rfl | rfl | rfl <;> rfl
theorem insW_10 : Cond.instantiable RX10 3 ∈ TW := tw_of 386 (by decide +kernel) rfl
theorem izW_10 : Cond.initialized RX10 ∈ TW := tw_of 51 (by decide +kernel) rfl
theorem dvW_10 {G : Gt} : ∀ j, j < 3 → defaultValue (tyX10 j) = vp_V (flds G 10 (fun _ => none) (fun _ => 0)) j := fun j hj => by
  rw [dvG (show j < (fkind 10).length from hj)]
  have h : j = 0 ∨ j = 1 ∨ j = 2 := by omega
  rcases h with rfl | rfl | rfl <;> rfl
theorem insW_11 : Cond.instantiable RX11 12 ∈ TW := tw_of 69 (by decide +kernel) rfl
theorem izW_11 : Cond.initialized RX11 ∈ TW := tw_of 42 (by decide +kernel) rfl
theorem dvW_11 {G : Gt} : ∀ j, j < 12 → defaultValue (tyX11 j) = vp_V (flds G 11 (fun _ => none) (fun _ => 0)) j := fun j hj => by
  rw [dvG (show j < (fkind 11).length from hj)]
  have h : j = 0 ∨ j = 1 ∨ j = 2 ∨ j = 3 ∨ j = 4 ∨ j = 5 ∨ j = 6 ∨ j = 7 ∨ j = 8 ∨ j = 9 ∨ j = 10 ∨ j = 11 := by omega
  rcases h with rfl | rfl | rfl | rfl | rfl | rfl | rfl | rfl | rfl | rfl | rfl | rfl <;> rfl
def e_r1 : Rf := rset e_r0 1 1 2
theorem e_r1F : ∀ a, 3 ≤ a → ∀ k, e_r1 a k = none := frR e_r0F (by decide) (by decide)
theorem e_r1S : ∀ a k, 40 ≤ k → e_r1 a k = none := frS e_r0S (by decide)
def e_r2 : Rf := rset e_r1 1 2 3
theorem e_r2F : ∀ a, 4 ≤ a → ∀ k, e_r2 a k = none := frR e_r1F (by decide) (by decide)
theorem e_r2S : ∀ a k, 40 ≤ k → e_r2 a k = none := frS e_r1S (by decide)
def e_r3 : Rf := rset e_r2 1 3 4
theorem e_r3F : ∀ a, 5 ≤ a → ∀ k, e_r3 a k = none := frR e_r2F (by decide) (by decide)
theorem e_r3S : ∀ a k, 40 ≤ k → e_r3 a k = none := frS e_r2S (by decide)
def e_r4 : Rf := rset e_r3 1 4 5
theorem e_r4F : ∀ a, 6 ≤ a → ∀ k, e_r4 a k = none := frR e_r3F (by decide) (by decide)
theorem e_r4S : ∀ a k, 40 ≤ k → e_r4 a k = none := frS e_r3S (by decide)
def e_u1 : Mem := mupd e_u0 6 0 2
theorem e_u1F : ∀ a, 7 ≤ a → ∀ k, e_u1 a k = 0 := frU e_u0F (by decide) (by decide)
def e_u2 : Mem := mupd e_u1 6 1 2
theorem e_u2F : ∀ a, 7 ≤ a → ∀ k, e_u2 a k = 0 := frU e_u1F (by decide) (by decide)
def e_r5 : Rf := rset e_r4 1 5 6
theorem e_r5F : ∀ a, 7 ≤ a → ∀ k, e_r5 a k = none := frR e_r4F (by decide) (by decide)
theorem e_r5S : ∀ a k, 40 ≤ k → e_r5 a k = none := frS e_r4S (by decide)
def e_u3 : Mem := mupd e_u2 7 0 1
theorem e_u3F : ∀ a, 8 ≤ a → ∀ k, e_u3 a k = 0 := frU e_u2F (by decide) (by decide)
def e_u4 : Mem := mupd e_u3 7 1 1
theorem e_u4F : ∀ a, 8 ≤ a → ∀ k, e_u4 a k = 0 := frU e_u3F (by decide) (by decide)
def e_u5 : Mem := mupd e_u4 7 2 1
theorem e_u5F : ∀ a, 8 ≤ a → ∀ k, e_u5 a k = 0 := frU e_u4F (by decide) (by decide)
def e_u6 : Mem := mupd e_u5 7 3 1
theorem e_u6F : ∀ a, 8 ≤ a → ∀ k, e_u6 a k = 0 := frU e_u5F (by decide) (by decide)
def e_u7 : Mem := mupd e_u6 7 4 1
theorem e_u7F : ∀ a, 8 ≤ a → ∀ k, e_u7 a k = 0 := frU e_u6F (by decide) (by decide)
def e_u8 : Mem := mupd e_u7 7 5 1
theorem e_u8F : ∀ a, 8 ≤ a → ∀ k, e_u8 a k = 0 := frU e_u7F (by decide) (by decide)
def e_u9 : Mem := mupd e_u8 7 6 1
theorem e_u9F : ∀ a, 8 ≤ a → ∀ k, e_u9 a k = 0 := frU e_u8F (by decide) (by decide)
def e_u10 : Mem := mupd e_u9 7 7 1
theorem e_u10F : ∀ a, 8 ≤ a → ∀ k, e_u10 a k = 0 := frU e_u9F (by decide) (by decide)
def e_r6 : Rf := rset e_r5 1 6 7
theorem e_r6F : ∀ a, 8 ≤ a → ∀ k, e_r6 a k = none := frR e_r5F (by decide) (by decide)
theorem e_r6S : ∀ a k, 40 ≤ k → e_r6 a k = none := frS e_r5S (by decide)
def e_u11 : Mem := mupd e_u10 1 7 1
theorem e_u11F : ∀ a, 8 ≤ a → ∀ k, e_u11 a k = 0 := frU e_u10F (by decide) (by decide)
def e_u12 : Mem := mupd e_u11 1 9 3
theorem e_u12F : ∀ a, 8 ≤ a → ∀ k, e_u12 a k = 0 := frU e_u11F (by decide) (by decide)
def e_r7 : Rf := rset e_r6 8 0 9
theorem e_r7F : ∀ a, 10 ≤ a → ∀ k, e_r7 a k = none := frR e_r6F (by decide) (by decide)
theorem e_r7S : ∀ a k, 40 ≤ k → e_r7 a k = none := frS e_r6S (by decide)
def e_r8 : Rf := rset e_r7 8 1 10
theorem e_r8F : ∀ a, 11 ≤ a → ∀ k, e_r8 a k = none := frR e_r7F (by decide) (by decide)
theorem e_r8S : ∀ a k, 40 ≤ k → e_r8 a k = none := frS e_r7S (by decide)
def e_r9 : Rf := rset e_r8 8 2 11
theorem e_r9F : ∀ a, 12 ≤ a → ∀ k, e_r9 a k = none := frR e_r8F (by decide) (by decide)
theorem e_r9S : ∀ a k, 40 ≤ k → e_r9 a k = none := frS e_r8S (by decide)
def e_r10 : Rf := rset e_r9 8 3 12
theorem e_r10F : ∀ a, 13 ≤ a → ∀ k, e_r10 a k = none := frR e_r9F (by decide) (by decide)
theorem e_r10S : ∀ a k, 40 ≤ k → e_r10 a k = none := frS e_r9S (by decide)
def e_r11 : Rf := rset e_r10 8 4 13
theorem e_r11F : ∀ a, 14 ≤ a → ∀ k, e_r11 a k = none := frR e_r10F (by decide) (by decide)
theorem e_r11S : ∀ a k, 40 ≤ k → e_r11 a k = none := frS e_r10S (by decide)
def e_r12 : Rf := rset e_r11 8 5 14
theorem e_r12F : ∀ a, 15 ≤ a → ∀ k, e_r12 a k = none := frR e_r11F (by decide) (by decide)
theorem e_r12S : ∀ a k, 40 ≤ k → e_r12 a k = none := frS e_r11S (by decide)
def e_r13 : Rf := rset e_r12 1 13 8
theorem e_r13F : ∀ a, 15 ≤ a → ∀ k, e_r13 a k = none := frR e_r12F (by decide) (by decide)
theorem e_r13S : ∀ a k, 40 ≤ k → e_r13 a k = none := frS e_r12S (by decide)
def e_r14 : Rf := rset e_r13 15 0 16
theorem e_r14F : ∀ a, 17 ≤ a → ∀ k, e_r14 a k = none := frR e_r13F (by decide) (by decide)
theorem e_r14S : ∀ a k, 40 ≤ k → e_r14 a k = none := frS e_r13S (by decide)
def e_r15 : Rf := rset e_r14 15 1 17
theorem e_r15F : ∀ a, 18 ≤ a → ∀ k, e_r15 a k = none := frR e_r14F (by decide) (by decide)
theorem e_r15S : ∀ a k, 40 ≤ k → e_r15 a k = none := frS e_r14S (by decide)
def e_r16 : Rf := rset e_r15 15 2 18
theorem e_r16F : ∀ a, 19 ≤ a → ∀ k, e_r16 a k = none := frR e_r15F (by decide) (by decide)
theorem e_r16S : ∀ a k, 40 ≤ k → e_r16 a k = none := frS e_r15S (by decide)
def e_r17 : Rf := rset e_r16 1 14 15
theorem e_r17F : ∀ a, 19 ≤ a → ∀ k, e_r17 a k = none := frR e_r16F (by decide) (by decide)
theorem e_r17S : ∀ a k, 40 ≤ k → e_r17 a k = none := frS e_r16S (by decide)
def e_r18 : Rf := rset e_r17 19 0 20
theorem e_r18F : ∀ a, 21 ≤ a → ∀ k, e_r18 a k = none := frR e_r17F (by decide) (by decide)
theorem e_r18S : ∀ a k, 40 ≤ k → e_r18 a k = none := frS e_r17S (by decide)
def e_r19 : Rf := rset e_r18 19 1 21
theorem e_r19F : ∀ a, 22 ≤ a → ∀ k, e_r19 a k = none := frR e_r18F (by decide) (by decide)
theorem e_r19S : ∀ a k, 40 ≤ k → e_r19 a k = none := frS e_r18S (by decide)
def e_r20 : Rf := rset e_r19 19 2 22
theorem e_r20F : ∀ a, 23 ≤ a → ∀ k, e_r20 a k = none := frR e_r19F (by decide) (by decide)
theorem e_r20S : ∀ a k, 40 ≤ k → e_r20 a k = none := frS e_r19S (by decide)
def e_r21 : Rf := rset e_r20 1 15 19
theorem e_r21F : ∀ a, 23 ≤ a → ∀ k, e_r21 a k = none := frR e_r20F (by decide) (by decide)
theorem e_r21S : ∀ a k, 40 ≤ k → e_r21 a k = none := frS e_r20S (by decide)
def e_r22 : Rf := rset e_r21 0 0 1
theorem e_r22F : ∀ a, 23 ≤ a → ∀ k, e_r22 a k = none := frR e_r21F (by decide) (by decide)
theorem e_r22S : ∀ a k, 40 ≤ k → e_r22 a k = none := frS e_r21S (by decide)
def e_r23 : Rf := rset e_r22 23 0 24
theorem e_r23F : ∀ a, 25 ≤ a → ∀ k, e_r23 a k = none := frR e_r22F (by decide) (by decide)
theorem e_r23S : ∀ a k, 40 ≤ k → e_r23 a k = none := frS e_r22S (by decide)
def e_r24 : Rf := rset e_r23 23 1 25
theorem e_r24F : ∀ a, 26 ≤ a → ∀ k, e_r24 a k = none := frR e_r23F (by decide) (by decide)
theorem e_r24S : ∀ a k, 40 ≤ k → e_r24 a k = none := frS e_r23S (by decide)
def e_r25 : Rf := rset e_r24 23 2 26
theorem e_r25F : ∀ a, 27 ≤ a → ∀ k, e_r25 a k = none := frR e_r24F (by decide) (by decide)
theorem e_r25S : ∀ a k, 40 ≤ k → e_r25 a k = none := frS e_r24S (by decide)
def e_r26 : Rf := rset e_r25 23 3 27
theorem e_r26F : ∀ a, 28 ≤ a → ∀ k, e_r26 a k = none := frR e_r25F (by decide) (by decide)
theorem e_r26S : ∀ a k, 40 ≤ k → e_r26 a k = none := frS e_r25S (by decide)
def e_r27 : Rf := rset e_r26 23 4 28
theorem e_r27F : ∀ a, 29 ≤ a → ∀ k, e_r27 a k = none := frR e_r26F (by decide) (by decide)
theorem e_r27S : ∀ a k, 40 ≤ k → e_r27 a k = none := frS e_r26S (by decide)
def e_r28 : Rf := rset e_r27 23 5 29
theorem e_r28F : ∀ a, 30 ≤ a → ∀ k, e_r28 a k = none := frR e_r27F (by decide) (by decide)
theorem e_r28S : ∀ a k, 40 ≤ k → e_r28 a k = none := frS e_r27S (by decide)
def e_u13 : Mem := mupd e_u12 23 6 1
theorem e_u13F : ∀ a, 30 ≤ a → ∀ k, e_u13 a k = 0 := frU e_u12F (by decide) (by decide)
def e_r29 : Rf := rset e_r28 0 1 23
theorem e_r29F : ∀ a, 30 ≤ a → ∀ k, e_r29 a k = none := frR e_r28F (by decide) (by decide)
theorem e_r29S : ∀ a k, 40 ≤ k → e_r29 a k = none := frS e_r28S (by decide)
def e_r30 : Rf := rset e_r29 30 0 31
theorem e_r30F : ∀ a, 32 ≤ a → ∀ k, e_r30 a k = none := frR e_r29F (by decide) (by decide)
theorem e_r30S : ∀ a k, 40 ≤ k → e_r30 a k = none := frS e_r29S (by decide)
def e_r31 : Rf := rset e_r30 0 2 30
theorem e_r31F : ∀ a, 32 ≤ a → ∀ k, e_r31 a k = none := frR e_r30F (by decide) (by decide)
theorem e_r31S : ∀ a k, 40 ≤ k → e_r31 a k = none := frS e_r30S (by decide)
def e_r32 : Rf := rset e_r31 32 4 33
theorem e_r32F : ∀ a, 34 ≤ a → ∀ k, e_r32 a k = none := frR e_r31F (by decide) (by decide)
theorem e_r32S : ∀ a k, 40 ≤ k → e_r32 a k = none := frS e_r31S (by decide)
def e_r33 : Rf := rset e_r32 32 0 1
theorem e_r33F : ∀ a, 34 ≤ a → ∀ k, e_r33 a k = none := frR e_r32F (by decide) (by decide)
theorem e_r33S : ∀ a k, 40 ≤ k → e_r33 a k = none := frS e_r32S (by decide)
def e_r34 : Rf := rset e_r33 32 1 23
theorem e_r34F : ∀ a, 34 ≤ a → ∀ k, e_r34 a k = none := frR e_r33F (by decide) (by decide)
theorem e_r34S : ∀ a k, 40 ≤ k → e_r34 a k = none := frS e_r33S (by decide)
def e_r35 : Rf := rset e_r34 32 2 30
theorem e_r35F : ∀ a, 34 ≤ a → ∀ k, e_r35 a k = none := frR e_r34F (by decide) (by decide)
theorem e_r35S : ∀ a k, 40 ≤ k → e_r35 a k = none := frS e_r34S (by decide)
def e_u14 : Mem := mupd e_u13 32 3 1
theorem e_u14F : ∀ a, 34 ≤ a → ∀ k, e_u14 a k = 0 := frU e_u13F (by decide) (by decide)
def e_r36 : Rf := rset e_r35 0 3 32
theorem e_r36F : ∀ a, 34 ≤ a → ∀ k, e_r36 a k = none := frR e_r35F (by decide) (by decide)
theorem e_r36S : ∀ a k, 40 ≤ k → e_r36 a k = none := frS e_r35S (by decide)
def e_r37 : Rf := rset e_r36 34 0 35
theorem e_r37F : ∀ a, 36 ≤ a → ∀ k, e_r37 a k = none := frR e_r36F (by decide) (by decide)
theorem e_r37S : ∀ a k, 40 ≤ k → e_r37 a k = none := frS e_r36S (by decide)
def e_r38 : Rf := rset e_r37 34 1 36
theorem e_r38F : ∀ a, 37 ≤ a → ∀ k, e_r38 a k = none := frR e_r37F (by decide) (by decide)
theorem e_r38S : ∀ a k, 40 ≤ k → e_r38 a k = none := frS e_r37S (by decide)
def e_r39 : Rf := rset e_r38 34 2 37
theorem e_r39F : ∀ a, 38 ≤ a → ∀ k, e_r39 a k = none := frR e_r38F (by decide) (by decide)
theorem e_r39S : ∀ a k, 40 ≤ k → e_r39 a k = none := frS e_r38S (by decide)
def e_r40 : Rf := rset e_r39 34 3 38
theorem e_r40F : ∀ a, 39 ≤ a → ∀ k, e_r40 a k = none := frR e_r39F (by decide) (by decide)
theorem e_r40S : ∀ a k, 40 ≤ k → e_r40 a k = none := frS e_r39S (by decide)
def e_r41 : Rf := rset e_r40 39 0 40
theorem e_r41F : ∀ a, 41 ≤ a → ∀ k, e_r41 a k = none := frR e_r40F (by decide) (by decide)
theorem e_r41S : ∀ a k, 40 ≤ k → e_r41 a k = none := frS e_r40S (by decide)
def e_r42 : Rf := rset e_r41 39 1 41
theorem e_r42F : ∀ a, 42 ≤ a → ∀ k, e_r42 a k = none := frR e_r41F (by decide) (by decide)
theorem e_r42S : ∀ a k, 40 ≤ k → e_r42 a k = none := frS e_r41S (by decide)
def e_r43 : Rf := rset e_r42 39 2 42
theorem e_r43F : ∀ a, 43 ≤ a → ∀ k, e_r43 a k = none := frR e_r42F (by decide) (by decide)
theorem e_r43S : ∀ a k, 40 ≤ k → e_r43 a k = none := frS e_r42S (by decide)
def e_r44 : Rf := rset e_r43 39 3 43
theorem e_r44F : ∀ a, 44 ≤ a → ∀ k, e_r44 a k = none := frR e_r43F (by decide) (by decide)
theorem e_r44S : ∀ a k, 40 ≤ k → e_r44 a k = none := frS e_r43S (by decide)
def e_r45 : Rf := rset e_r44 39 4 44
theorem e_r45F : ∀ a, 45 ≤ a → ∀ k, e_r45 a k = none := frR e_r44F (by decide) (by decide)
theorem e_r45S : ∀ a k, 40 ≤ k → e_r45 a k = none := frS e_r44S (by decide)
def e_r46 : Rf := rset e_r45 39 5 45
theorem e_r46F : ∀ a, 46 ≤ a → ∀ k, e_r46 a k = none := frR e_r45F (by decide) (by decide)
theorem e_r46S : ∀ a k, 40 ≤ k → e_r46 a k = none := frS e_r45S (by decide)
def e_r47 : Rf := rset e_r46 34 4 39
theorem e_r47F : ∀ a, 46 ≤ a → ∀ k, e_r47 a k = none := frR e_r46F (by decide) (by decide)
theorem e_r47S : ∀ a k, 40 ≤ k → e_r47 a k = none := frS e_r46S (by decide)
def e_r48 : Rf := rset e_r47 46 0 47
theorem e_r48F : ∀ a, 48 ≤ a → ∀ k, e_r48 a k = none := frR e_r47F (by decide) (by decide)
theorem e_r48S : ∀ a k, 40 ≤ k → e_r48 a k = none := frS e_r47S (by decide)
def e_r49 : Rf := rset e_r48 46 1 48
theorem e_r49F : ∀ a, 49 ≤ a → ∀ k, e_r49 a k = none := frR e_r48F (by decide) (by decide)
theorem e_r49S : ∀ a k, 40 ≤ k → e_r49 a k = none := frS e_r48S (by decide)
def e_r50 : Rf := rset e_r49 46 2 49
theorem e_r50F : ∀ a, 50 ≤ a → ∀ k, e_r50 a k = none := frR e_r49F (by decide) (by decide)
theorem e_r50S : ∀ a k, 40 ≤ k → e_r50 a k = none := frS e_r49S (by decide)
def e_r51 : Rf := rset e_r50 34 5 46
theorem e_r51F : ∀ a, 50 ≤ a → ∀ k, e_r51 a k = none := frR e_r50F (by decide) (by decide)
theorem e_r51S : ∀ a k, 40 ≤ k → e_r51 a k = none := frS e_r50S (by decide)
def e_r52 : Rf := rset e_r51 34 6 50
theorem e_r52F : ∀ a, 51 ≤ a → ∀ k, e_r52 a k = none := frR e_r51F (by decide) (by decide)
theorem e_r52S : ∀ a k, 40 ≤ k → e_r52 a k = none := frS e_r51S (by decide)
def e_r53 : Rf := rset e_r52 34 7 51
theorem e_r53F : ∀ a, 52 ≤ a → ∀ k, e_r53 a k = none := frR e_r52F (by decide) (by decide)
theorem e_r53S : ∀ a k, 40 ≤ k → e_r53 a k = none := frS e_r52S (by decide)
def e_u15 : Mem := mupd e_u14 34 14 (-1)
theorem e_u15F : ∀ a, 52 ≤ a → ∀ k, e_u15 a k = 0 := frU e_u14F (by decide) (by decide)
def e_r54 : Rf := rset e_r53 0 4 34
theorem e_r54F : ∀ a, 52 ≤ a → ∀ k, e_r54 a k = none := frR e_r53F (by decide) (by decide)
theorem e_r54S : ∀ a k, 40 ≤ k → e_r54 a k = none := frS e_r53S (by decide)
def e_r55 : Rf := rset e_r54 52 0 53
theorem e_r55F : ∀ a, 54 ≤ a → ∀ k, e_r55 a k = none := frR e_r54F (by decide) (by decide)
theorem e_r55S : ∀ a k, 40 ≤ k → e_r55 a k = none := frS e_r54S (by decide)
def e_r56 : Rf := rset e_r55 54 0 55
theorem e_r56F : ∀ a, 56 ≤ a → ∀ k, e_r56 a k = none := frR e_r55F (by decide) (by decide)
theorem e_r56S : ∀ a k, 40 ≤ k → e_r56 a k = none := frS e_r55S (by decide)
def e_r57 : Rf := rset e_r56 54 1 56
theorem e_r57F : ∀ a, 57 ≤ a → ∀ k, e_r57 a k = none := frR e_r56F (by decide) (by decide)
theorem e_r57S : ∀ a k, 40 ≤ k → e_r57 a k = none := frS e_r56S (by decide)
def e_r58 : Rf := rset e_r57 54 2 57
theorem e_r58F : ∀ a, 58 ≤ a → ∀ k, e_r58 a k = none := frR e_r57F (by decide) (by decide)
theorem e_r58S : ∀ a k, 40 ≤ k → e_r58 a k = none := frS e_r57S (by decide)
def e_r59 : Rf := rset e_r58 54 3 58
theorem e_r59F : ∀ a, 59 ≤ a → ∀ k, e_r59 a k = none := frR e_r58F (by decide) (by decide)
theorem e_r59S : ∀ a k, 40 ≤ k → e_r59 a k = none := frS e_r58S (by decide)
def e_r60 : Rf := rset e_r59 54 4 59
theorem e_r60F : ∀ a, 60 ≤ a → ∀ k, e_r60 a k = none := frR e_r59F (by decide) (by decide)
theorem e_r60S : ∀ a k, 40 ≤ k → e_r60 a k = none := frS e_r59S (by decide)
def e_r61 : Rf := rset e_r60 54 5 60
theorem e_r61F : ∀ a, 61 ≤ a → ∀ k, e_r61 a k = none := frR e_r60F (by decide) (by decide)
theorem e_r61S : ∀ a k, 40 ≤ k → e_r61 a k = none := frS e_r60S (by decide)
def e_u16 : Mem := mupd e_u15 54 6 1
theorem e_u16F : ∀ a, 61 ≤ a → ∀ k, e_u16 a k = 0 := frU e_u15F (by decide) (by decide)
def e_r62 : Rf := rset e_r61 53 0 54
theorem e_r62F : ∀ a, 61 ≤ a → ∀ k, e_r62 a k = none := frR e_r61F (by decide) (by decide)
theorem e_r62S : ∀ a k, 40 ≤ k → e_r62 a k = none := frS e_r61S (by decide)
def e_r63 : Rf := rset e_r62 61 0 62
theorem e_r63F : ∀ a, 63 ≤ a → ∀ k, e_r63 a k = none := frR e_r62F (by decide) (by decide)
theorem e_r63S : ∀ a k, 40 ≤ k → e_r63 a k = none := frS e_r62S (by decide)
def e_r64 : Rf := rset e_r63 61 1 63
theorem e_r64F : ∀ a, 64 ≤ a → ∀ k, e_r64 a k = none := frR e_r63F (by decide) (by decide)
theorem e_r64S : ∀ a k, 40 ≤ k → e_r64 a k = none := frS e_r63S (by decide)
def e_r65 : Rf := rset e_r64 61 2 64
theorem e_r65F : ∀ a, 65 ≤ a → ∀ k, e_r65 a k = none := frR e_r64F (by decide) (by decide)
theorem e_r65S : ∀ a k, 40 ≤ k → e_r65 a k = none := frS e_r64S (by decide)
def e_r66 : Rf := rset e_r65 61 3 65
theorem e_r66F : ∀ a, 66 ≤ a → ∀ k, e_r66 a k = none := frR e_r65F (by decide) (by decide)
theorem e_r66S : ∀ a k, 40 ≤ k → e_r66 a k = none := frS e_r65S (by decide)
def e_r67 : Rf := rset e_r66 61 4 66
theorem e_r67F : ∀ a, 67 ≤ a → ∀ k, e_r67 a k = none := frR e_r66F (by decide) (by decide)
theorem e_r67S : ∀ a k, 40 ≤ k → e_r67 a k = none := frS e_r66S (by decide)
def e_r68 : Rf := rset e_r67 61 5 67
theorem e_r68F : ∀ a, 68 ≤ a → ∀ k, e_r68 a k = none := frR e_r67F (by decide) (by decide)
theorem e_r68S : ∀ a k, 40 ≤ k → e_r68 a k = none := frS e_r67S (by decide)
def e_u17 : Mem := mupd e_u16 61 6 1
theorem e_u17F : ∀ a, 68 ≤ a → ∀ k, e_u17 a k = 0 := frU e_u16F (by decide) (by decide)
def e_r69 : Rf := rset e_r68 53 1 61
theorem e_r69F : ∀ a, 68 ≤ a → ∀ k, e_r69 a k = none := frR e_r68F (by decide) (by decide)
theorem e_r69S : ∀ a k, 40 ≤ k → e_r69 a k = none := frS e_r68S (by decide)
def e_r70 : Rf := rset e_r69 68 0 69
theorem e_r70F : ∀ a, 70 ≤ a → ∀ k, e_r70 a k = none := frR e_r69F (by decide) (by decide)
theorem e_r70S : ∀ a k, 40 ≤ k → e_r70 a k = none := frS e_r69S (by decide)
def e_r71 : Rf := rset e_r70 68 1 70
theorem e_r71F : ∀ a, 71 ≤ a → ∀ k, e_r71 a k = none := frR e_r70F (by decide) (by decide)
theorem e_r71S : ∀ a k, 40 ≤ k → e_r71 a k = none := frS e_r70S (by decide)
def e_r72 : Rf := rset e_r71 68 2 71
theorem e_r72F : ∀ a, 72 ≤ a → ∀ k, e_r72 a k = none := frR e_r71F (by decide) (by decide)
theorem e_r72S : ∀ a k, 40 ≤ k → e_r72 a k = none := frS e_r71S (by decide)
def e_r73 : Rf := rset e_r72 68 3 72
theorem e_r73F : ∀ a, 73 ≤ a → ∀ k, e_r73 a k = none := frR e_r72F (by decide) (by decide)
theorem e_r73S : ∀ a k, 40 ≤ k → e_r73 a k = none := frS e_r72S (by decide)
def e_r74 : Rf := rset e_r73 68 4 73
theorem e_r74F : ∀ a, 74 ≤ a → ∀ k, e_r74 a k = none := frR e_r73F (by decide) (by decide)
theorem e_r74S : ∀ a k, 40 ≤ k → e_r74 a k = none := frS e_r73S (by decide)
def e_r75 : Rf := rset e_r74 68 5 74
theorem e_r75F : ∀ a, 75 ≤ a → ∀ k, e_r75 a k = none := frR e_r74F (by decide) (by decide)
theorem e_r75S : ∀ a k, 40 ≤ k → e_r75 a k = none := frS e_r74S (by decide)
def e_u18 : Mem := mupd e_u17 68 6 1
theorem e_u18F : ∀ a, 75 ≤ a → ∀ k, e_u18 a k = 0 := frU e_u17F (by decide) (by decide)
def e_r76 : Rf := rset e_r75 53 2 68
theorem e_r76F : ∀ a, 75 ≤ a → ∀ k, e_r76 a k = none := frR e_r75F (by decide) (by decide)
theorem e_r76S : ∀ a k, 40 ≤ k → e_r76 a k = none := frS e_r75S (by decide)
def e_r77 : Rf := rset e_r76 75 0 76
theorem e_r77F : ∀ a, 77 ≤ a → ∀ k, e_r77 a k = none := frR e_r76F (by decide) (by decide)
theorem e_r77S : ∀ a k, 40 ≤ k → e_r77 a k = none := frS e_r76S (by decide)
def e_r78 : Rf := rset e_r77 75 1 77
theorem e_r78F : ∀ a, 78 ≤ a → ∀ k, e_r78 a k = none := frR e_r77F (by decide) (by decide)
theorem e_r78S : ∀ a k, 40 ≤ k → e_r78 a k = none := frS e_r77S (by decide)
def e_r79 : Rf := rset e_r78 75 2 78
theorem e_r79F : ∀ a, 79 ≤ a → ∀ k, e_r79 a k = none := frR e_r78F (by decide) (by decide)
theorem e_r79S : ∀ a k, 40 ≤ k → e_r79 a k = none := frS e_r78S (by decide)
def e_r80 : Rf := rset e_r79 75 3 79
theorem e_r80F : ∀ a, 80 ≤ a → ∀ k, e_r80 a k = none := frR e_r79F (by decide) (by decide)
theorem e_r80S : ∀ a k, 40 ≤ k → e_r80 a k = none := frS e_r79S (by decide)
def e_r81 : Rf := rset e_r80 75 4 80
theorem e_r81F : ∀ a, 81 ≤ a → ∀ k, e_r81 a k = none := frR e_r80F (by decide) (by decide)
theorem e_r81S : ∀ a k, 40 ≤ k → e_r81 a k = none := frS e_r80S (by decide)
def e_r82 : Rf := rset e_r81 75 5 81
theorem e_r82F : ∀ a, 82 ≤ a → ∀ k, e_r82 a k = none := frR e_r81F (by decide) (by decide)
theorem e_r82S : ∀ a k, 40 ≤ k → e_r82 a k = none := frS e_r81S (by decide)
def e_u19 : Mem := mupd e_u18 75 6 1
theorem e_u19F : ∀ a, 82 ≤ a → ∀ k, e_u19 a k = 0 := frU e_u18F (by decide) (by decide)
def e_r83 : Rf := rset e_r82 53 3 75
theorem e_r83F : ∀ a, 82 ≤ a → ∀ k, e_r83 a k = none := frR e_r82F (by decide) (by decide)
theorem e_r83S : ∀ a k, 40 ≤ k → e_r83 a k = none := frS e_r82S (by decide)
def e_r84 : Rf := rset e_r83 82 0 83
theorem e_r84F : ∀ a, 84 ≤ a → ∀ k, e_r84 a k = none := frR e_r83F (by decide) (by decide)
theorem e_r84S : ∀ a k, 40 ≤ k → e_r84 a k = none := frS e_r83S (by decide)
def e_r85 : Rf := rset e_r84 82 1 84
theorem e_r85F : ∀ a, 85 ≤ a → ∀ k, e_r85 a k = none := frR e_r84F (by decide) (by decide)
theorem e_r85S : ∀ a k, 40 ≤ k → e_r85 a k = none := frS e_r84S (by decide)
def e_r86 : Rf := rset e_r85 82 2 85
theorem e_r86F : ∀ a, 86 ≤ a → ∀ k, e_r86 a k = none := frR e_r85F (by decide) (by decide)
theorem e_r86S : ∀ a k, 40 ≤ k → e_r86 a k = none := frS e_r85S (by decide)
def e_r87 : Rf := rset e_r86 82 3 86
theorem e_r87F : ∀ a, 87 ≤ a → ∀ k, e_r87 a k = none := frR e_r86F (by decide) (by decide)
theorem e_r87S : ∀ a k, 40 ≤ k → e_r87 a k = none := frS e_r86S (by decide)
def e_r88 : Rf := rset e_r87 82 4 87
theorem e_r88F : ∀ a, 88 ≤ a → ∀ k, e_r88 a k = none := frR e_r87F (by decide) (by decide)
theorem e_r88S : ∀ a k, 40 ≤ k → e_r88 a k = none := frS e_r87S (by decide)
def e_r89 : Rf := rset e_r88 82 5 88
theorem e_r89F : ∀ a, 89 ≤ a → ∀ k, e_r89 a k = none := frR e_r88F (by decide) (by decide)
theorem e_r89S : ∀ a k, 40 ≤ k → e_r89 a k = none := frS e_r88S (by decide)
def e_u20 : Mem := mupd e_u19 82 6 1
theorem e_u20F : ∀ a, 89 ≤ a → ∀ k, e_u20 a k = 0 := frU e_u19F (by decide) (by decide)
def e_r90 : Rf := rset e_r89 53 4 82
theorem e_r90F : ∀ a, 89 ≤ a → ∀ k, e_r90 a k = none := frR e_r89F (by decide) (by decide)
theorem e_r90S : ∀ a k, 40 ≤ k → e_r90 a k = none := frS e_r89S (by decide)
def e_r91 : Rf := rset e_r90 89 0 90
theorem e_r91F : ∀ a, 91 ≤ a → ∀ k, e_r91 a k = none := frR e_r90F (by decide) (by decide)
theorem e_r91S : ∀ a k, 40 ≤ k → e_r91 a k = none := frS e_r90S (by decide)
def e_r92 : Rf := rset e_r91 89 1 91
theorem e_r92F : ∀ a, 92 ≤ a → ∀ k, e_r92 a k = none := frR e_r91F (by decide) (by decide)
theorem e_r92S : ∀ a k, 40 ≤ k → e_r92 a k = none := frS e_r91S (by decide)
def e_r93 : Rf := rset e_r92 89 2 92
theorem e_r93F : ∀ a, 93 ≤ a → ∀ k, e_r93 a k = none := frR e_r92F (by decide) (by decide)
theorem e_r93S : ∀ a k, 40 ≤ k → e_r93 a k = none := frS e_r92S (by decide)
def e_r94 : Rf := rset e_r93 89 3 93
theorem e_r94F : ∀ a, 94 ≤ a → ∀ k, e_r94 a k = none := frR e_r93F (by decide) (by decide)
theorem e_r94S : ∀ a k, 40 ≤ k → e_r94 a k = none := frS e_r93S (by decide)
def e_r95 : Rf := rset e_r94 89 4 94
theorem e_r95F : ∀ a, 95 ≤ a → ∀ k, e_r95 a k = none := frR e_r94F (by decide) (by decide)
theorem e_r95S : ∀ a k, 40 ≤ k → e_r95 a k = none := frS e_r94S (by decide)
def e_r96 : Rf := rset e_r95 89 5 95
theorem e_r96F : ∀ a, 96 ≤ a → ∀ k, e_r96 a k = none := frR e_r95F (by decide) (by decide)
theorem e_r96S : ∀ a k, 40 ≤ k → e_r96 a k = none := frS e_r95S (by decide)
def e_u21 : Mem := mupd e_u20 89 6 1
theorem e_u21F : ∀ a, 96 ≤ a → ∀ k, e_u21 a k = 0 := frU e_u20F (by decide) (by decide)
def e_r97 : Rf := rset e_r96 53 5 89
theorem e_r97F : ∀ a, 96 ≤ a → ∀ k, e_r97 a k = none := frR e_r96F (by decide) (by decide)
theorem e_r97S : ∀ a k, 40 ≤ k → e_r97 a k = none := frS e_r96S (by decide)
def e_r98 : Rf := rset e_r97 0 5 52
theorem e_r98F : ∀ a, 96 ≤ a → ∀ k, e_r98 a k = none := frR e_r97F (by decide) (by decide)
theorem e_r98S : ∀ a k, 40 ≤ k → e_r98 a k = none := frS e_r97S (by decide)
def e_r99 : Rf := rset e_r98 97 0 98
theorem e_r99F : ∀ a, 99 ≤ a → ∀ k, e_r99 a k = none := frR e_r98F (by decide) (by decide)
theorem e_r99S : ∀ a k, 40 ≤ k → e_r99 a k = none := frS e_r98S (by decide)
def e_r100 : Rf := rset e_r99 97 1 99
theorem e_r100F : ∀ a, 100 ≤ a → ∀ k, e_r100 a k = none := frR e_r99F (by decide) (by decide)
theorem e_r100S : ∀ a k, 40 ≤ k → e_r100 a k = none := frS e_r99S (by decide)
def e_r101 : Rf := rset e_r100 97 2 100
theorem e_r101F : ∀ a, 101 ≤ a → ∀ k, e_r101 a k = none := frR e_r100F (by decide) (by decide)
theorem e_r101S : ∀ a k, 40 ≤ k → e_r101 a k = none := frS e_r100S (by decide)
def e_r102 : Rf := rset e_r101 97 3 101
theorem e_r102F : ∀ a, 102 ≤ a → ∀ k, e_r102 a k = none := frR e_r101F (by decide) (by decide)
theorem e_r102S : ∀ a k, 40 ≤ k → e_r102 a k = none := frS e_r101S (by decide)
def e_r103 : Rf := rset e_r102 97 4 102
theorem e_r103F : ∀ a, 103 ≤ a → ∀ k, e_r103 a k = none := frR e_r102F (by decide) (by decide)
theorem e_r103S : ∀ a k, 40 ≤ k → e_r103 a k = none := frS e_r102S (by decide)
def e_r104 : Rf := rset e_r103 97 5 103
theorem e_r104F : ∀ a, 104 ≤ a → ∀ k, e_r104 a k = none := frR e_r103F (by decide) (by decide)
theorem e_r104S : ∀ a k, 40 ≤ k → e_r104 a k = none := frS e_r103S (by decide)
def e_u22 : Mem := mupd e_u21 97 6 1
theorem e_u22F : ∀ a, 104 ≤ a → ∀ k, e_u22 a k = 0 := frU e_u21F (by decide) (by decide)
def e_r105 : Rf := rset e_r104 96 2 97
theorem e_r105F : ∀ a, 104 ≤ a → ∀ k, e_r105 a k = none := frR e_r104F (by decide) (by decide)
theorem e_r105S : ∀ a k, 40 ≤ k → e_r105 a k = none := frS e_r104S (by decide)
def e_r106 : Rf := rset e_r105 96 0 1
theorem e_r106F : ∀ a, 104 ≤ a → ∀ k, e_r106 a k = none := frR e_r105F (by decide) (by decide)
theorem e_r106S : ∀ a k, 40 ≤ k → e_r106 a k = none := frS e_r105S (by decide)
def e_r107 : Rf := rset e_r106 96 1 23
theorem e_r107F : ∀ a, 104 ≤ a → ∀ k, e_r107 a k = none := frR e_r106F (by decide) (by decide)
theorem e_r107S : ∀ a k, 40 ≤ k → e_r107 a k = none := frS e_r106S (by decide)
def e_r108 : Rf := rset e_r107 104 4 105
theorem e_r108F : ∀ a, 106 ≤ a → ∀ k, e_r108 a k = none := frR e_r107F (by decide) (by decide)
theorem e_r108S : ∀ a k, 40 ≤ k → e_r108 a k = none := frS e_r107S (by decide)
def e_r109 : Rf := rset e_r108 104 0 1
theorem e_r109F : ∀ a, 106 ≤ a → ∀ k, e_r109 a k = none := frR e_r108F (by decide) (by decide)
theorem e_r109S : ∀ a k, 40 ≤ k → e_r109 a k = none := frS e_r108S (by decide)
def e_r110 : Rf := rset e_r109 104 1 97
theorem e_r110F : ∀ a, 106 ≤ a → ∀ k, e_r110 a k = none := frR e_r109F (by decide) (by decide)
theorem e_r110S : ∀ a k, 40 ≤ k → e_r110 a k = none := frS e_r109S (by decide)
def e_r111 : Rf := rset e_r110 104 2 30
theorem e_r111F : ∀ a, 106 ≤ a → ∀ k, e_r111 a k = none := frR e_r110F (by decide) (by decide)
theorem e_r111S : ∀ a k, 40 ≤ k → e_r111 a k = none := frS e_r110S (by decide)
def e_u23 : Mem := mupd e_u22 104 3 0
theorem e_u23F : ∀ a, 106 ≤ a → ∀ k, e_u23 a k = 0 := frU e_u22F (by decide) (by decide)
def e_r112 : Rf := rset e_r111 96 3 104
theorem e_r112F : ∀ a, 106 ≤ a → ∀ k, e_r112 a k = none := frR e_r111F (by decide) (by decide)
theorem e_r112S : ∀ a k, 40 ≤ k → e_r112 a k = none := frS e_r111S (by decide)
def e_r113 : Rf := rset e_r112 0 6 96
theorem e_r113F : ∀ a, 106 ≤ a → ∀ k, e_r113 a k = none := frR e_r112F (by decide) (by decide)
theorem e_r113S : ∀ a k, 40 ≤ k → e_r113 a k = none := frS e_r112S (by decide)
def e_r114 : Rf := rset e_r113 106 3 107
theorem e_r114F : ∀ a, 108 ≤ a → ∀ k, e_r114 a k = none := frR e_r113F (by decide) (by decide)
theorem e_r114S : ∀ a k, 40 ≤ k → e_r114 a k = none := frS e_r113S (by decide)
def e_r115 : Rf := rset e_r114 106 4 108
theorem e_r115F : ∀ a, 109 ≤ a → ∀ k, e_r115 a k = none := frR e_r114F (by decide) (by decide)
theorem e_r115S : ∀ a k, 40 ≤ k → e_r115 a k = none := frS e_r114S (by decide)
def e_r116 : Rf := rset e_r115 106 5 109
theorem e_r116F : ∀ a, 110 ≤ a → ∀ k, e_r116 a k = none := frR e_r115F (by decide) (by decide)
theorem e_r116S : ∀ a k, 40 ≤ k → e_r116 a k = none := frS e_r115S (by decide)
def e_r117 : Rf := rset e_r116 106 6 110
theorem e_r117F : ∀ a, 111 ≤ a → ∀ k, e_r117 a k = none := frR e_r116F (by decide) (by decide)
theorem e_r117S : ∀ a k, 40 ≤ k → e_r117 a k = none := frS e_r116S (by decide)
def e_r118 : Rf := rset e_r117 106 7 111
theorem e_r118F : ∀ a, 112 ≤ a → ∀ k, e_r118 a k = none := frR e_r117F (by decide) (by decide)
theorem e_r118S : ∀ a k, 40 ≤ k → e_r118 a k = none := frS e_r117S (by decide)
def e_r119 : Rf := rset e_r118 106 8 112
theorem e_r119F : ∀ a, 113 ≤ a → ∀ k, e_r119 a k = none := frR e_r118F (by decide) (by decide)
theorem e_r119S : ∀ a k, 40 ≤ k → e_r119 a k = none := frS e_r118S (by decide)
def e_r120 : Rf := rset e_r119 106 9 113
theorem e_r120F : ∀ a, 114 ≤ a → ∀ k, e_r120 a k = none := frR e_r119F (by decide) (by decide)
theorem e_r120S : ∀ a k, 40 ≤ k → e_r120 a k = none := frS e_r119S (by decide)
def e_r121 : Rf := rset e_r120 106 10 114
theorem e_r121F : ∀ a, 115 ≤ a → ∀ k, e_r121 a k = none := frR e_r120F (by decide) (by decide)
theorem e_r121S : ∀ a k, 40 ≤ k → e_r121 a k = none := frS e_r120S (by decide)
def e_r122 : Rf := rset e_r121 106 0 1
theorem e_r122F : ∀ a, 115 ≤ a → ∀ k, e_r122 a k = none := frR e_r121F (by decide) (by decide)
theorem e_r122S : ∀ a k, 40 ≤ k → e_r122 a k = none := frS e_r121S (by decide)
def e_r123 : Rf := rset e_r122 106 1 23
theorem e_r123F : ∀ a, 115 ≤ a → ∀ k, e_r123 a k = none := frR e_r122F (by decide) (by decide)
theorem e_r123S : ∀ a k, 40 ≤ k → e_r123 a k = none := frS e_r122S (by decide)
def e_r124 : Rf := rset e_r123 106 2 32
theorem e_r124F : ∀ a, 115 ≤ a → ∀ k, e_r124 a k = none := frR e_r123F (by decide) (by decide)
theorem e_r124S : ∀ a k, 40 ≤ k → e_r124 a k = none := frS e_r123S (by decide)
def e_r125 : Rf := rset e_r124 0 7 106
theorem e_r125F : ∀ a, 115 ≤ a → ∀ k, e_r125 a k = none := frR e_r124F (by decide) (by decide)
theorem e_r125S : ∀ a k, 40 ≤ k → e_r125 a k = none := frS e_r124S (by decide)
def e_r126 : Rf := rset e_r125 115 1 116
theorem e_r126F : ∀ a, 117 ≤ a → ∀ k, e_r126 a k = none := frR e_r125F (by decide) (by decide)
theorem e_r126S : ∀ a k, 40 ≤ k → e_r126 a k = none := frS e_r125S (by decide)
def e_r127 : Rf := rset e_r126 115 2 117
theorem e_r127F : ∀ a, 118 ≤ a → ∀ k, e_r127 a k = none := frR e_r126F (by decide) (by decide)
theorem e_r127S : ∀ a k, 40 ≤ k → e_r127 a k = none := frS e_r126S (by decide)
def e_r128 : Rf := rset e_r127 115 3 118
theorem e_r128F : ∀ a, 119 ≤ a → ∀ k, e_r128 a k = none := frR e_r127F (by decide) (by decide)
theorem e_r128S : ∀ a k, 40 ≤ k → e_r128 a k = none := frS e_r127S (by decide)
def e_r129 : Rf := rset e_r128 115 4 119
theorem e_r129F : ∀ a, 120 ≤ a → ∀ k, e_r129 a k = none := frR e_r128F (by decide) (by decide)
theorem e_r129S : ∀ a k, 40 ≤ k → e_r129 a k = none := frS e_r128S (by decide)
def e_u24 : Mem := mupd e_u23 120 0 2
theorem e_u24F : ∀ a, 121 ≤ a → ∀ k, e_u24 a k = 0 := frU e_u23F (by decide) (by decide)
def e_u25 : Mem := mupd e_u24 120 1 2
theorem e_u25F : ∀ a, 121 ≤ a → ∀ k, e_u25 a k = 0 := frU e_u24F (by decide) (by decide)
def e_r130 : Rf := rset e_r129 115 5 120
theorem e_r130F : ∀ a, 121 ≤ a → ∀ k, e_r130 a k = none := frR e_r129F (by decide) (by decide)
theorem e_r130S : ∀ a k, 40 ≤ k → e_r130 a k = none := frS e_r129S (by decide)
def e_u26 : Mem := mupd e_u25 121 0 1
theorem e_u26F : ∀ a, 122 ≤ a → ∀ k, e_u26 a k = 0 := frU e_u25F (by decide) (by decide)
def e_u27 : Mem := mupd e_u26 121 1 1
theorem e_u27F : ∀ a, 122 ≤ a → ∀ k, e_u27 a k = 0 := frU e_u26F (by decide) (by decide)
def e_u28 : Mem := mupd e_u27 121 2 1
theorem e_u28F : ∀ a, 122 ≤ a → ∀ k, e_u28 a k = 0 := frU e_u27F (by decide) (by decide)
def e_u29 : Mem := mupd e_u28 121 3 1
theorem e_u29F : ∀ a, 122 ≤ a → ∀ k, e_u29 a k = 0 := frU e_u28F (by decide) (by decide)
def e_u30 : Mem := mupd e_u29 121 4 1
theorem e_u30F : ∀ a, 122 ≤ a → ∀ k, e_u30 a k = 0 := frU e_u29F (by decide) (by decide)
def e_u31 : Mem := mupd e_u30 121 5 1
theorem e_u31F : ∀ a, 122 ≤ a → ∀ k, e_u31 a k = 0 := frU e_u30F (by decide) (by decide)
def e_u32 : Mem := mupd e_u31 121 6 1
theorem e_u32F : ∀ a, 122 ≤ a → ∀ k, e_u32 a k = 0 := frU e_u31F (by decide) (by decide)
def e_u33 : Mem := mupd e_u32 121 7 1
theorem e_u33F : ∀ a, 122 ≤ a → ∀ k, e_u33 a k = 0 := frU e_u32F (by decide) (by decide)
def e_r131 : Rf := rset e_r130 115 6 121
theorem e_r131F : ∀ a, 122 ≤ a → ∀ k, e_r131 a k = none := frR e_r130F (by decide) (by decide)
theorem e_r131S : ∀ a k, 40 ≤ k → e_r131 a k = none := frS e_r130S (by decide)
def e_u34 : Mem := mupd e_u33 115 7 1
theorem e_u34F : ∀ a, 122 ≤ a → ∀ k, e_u34 a k = 0 := frU e_u33F (by decide) (by decide)
def e_u35 : Mem := mupd e_u34 115 9 3
theorem e_u35F : ∀ a, 122 ≤ a → ∀ k, e_u35 a k = 0 := frU e_u34F (by decide) (by decide)
def e_r132 : Rf := rset e_r131 122 0 123
theorem e_r132F : ∀ a, 124 ≤ a → ∀ k, e_r132 a k = none := frR e_r131F (by decide) (by decide)
theorem e_r132S : ∀ a k, 40 ≤ k → e_r132 a k = none := frS e_r131S (by decide)
def e_r133 : Rf := rset e_r132 122 1 124
theorem e_r133F : ∀ a, 125 ≤ a → ∀ k, e_r133 a k = none := frR e_r132F (by decide) (by decide)
theorem e_r133S : ∀ a k, 40 ≤ k → e_r133 a k = none := frS e_r132S (by decide)
def e_r134 : Rf := rset e_r133 122 2 125
theorem e_r134F : ∀ a, 126 ≤ a → ∀ k, e_r134 a k = none := frR e_r133F (by decide) (by decide)
theorem e_r134S : ∀ a k, 40 ≤ k → e_r134 a k = none := frS e_r133S (by decide)
def e_r135 : Rf := rset e_r134 122 3 126
theorem e_r135F : ∀ a, 127 ≤ a → ∀ k, e_r135 a k = none := frR e_r134F (by decide) (by decide)
theorem e_r135S : ∀ a k, 40 ≤ k → e_r135 a k = none := frS e_r134S (by decide)
def e_r136 : Rf := rset e_r135 122 4 127
theorem e_r136F : ∀ a, 128 ≤ a → ∀ k, e_r136 a k = none := frR e_r135F (by decide) (by decide)
theorem e_r136S : ∀ a k, 40 ≤ k → e_r136 a k = none := frS e_r135S (by decide)
def e_r137 : Rf := rset e_r136 122 5 128
theorem e_r137F : ∀ a, 129 ≤ a → ∀ k, e_r137 a k = none := frR e_r136F (by decide) (by decide)
theorem e_r137S : ∀ a k, 40 ≤ k → e_r137 a k = none := frS e_r136S (by decide)
def e_r138 : Rf := rset e_r137 115 13 122
theorem e_r138F : ∀ a, 129 ≤ a → ∀ k, e_r138 a k = none := frR e_r137F (by decide) (by decide)
theorem e_r138S : ∀ a k, 40 ≤ k → e_r138 a k = none := frS e_r137S (by decide)
def e_r139 : Rf := rset e_r138 129 0 130
theorem e_r139F : ∀ a, 131 ≤ a → ∀ k, e_r139 a k = none := frR e_r138F (by decide) (by decide)
theorem e_r139S : ∀ a k, 40 ≤ k → e_r139 a k = none := frS e_r138S (by decide)
def e_r140 : Rf := rset e_r139 129 1 131
theorem e_r140F : ∀ a, 132 ≤ a → ∀ k, e_r140 a k = none := frR e_r139F (by decide) (by decide)
theorem e_r140S : ∀ a k, 40 ≤ k → e_r140 a k = none := frS e_r139S (by decide)
def e_r141 : Rf := rset e_r140 129 2 132
theorem e_r141F : ∀ a, 133 ≤ a → ∀ k, e_r141 a k = none := frR e_r140F (by decide) (by decide)
theorem e_r141S : ∀ a k, 40 ≤ k → e_r141 a k = none := frS e_r140S (by decide)
def e_r142 : Rf := rset e_r141 115 14 129
theorem e_r142F : ∀ a, 133 ≤ a → ∀ k, e_r142 a k = none := frR e_r141F (by decide) (by decide)
theorem e_r142S : ∀ a k, 40 ≤ k → e_r142 a k = none := frS e_r141S (by decide)
def e_r143 : Rf := rset e_r142 133 0 134
theorem e_r143F : ∀ a, 135 ≤ a → ∀ k, e_r143 a k = none := frR e_r142F (by decide) (by decide)
theorem e_r143S : ∀ a k, 40 ≤ k → e_r143 a k = none := frS e_r142S (by decide)
def e_r144 : Rf := rset e_r143 133 1 135
theorem e_r144F : ∀ a, 136 ≤ a → ∀ k, e_r144 a k = none := frR e_r143F (by decide) (by decide)
theorem e_r144S : ∀ a k, 40 ≤ k → e_r144 a k = none := frS e_r143S (by decide)
def e_r145 : Rf := rset e_r144 133 2 136
theorem e_r145F : ∀ a, 137 ≤ a → ∀ k, e_r145 a k = none := frR e_r144F (by decide) (by decide)
theorem e_r145S : ∀ a k, 40 ≤ k → e_r145 a k = none := frS e_r144S (by decide)
def e_r146 : Rf := rset e_r145 115 15 133
theorem e_r146F : ∀ a, 137 ≤ a → ∀ k, e_r146 a k = none := frR e_r145F (by decide) (by decide)
theorem e_r146S : ∀ a k, 40 ≤ k → e_r146 a k = none := frS e_r145S (by decide)
def e_r147 : Rf := rset e_r146 0 8 115
theorem e_r147F : ∀ a, 137 ≤ a → ∀ k, e_r147 a k = none := frR e_r146F (by decide) (by decide)
theorem e_r147S : ∀ a k, 40 ≤ k → e_r147 a k = none := frS e_r146S (by decide)
def e_r148 : Rf := rset e_r147 137 0 138
theorem e_r148F : ∀ a, 139 ≤ a → ∀ k, e_r148 a k = none := frR e_r147F (by decide) (by decide)
theorem e_r148S : ∀ a k, 40 ≤ k → e_r148 a k = none := frS e_r147S (by decide)
def e_r149 : Rf := rset e_r148 137 1 139
theorem e_r149F : ∀ a, 140 ≤ a → ∀ k, e_r149 a k = none := frR e_r148F (by decide) (by decide)
theorem e_r149S : ∀ a k, 40 ≤ k → e_r149 a k = none := frS e_r148S (by decide)
def e_r150 : Rf := rset e_r149 137 2 140
theorem e_r150F : ∀ a, 141 ≤ a → ∀ k, e_r150 a k = none := frR e_r149F (by decide) (by decide)
theorem e_r150S : ∀ a k, 40 ≤ k → e_r150 a k = none := frS e_r149S (by decide)
def e_r151 : Rf := rset e_r150 137 3 141
theorem e_r151F : ∀ a, 142 ≤ a → ∀ k, e_r151 a k = none := frR e_r150F (by decide) (by decide)
theorem e_r151S : ∀ a k, 40 ≤ k → e_r151 a k = none := frS e_r150S (by decide)
def e_r152 : Rf := rset e_r151 137 4 142
theorem e_r152F : ∀ a, 143 ≤ a → ∀ k, e_r152 a k = none := frR e_r151F (by decide) (by decide)
theorem e_r152S : ∀ a k, 40 ≤ k → e_r152 a k = none := frS e_r151S (by decide)
def e_r153 : Rf := rset e_r152 137 5 143
theorem e_r153F : ∀ a, 144 ≤ a → ∀ k, e_r153 a k = none := frR e_r152F (by decide) (by decide)
theorem e_r153S : ∀ a k, 40 ≤ k → e_r153 a k = none := frS e_r152S (by decide)
def e_u36 : Mem := mupd e_u35 137 6 1
theorem e_u36F : ∀ a, 144 ≤ a → ∀ k, e_u36 a k = 0 := frU e_u35F (by decide) (by decide)
def e_r154 : Rf := rset e_r153 0 9 137
theorem e_r154F : ∀ a, 144 ≤ a → ∀ k, e_r154 a k = none := frR e_r153F (by decide) (by decide)
theorem e_r154S : ∀ a k, 40 ≤ k → e_r154 a k = none := frS e_r153S (by decide)
def e_r155 : Rf := rset e_r154 144 0 145
theorem e_r155F : ∀ a, 146 ≤ a → ∀ k, e_r155 a k = none := frR e_r154F (by decide) (by decide)
theorem e_r155S : ∀ a k, 40 ≤ k → e_r155 a k = none := frS e_r154S (by decide)
def e_r156 : Rf := rset e_r155 0 10 144
theorem e_r156F : ∀ a, 146 ≤ a → ∀ k, e_r156 a k = none := frR e_r155F (by decide) (by decide)
theorem e_r156S : ∀ a k, 40 ≤ k → e_r156 a k = none := frS e_r155S (by decide)
def e_u37 : Mem := mupd e_u36 0 11 0
theorem e_u37F : ∀ a, 146 ≤ a → ∀ k, e_u37 a k = 0 := frU e_u36F (by decide) (by decide)
theorem KX40_8 {G : Gt} : CT G yX4_init cX4_init 1 none 1 [.ref 8] (SH.take 9) e_r6 e_u12 (none, SH.take 15, e_r12, e_u12) :=
  ct_ofN (by decide) rfl (by decide) (tkLe (by decide)) (tkM (by decide)) (fun X hX hNm hR => by
  refine w_aload_n 0 0 hX rfl rfl dX4_init_0 ?_
  refine w_objInit 1 hX ml_X4_3 oi_i oi_c (by decide) (by decide) dX4_init_1 ?_
  refine w_aload_n 0 4 hX rfl rfl dX4_init_4 ?_
  refine w_sipush 400 5 hX (by decide) dX4_init_5 ?_
  refine w_newa (n := 400) 9 8 hX (tkL (by decide)).symm (frsh (by decide) e_r6F e_u12F (by decide) (by decide)) (by decide) (by decide) (by decide) aw_int (tkQ s0_9 (by decide)) (tkQs s0_9 (by decide)) (by rw [tkL (by decide)]; decide) (tkB s0_9) dX4_init_8 ?_
  refine w_alp s0_9 ?_
  refine w_putFR (j := 0) 10 hX hNm CI_4 (tkS s0_8 (by decide)) rfl fl_X4_9 rfl rfl rfl (fun _ => rfl) (fun _ => rfl) dX4_init_10 ?_
  change WM _ _ _ _ _ _ e_r7 _
  refine w_aload_n 0 13 hX rfl rfl dX4_init_13 ?_
  refine w_bipush 16 14 hX (by decide) dX4_init_14 ?_
  refine w_newa (n := 16) 10 16 hX (tkL (by decide)).symm (frsh (by decide) e_r7F e_u12F (by decide) (by decide)) (by decide) (by decide) (by decide) aw_int (tkQ s0_10 (by decide)) (tkQs s0_10 (by decide)) (by rw [tkL (by decide)]; decide) (tkB s0_10) dX4_init_16 ?_
  refine w_alp s0_10 ?_
  refine w_putFR (j := 1) 18 hX hNm CI_4 (tkS s0_8 (by decide)) rfl fl_X4_15 rfl rfl rfl (fun _ => rfl) (fun _ => rfl) dX4_init_18 ?_
  change WM _ _ _ _ _ _ e_r8 _
  refine w_aload_n 0 21 hX rfl rfl dX4_init_21 ?_
  refine w_bipush 16 22 hX (by decide) dX4_init_22 ?_
  refine w_newa (n := 16) 11 24 hX (tkL (by decide)).symm (frsh (by decide) e_r8F e_u12F (by decide) (by decide)) (by decide) (by decide) (by decide) aw_int (tkQ s0_11 (by decide)) (tkQs s0_11 (by decide)) (by rw [tkL (by decide)]; decide) (tkB s0_11) dX4_init_24 ?_
  refine w_alp s0_11 ?_
  refine w_putFR (j := 2) 26 hX hNm CI_4 (tkS s0_8 (by decide)) rfl fl_X4_18 rfl rfl rfl (fun _ => rfl) (fun _ => rfl) dX4_init_26 ?_
  change WM _ _ _ _ _ _ e_r9 _
  refine w_aload_n 0 29 hX rfl rfl dX4_init_29 ?_
  refine w_bipush 16 30 hX (by decide) dX4_init_30 ?_
  refine w_newa (n := 16) 12 32 hX (tkL (by decide)).symm (frsh (by decide) e_r9F e_u12F (by decide) (by decide)) (by decide) (by decide) (by decide) aw_int (tkQ s0_12 (by decide)) (tkQs s0_12 (by decide)) (by rw [tkL (by decide)]; decide) (tkB s0_12) dX4_init_32 ?_
  refine w_alp s0_12 ?_
  refine w_putFR (j := 3) 34 hX hNm CI_4 (tkS s0_8 (by decide)) rfl fl_X4_21 rfl rfl rfl (fun _ => rfl) (fun _ => rfl) dX4_init_34 ?_
  change WM _ _ _ _ _ _ e_r10 _
  refine w_aload_n 0 37 hX rfl rfl dX4_init_37 ?_
  refine w_bipush 16 38 hX (by decide) dX4_init_38 ?_
  refine w_newa (n := 16) 13 40 hX (tkL (by decide)).symm (frsh (by decide) e_r10F e_u12F (by decide) (by decide)) (by decide) (by decide) (by decide) aw_int (tkQ s0_13 (by decide)) (tkQs s0_13 (by decide)) (by rw [tkL (by decide)]; decide) (tkB s0_13) dX4_init_40 ?_
  refine w_alp s0_13 ?_
  refine w_putFR (j := 4) 42 hX hNm CI_4 (tkS s0_8 (by decide)) rfl fl_X4_24 rfl rfl rfl (fun _ => rfl) (fun _ => rfl) dX4_init_42 ?_
  change WM _ _ _ _ _ _ e_r11 _
  refine w_aload_n 0 45 hX rfl rfl dX4_init_45 ?_
  refine w_bipush 32 46 hX (by decide) dX4_init_46 ?_
  refine w_newa (n := 32) 14 48 hX (tkL (by decide)).symm (frsh (by decide) e_r11F e_u12F (by decide) (by decide)) (by decide) (by decide) (by decide) aw_int (tkQ s0_14 (by decide)) (tkQs s0_14 (by decide)) (by rw [tkL (by decide)]; decide) (tkB s0_14) dX4_init_48 ?_
  refine w_alp s0_14 ?_
  refine w_putFR (j := 5) 50 hX hNm CI_4 (tkS s0_8 (by decide)) rfl fl_X4_27 rfl rfl rfl (fun _ => rfl) (fun _ => rfl) dX4_init_50 ?_
  change WM _ _ _ _ _ _ e_r12 _
  exact w_vret 53 hX hR dX4_init_53 rfl)
theorem KX50_15 {G : Gt} : CT G yX5_init cX5_init 1 none 1 [.ref 15] (SH.take 16) e_r13 e_u12 (none, SH.take 19, e_r16, e_u12) :=
  ct_ofN (by decide) rfl (by decide) (tkLe (by decide)) (tkM (by decide)) (fun X hX hNm hR => by
  refine w_aload_n 0 0 hX rfl rfl dX5_init_0 ?_
  refine w_objInit 1 hX ml_X5_3 oi_i oi_c (by decide) (by decide) dX5_init_1 ?_
  refine w_aload_n 0 4 hX rfl rfl dX5_init_4 ?_
  refine w_bipush 16 5 hX (by decide) dX5_init_5 ?_
  refine w_newa (n := 16) 16 7 hX (tkL (by decide)).symm (frsh (by decide) e_r13F e_u12F (by decide) (by decide)) (by decide) (by decide) (by decide) aw_int (tkQ s0_16 (by decide)) (tkQs s0_16 (by decide)) (by rw [tkL (by decide)]; decide) (tkB s0_16) dX5_init_7 ?_
  refine w_alp s0_16 ?_
  refine w_putFR (j := 0) 9 hX hNm CI_5 (tkS s0_15 (by decide)) rfl fl_X5_9 rfl rfl rfl (fun _ => rfl) (fun _ => rfl) dX5_init_9 ?_
  change WM _ _ _ _ _ _ e_r14 _
  refine w_aload_n 0 12 hX rfl rfl dX5_init_12 ?_
  refine w_bipush 16 13 hX (by decide) dX5_init_13 ?_
  refine w_newa (n := 16) 17 15 hX (tkL (by decide)).symm (frsh (by decide) e_r14F e_u12F (by decide) (by decide)) (by decide) (by decide) (by decide) aw_int (tkQ s0_17 (by decide)) (tkQs s0_17 (by decide)) (by rw [tkL (by decide)]; decide) (tkB s0_17) dX5_init_15 ?_
  refine w_alp s0_17 ?_
  refine w_putFR (j := 1) 17 hX hNm CI_5 (tkS s0_15 (by decide)) rfl fl_X5_15 rfl rfl rfl (fun _ => rfl) (fun _ => rfl) dX5_init_17 ?_
  change WM _ _ _ _ _ _ e_r15 _
  refine w_aload_n 0 20 hX rfl rfl dX5_init_20 ?_
  refine w_bipush 16 21 hX (by decide) dX5_init_21 ?_
  refine w_newa (n := 16) 18 23 hX (tkL (by decide)).symm (frsh (by decide) e_r15F e_u12F (by decide) (by decide)) (by decide) (by decide) (by decide) aw_int (tkQ s0_18 (by decide)) (tkQs s0_18 (by decide)) (by rw [tkL (by decide)]; decide) (tkB s0_18) dX5_init_23 ?_
  refine w_alp s0_18 ?_
  refine w_putFR (j := 2) 25 hX hNm CI_5 (tkS s0_15 (by decide)) rfl fl_X5_18 rfl rfl rfl (fun _ => rfl) (fun _ => rfl) dX5_init_25 ?_
  change WM _ _ _ _ _ _ e_r16 _
  exact w_vret 28 hX hR dX5_init_28 rfl)
theorem KX80_19 {G : Gt} : CT G yX8_init cX8_init 1 none 1 [.ref 19] (SH.take 20) e_r17 e_u12 (none, SH.take 23, e_r20, e_u12) :=
  ct_ofN (by decide) rfl (by decide) (tkLe (by decide)) (tkM (by decide)) (fun X hX hNm hR => by
  refine w_aload_n 0 0 hX rfl rfl dX8_init_0 ?_
  refine w_objInit 1 hX ml_X8_3 oi_i oi_c (by decide) (by decide) dX8_init_1 ?_
  refine w_aload_n 0 4 hX rfl rfl dX8_init_4 ?_
  refine w_bipush 10 5 hX (by decide) dX8_init_5 ?_
  refine w_newa (n := 10) 20 7 hX (tkL (by decide)).symm (frsh (by decide) e_r17F e_u12F (by decide) (by decide)) (by decide) (by decide) (by decide) aw_int (tkQ s0_20 (by decide)) (tkQs s0_20 (by decide)) (by rw [tkL (by decide)]; decide) (tkB s0_20) dX8_init_7 ?_
  refine w_alp s0_20 ?_
  refine w_putFR (j := 0) 9 hX hNm CI_8 (tkS s0_19 (by decide)) rfl fl_X8_11 rfl rfl rfl (fun _ => rfl) (fun _ => rfl) dX8_init_9 ?_
  change WM _ _ _ _ _ _ e_r18 _
  refine w_aload_n 0 12 hX rfl rfl dX8_init_12 ?_
  refine w_bipush 10 13 hX (by decide) dX8_init_13 ?_
  refine w_newa (n := 10) 21 15 hX (tkL (by decide)).symm (frsh (by decide) e_r18F e_u12F (by decide) (by decide)) (by decide) (by decide) (by decide) aw_int (tkQ s0_21 (by decide)) (tkQs s0_21 (by decide)) (by rw [tkL (by decide)]; decide) (tkB s0_21) dX8_init_15 ?_
  refine w_alp s0_21 ?_
  refine w_putFR (j := 1) 17 hX hNm CI_8 (tkS s0_19 (by decide)) rfl fl_X8_15 rfl rfl rfl (fun _ => rfl) (fun _ => rfl) dX8_init_17 ?_
  change WM _ _ _ _ _ _ e_r19 _
  refine w_aload_n 0 20 hX rfl rfl dX8_init_20 ?_
  refine w_bipush 10 21 hX (by decide) dX8_init_21 ?_
  refine w_newa (n := 10) 22 23 hX (tkL (by decide)).symm (frsh (by decide) e_r19F e_u12F (by decide) (by decide)) (by decide) (by decide) (by decide) aw_int (tkQ s0_22 (by decide)) (tkQs s0_22 (by decide)) (by rw [tkL (by decide)]; decide) (tkB s0_22) dX8_init_23 ?_
  refine w_alp s0_22 ?_
  refine w_putFR (j := 2) 25 hX hNm CI_8 (tkS s0_19 (by decide)) rfl fl_X8_18 rfl rfl rfl (fun _ => rfl) (fun _ => rfl) dX8_init_25 ?_
  change WM _ _ _ _ _ _ e_r20 _
  exact w_vret 28 hX hR dX8_init_28 rfl)
theorem KX90_1 {G : Gt} : CT G yX9_init cX9_init 1 none 2 [.ref 1] (SH.take 2) e_r0 e_u0 (none, SH.take 23, e_r21, e_u12) :=
  ct_ofN (by decide) rfl (by decide) (tkLe (by decide)) (tkM (by decide)) (fun X hX hNm hR => by
  refine w_aload_n 0 0 hX rfl rfl dX9_init_0 ?_
  refine w_objInit 1 hX ml_X9_3 oi_i oi_c (by decide) (by decide) dX9_init_1 ?_
  refine w_aload_n 0 4 hX rfl rfl dX9_init_4 ?_
  refine w_bipush 12 5 hX (by decide) dX9_init_5 ?_
  refine w_newa (n := 12) 2 7 hX (tkL (by decide)).symm (frsh (by decide) e_r0F e_u0F (by decide) (by decide)) (by decide) (by decide) (by decide) aw_int (tkQ s0_2 (by decide)) (tkQs s0_2 (by decide)) (by rw [tkL (by decide)]; decide) (tkB s0_2) dX9_init_7 ?_
  refine w_alp s0_2 ?_
  refine w_putFR (j := 1) 9 hX hNm CI_9 (tkS s0_1 (by decide)) rfl fl_X9_9 rfl rfl rfl (fun _ => rfl) (fun _ => rfl) dX9_init_9 ?_
  change WM _ _ _ _ _ _ e_r1 _
  refine w_aload_n 0 12 hX rfl rfl dX9_init_12 ?_
  refine w_bipush 12 13 hX (by decide) dX9_init_13 ?_
  refine w_newa (n := 12) 3 15 hX (tkL (by decide)).symm (frsh (by decide) e_r1F e_u0F (by decide) (by decide)) (by decide) (by decide) (by decide) aw_int (tkQ s0_3 (by decide)) (tkQs s0_3 (by decide)) (by rw [tkL (by decide)]; decide) (tkB s0_3) dX9_init_15 ?_
  refine w_alp s0_3 ?_
  refine w_putFR (j := 2) 17 hX hNm CI_9 (tkS s0_1 (by decide)) rfl fl_X9_15 rfl rfl rfl (fun _ => rfl) (fun _ => rfl) dX9_init_17 ?_
  change WM _ _ _ _ _ _ e_r2 _
  refine w_aload_n 0 20 hX rfl rfl dX9_init_20 ?_
  refine w_bipush 12 21 hX (by decide) dX9_init_21 ?_
  refine w_newa (n := 12) 4 23 hX (tkL (by decide)).symm (frsh (by decide) e_r2F e_u0F (by decide) (by decide)) (by decide) (by decide) (by decide) aw_int (tkQ s0_4 (by decide)) (tkQs s0_4 (by decide)) (by rw [tkL (by decide)]; decide) (tkB s0_4) dX9_init_23 ?_
  refine w_alp s0_4 ?_
  refine w_putFR (j := 3) 25 hX hNm CI_9 (tkS s0_1 (by decide)) rfl fl_X9_18 rfl rfl rfl (fun _ => rfl) (fun _ => rfl) dX9_init_25 ?_
  change WM _ _ _ _ _ _ e_r3 _
  refine w_aload_n 0 28 hX rfl rfl dX9_init_28 ?_
  refine w_bipush 12 29 hX (by decide) dX9_init_29 ?_
  refine w_newa (n := 12) 5 31 hX (tkL (by decide)).symm (frsh (by decide) e_r3F e_u0F (by decide) (by decide)) (by decide) (by decide) (by decide) aw_int (tkQ s0_5 (by decide)) (tkQs s0_5 (by decide)) (by rw [tkL (by decide)]; decide) (tkB s0_5) dX9_init_31 ?_
  refine w_alp s0_5 ?_
  refine w_putFR (j := 4) 33 hX hNm CI_9 (tkS s0_1 (by decide)) rfl fl_X9_21 rfl rfl rfl (fun _ => rfl) (fun _ => rfl) dX9_init_33 ?_
  change WM _ _ _ _ _ _ e_r4 _
  refine w_aload_n 0 36 hX rfl rfl dX9_init_36 ?_
  refine w_iconst 2 37 hX (by decide) dX9_init_37 ?_
  refine w_newa (n := 2) 6 38 hX (tkL (by decide)).symm (frsh (by decide) e_r4F e_u0F (by decide) (by decide)) (by decide) (by decide) (by decide) aw_int (tkQ s0_6 (by decide)) (tkQs s0_6 (by decide)) (by rw [tkL (by decide)]; decide) (tkB s0_6) dX9_init_38 ?_
  refine w_alp s0_6 ?_
  refine w_dup 40 hX rfl dX9_init_40 ?_
  refine w_iconst 0 41 hX (by decide) dX9_init_41 ?_
  refine w_iconst 2 42 hX (by decide) dX9_init_42 ?_
  refine w_iast (u' := e_u1) 43 hX (tkS s0_6 (by decide)) (wrK 0 0 (by decide) (by decide) (by decide) rfl) dX9_init_43 ?_
  refine w_dup 44 hX rfl dX9_init_44 ?_
  refine w_iconst 1 45 hX (by decide) dX9_init_45 ?_
  refine w_iconst 2 46 hX (by decide) dX9_init_46 ?_
  refine w_iast (u' := e_u2) 47 hX (tkS s0_6 (by decide)) (wrK 1 1 (by decide) (by decide) (by decide) rfl) dX9_init_47 ?_
  refine w_putFR (j := 5) 48 hX hNm CI_9 (tkS s0_1 (by decide)) rfl fl_X9_24 rfl rfl rfl (fun _ => rfl) (fun _ => rfl) dX9_init_48 ?_
  change WM _ _ _ _ _ _ e_r5 _
  refine w_aload_n 0 51 hX rfl rfl dX9_init_51 ?_
  refine w_bipush 8 52 hX (by decide) dX9_init_52 ?_
  refine w_newa (n := 8) 7 54 hX (tkL (by decide)).symm (frsh (by decide) e_r5F e_u2F (by decide) (by decide)) (by decide) (by decide) (by decide) aw_int (tkQ s0_7 (by decide)) (tkQs s0_7 (by decide)) (by rw [tkL (by decide)]; decide) (tkB s0_7) dX9_init_54 ?_
  refine w_alp s0_7 ?_
  refine w_dup 56 hX rfl dX9_init_56 ?_
  refine w_iconst 0 57 hX (by decide) dX9_init_57 ?_
  refine w_iconst 1 58 hX (by decide) dX9_init_58 ?_
  refine w_iast (u' := e_u3) 59 hX (tkS s0_7 (by decide)) (wrK 0 0 (by decide) (by decide) (by decide) rfl) dX9_init_59 ?_
  refine w_dup 60 hX rfl dX9_init_60 ?_
  refine w_iconst 1 61 hX (by decide) dX9_init_61 ?_
  refine w_iconst 1 62 hX (by decide) dX9_init_62 ?_
  refine w_iast (u' := e_u4) 63 hX (tkS s0_7 (by decide)) (wrK 1 1 (by decide) (by decide) (by decide) rfl) dX9_init_63 ?_
  refine w_dup 64 hX rfl dX9_init_64 ?_
  refine w_iconst 2 65 hX (by decide) dX9_init_65 ?_
  refine w_iconst 1 66 hX (by decide) dX9_init_66 ?_
  refine w_iast (u' := e_u5) 67 hX (tkS s0_7 (by decide)) (wrK 2 2 (by decide) (by decide) (by decide) rfl) dX9_init_67 ?_
  refine w_dup 68 hX rfl dX9_init_68 ?_
  refine w_iconst 3 69 hX (by decide) dX9_init_69 ?_
  refine w_iconst 1 70 hX (by decide) dX9_init_70 ?_
  refine w_iast (u' := e_u6) 71 hX (tkS s0_7 (by decide)) (wrK 3 3 (by decide) (by decide) (by decide) rfl) dX9_init_71 ?_
  refine w_dup 72 hX rfl dX9_init_72 ?_
  refine w_iconst 4 73 hX (by decide) dX9_init_73 ?_
  refine w_iconst 1 74 hX (by decide) dX9_init_74 ?_
  refine w_iast (u' := e_u7) 75 hX (tkS s0_7 (by decide)) (wrK 4 4 (by decide) (by decide) (by decide) rfl) dX9_init_75 ?_
  refine w_dup 76 hX rfl dX9_init_76 ?_
  refine w_iconst 5 77 hX (by decide) dX9_init_77 ?_
  refine w_iconst 1 78 hX (by decide) dX9_init_78 ?_
  refine w_iast (u' := e_u8) 79 hX (tkS s0_7 (by decide)) (wrK 5 5 (by decide) (by decide) (by decide) rfl) dX9_init_79 ?_
  refine w_dup 80 hX rfl dX9_init_80 ?_
  refine w_bipush 6 81 hX (by decide) dX9_init_81 ?_
  refine w_iconst 1 83 hX (by decide) dX9_init_83 ?_
  refine w_iast (u' := e_u9) 84 hX (tkS s0_7 (by decide)) (wrK 6 6 (by decide) (by decide) (by decide) rfl) dX9_init_84 ?_
  refine w_dup 85 hX rfl dX9_init_85 ?_
  refine w_bipush 7 86 hX (by decide) dX9_init_86 ?_
  refine w_iconst 1 88 hX (by decide) dX9_init_88 ?_
  refine w_iast (u' := e_u10) 89 hX (tkS s0_7 (by decide)) (wrK 7 7 (by decide) (by decide) (by decide) rfl) dX9_init_89 ?_
  refine w_putFR (j := 6) 90 hX hNm CI_9 (tkS s0_1 (by decide)) rfl fl_X9_27 rfl rfl rfl (fun _ => rfl) (fun _ => rfl) dX9_init_90 ?_
  change WM _ _ _ _ _ _ e_r6 _
  refine w_aload_n 0 93 hX rfl rfl dX9_init_93 ?_
  refine w_iconst 1 94 hX (by decide) dX9_init_94 ?_
  refine w_putI (j := 7) 95 hX CI_9 (tkS s0_1 (by decide)) rfl fl_X9_30 rfl rfl (by decide) (by decide) dX9_init_95 ?_
  change WM _ _ _ _ _ _ _ e_u11
  refine w_aload_n 0 98 hX rfl rfl dX9_init_98 ?_
  refine w_iconst 3 99 hX (by decide) dX9_init_99 ?_
  refine w_putI (j := 9) 100 hX CI_9 (tkS s0_1 (by decide)) rfl fl_X9_34 rfl rfl (by decide) (by decide) dX9_init_100 ?_
  change WM _ _ _ _ _ _ _ e_u12
  refine w_aload_n 0 103 hX rfl rfl dX9_init_103 ?_
  refine w_new 8 104 hX CI_4 (tkL (by decide)).symm (frsh (by decide) e_r6F e_u12F (by decide) (by decide)) dvW_4 cl_X9_37 insW_4 izW_4 (tkQ s0_8 (by decide)) (tkQs s0_8 (by decide)) (by rw [tkL (by decide)]; decide) (tkB s0_8) dX9_init_104 ?_
  refine w_alp s0_8 ?_
  refine w_dup 107 hX rfl dX9_init_107 ?_
  refine w_invINv (a := 8) (av := []) (st := [.ref 8, .ref 1]) 108 hX CI_4 (tkS s0_8 (by decide)) mo_yX4_init rfl mi_yX4_init ml_X9_39 KX40_8 rfl (by decide) (by decide) (tkLe (by decide)) (tkM (by decide)) dX9_init_108 ?_
  refine w_putFR (j := 13) 111 hX hNm CI_9 (tkS s0_1 (by decide)) rfl fl_X9_40 rfl rfl rfl (fun _ => rfl) (fun _ => rfl) dX9_init_111 ?_
  change WM _ _ _ _ _ _ e_r13 _
  refine w_aload_n 0 114 hX rfl rfl dX9_init_114 ?_
  refine w_new 15 115 hX CI_5 (tkL (by decide)).symm (frsh (by decide) e_r13F e_u12F (by decide) (by decide)) dvW_5 cl_X9_44 insW_5 izW_5 (tkQ s0_15 (by decide)) (tkQs s0_15 (by decide)) (by rw [tkL (by decide)]; decide) (tkB s0_15) dX9_init_115 ?_
  refine w_alp s0_15 ?_
  refine w_dup 118 hX rfl dX9_init_118 ?_
  refine w_invINv (a := 15) (av := []) (st := [.ref 15, .ref 1]) 119 hX CI_5 (tkS s0_15 (by decide)) mo_yX5_init rfl mi_yX5_init ml_X9_46 KX50_15 rfl (by decide) (by decide) (tkLe (by decide)) (tkM (by decide)) dX9_init_119 ?_
  refine w_putFR (j := 14) 122 hX hNm CI_9 (tkS s0_1 (by decide)) rfl fl_X9_47 rfl rfl rfl (fun _ => rfl) (fun _ => rfl) dX9_init_122 ?_
  change WM _ _ _ _ _ _ e_r17 _
  refine w_aload_n 0 125 hX rfl rfl dX9_init_125 ?_
  refine w_new 19 126 hX CI_8 (tkL (by decide)).symm (frsh (by decide) e_r17F e_u12F (by decide) (by decide)) dvW_8 cl_X9_51 insW_8 izW_8 (tkQ s0_19 (by decide)) (tkQs s0_19 (by decide)) (by rw [tkL (by decide)]; decide) (tkB s0_19) dX9_init_126 ?_
  refine w_alp s0_19 ?_
  refine w_dup 129 hX rfl dX9_init_129 ?_
  refine w_invINv (a := 19) (av := []) (st := [.ref 19, .ref 1]) 130 hX CI_8 (tkS s0_19 (by decide)) mo_yX8_init rfl mi_yX8_init ml_X9_53 KX80_19 rfl (by decide) (by decide) (tkLe (by decide)) (tkM (by decide)) dX9_init_130 ?_
  refine w_putFR (j := 15) 133 hX hNm CI_9 (tkS s0_1 (by decide)) rfl fl_X9_54 rfl rfl rfl (fun _ => rfl) (fun _ => rfl) dX9_init_133 ?_
  change WM _ _ _ _ _ _ e_r21 _
  exact w_vret 136 hX hR dX9_init_136 rfl)
theorem KX00_23 {G : Gt} : CT G yX0_init cX0_init 1 none 1 [.ref 23] (SH.take 24) e_r22 e_u12 (none, SH.take 30, e_r28, e_u13) :=
  ct_ofN (by decide) rfl (by decide) (tkLe (by decide)) (tkM (by decide)) (fun X hX hNm hR => by
  refine w_aload_n 0 0 hX rfl rfl dX0_init_0 ?_
  refine w_objInit 1 hX ml_X0_3 oi_i oi_c (by decide) (by decide) dX0_init_1 ?_
  refine w_aload_n 0 4 hX rfl rfl dX0_init_4 ?_
  refine w_bipush 12 5 hX (by decide) dX0_init_5 ?_
  refine w_newa (n := 12) 24 7 hX (tkL (by decide)).symm (frsh (by decide) e_r22F e_u12F (by decide) (by decide)) (by decide) (by decide) (by decide) aw_int (tkQ s0_24 (by decide)) (tkQs s0_24 (by decide)) (by rw [tkL (by decide)]; decide) (tkB s0_24) dX0_init_7 ?_
  refine w_alp s0_24 ?_
  refine w_putFR (j := 0) 9 hX hNm CI_0 (tkS s0_23 (by decide)) rfl fl_X0_9 rfl rfl rfl (fun _ => rfl) (fun _ => rfl) dX0_init_9 ?_
  change WM _ _ _ _ _ _ e_r23 _
  refine w_aload_n 0 12 hX rfl rfl dX0_init_12 ?_
  refine w_bipush 12 13 hX (by decide) dX0_init_13 ?_
  refine w_newa (n := 12) 25 15 hX (tkL (by decide)).symm (frsh (by decide) e_r23F e_u12F (by decide) (by decide)) (by decide) (by decide) (by decide) aw_int (tkQ s0_25 (by decide)) (tkQs s0_25 (by decide)) (by rw [tkL (by decide)]; decide) (tkB s0_25) dX0_init_15 ?_
  refine w_alp s0_25 ?_
  refine w_putFR (j := 1) 17 hX hNm CI_0 (tkS s0_23 (by decide)) rfl fl_X0_15 rfl rfl rfl (fun _ => rfl) (fun _ => rfl) dX0_init_17 ?_
  change WM _ _ _ _ _ _ e_r24 _
  refine w_aload_n 0 20 hX rfl rfl dX0_init_20 ?_
  refine w_bipush 12 21 hX (by decide) dX0_init_21 ?_
  refine w_newa (n := 12) 26 23 hX (tkL (by decide)).symm (frsh (by decide) e_r24F e_u12F (by decide) (by decide)) (by decide) (by decide) (by decide) aw_int (tkQ s0_26 (by decide)) (tkQs s0_26 (by decide)) (by rw [tkL (by decide)]; decide) (tkB s0_26) dX0_init_23 ?_
  refine w_alp s0_26 ?_
  refine w_putFR (j := 2) 25 hX hNm CI_0 (tkS s0_23 (by decide)) rfl fl_X0_18 rfl rfl rfl (fun _ => rfl) (fun _ => rfl) dX0_init_25 ?_
  change WM _ _ _ _ _ _ e_r25 _
  refine w_aload_n 0 28 hX rfl rfl dX0_init_28 ?_
  refine w_bipush 12 29 hX (by decide) dX0_init_29 ?_
  refine w_newa (n := 12) 27 31 hX (tkL (by decide)).symm (frsh (by decide) e_r25F e_u12F (by decide) (by decide)) (by decide) (by decide) (by decide) aw_int (tkQ s0_27 (by decide)) (tkQs s0_27 (by decide)) (by rw [tkL (by decide)]; decide) (tkB s0_27) dX0_init_31 ?_
  refine w_alp s0_27 ?_
  refine w_putFR (j := 3) 33 hX hNm CI_0 (tkS s0_23 (by decide)) rfl fl_X0_21 rfl rfl rfl (fun _ => rfl) (fun _ => rfl) dX0_init_33 ?_
  change WM _ _ _ _ _ _ e_r26 _
  refine w_aload_n 0 36 hX rfl rfl dX0_init_36 ?_
  refine w_bipush 12 37 hX (by decide) dX0_init_37 ?_
  refine w_newa (n := 12) 28 39 hX (tkL (by decide)).symm (frsh (by decide) e_r26F e_u12F (by decide) (by decide)) (by decide) (by decide) (by decide) aw_int (tkQ s0_28 (by decide)) (tkQs s0_28 (by decide)) (by rw [tkL (by decide)]; decide) (tkB s0_28) dX0_init_39 ?_
  refine w_alp s0_28 ?_
  refine w_putFR (j := 4) 41 hX hNm CI_0 (tkS s0_23 (by decide)) rfl fl_X0_24 rfl rfl rfl (fun _ => rfl) (fun _ => rfl) dX0_init_41 ?_
  change WM _ _ _ _ _ _ e_r27 _
  refine w_aload_n 0 44 hX rfl rfl dX0_init_44 ?_
  refine w_bipush 12 45 hX (by decide) dX0_init_45 ?_
  refine w_newa (n := 12) 29 47 hX (tkL (by decide)).symm (frsh (by decide) e_r27F e_u12F (by decide) (by decide)) (by decide) (by decide) (by decide) aw_int (tkQ s0_29 (by decide)) (tkQs s0_29 (by decide)) (by rw [tkL (by decide)]; decide) (tkB s0_29) dX0_init_47 ?_
  refine w_alp s0_29 ?_
  refine w_putFR (j := 5) 49 hX hNm CI_0 (tkS s0_23 (by decide)) rfl fl_X0_27 rfl rfl rfl (fun _ => rfl) (fun _ => rfl) dX0_init_49 ?_
  change WM _ _ _ _ _ _ e_r28 _
  refine w_aload_n 0 52 hX rfl rfl dX0_init_52 ?_
  refine w_iconst 1 53 hX (by decide) dX0_init_53 ?_
  refine w_putI (j := 6) 54 hX CI_0 (tkS s0_23 (by decide)) rfl fl_X0_30 rfl rfl (by decide) (by decide) dX0_init_54 ?_
  change WM _ _ _ _ _ _ _ e_u13
  exact w_vret 57 hX hR dX0_init_57 rfl)
theorem KX10_30 {G : Gt} : CT G yX1_init cX1_init 1 none 1 [.ref 30] (SH.take 31) e_r29 e_u13 (none, SH.take 32, e_r30, e_u13) :=
  ct_ofN (by decide) rfl (by decide) (tkLe (by decide)) (tkM (by decide)) (fun X hX hNm hR => by
  refine w_aload_n 0 0 hX rfl rfl dX1_init_0 ?_
  refine w_objInit 1 hX ml_X1_3 oi_i oi_c (by decide) (by decide) dX1_init_1 ?_
  refine w_aload_n 0 4 hX rfl rfl dX1_init_4 ?_
  refine w_sipush 600 5 hX (by decide) dX1_init_5 ?_
  refine w_newa (n := 600) 31 8 hX (tkL (by decide)).symm (frsh (by decide) e_r29F e_u13F (by decide) (by decide)) (by decide) (by decide) (by decide) aw_int (tkQ s0_31 (by decide)) (tkQs s0_31 (by decide)) (by rw [tkL (by decide)]; decide) (tkB s0_31) dX1_init_8 ?_
  refine w_alp s0_31 ?_
  refine w_putFR (j := 0) 10 hX hNm CI_1 (tkS s0_30 (by decide)) rfl fl_X1_11 rfl rfl rfl (fun _ => rfl) (fun _ => rfl) dX1_init_10 ?_
  change WM _ _ _ _ _ _ e_r30 _
  exact w_vret 13 hX hR dX1_init_13 rfl)
theorem KX30_32 {G : Gt} : CT G yX3_init cX3_init 5 none 1 [.ref 32, .ref 1, .ref 23, .ref 30, .int 1] (SH.take 33) e_r31 e_u13 (none, SH.take 34, e_r35, e_u14) :=
  ct_ofN (by decide) rfl (by decide) (tkLe (by decide)) (tkM (by decide)) (fun X hX hNm hR => by
  refine w_aload_n 0 0 hX rfl rfl dX3_init_0 ?_
  refine w_objInit 1 hX ml_X3_3 oi_i oi_c (by decide) (by decide) dX3_init_1 ?_
  refine w_aload_n 0 4 hX rfl rfl dX3_init_4 ?_
  refine w_bipush 9 5 hX (by decide) dX3_init_5 ?_
  refine w_newa (n := 9) 33 7 hX (tkL (by decide)).symm (frsh (by decide) e_r31F e_u13F (by decide) (by decide)) (by decide) (by decide) (by decide) aw_int (tkQ s0_33 (by decide)) (tkQs s0_33 (by decide)) (by rw [tkL (by decide)]; decide) (tkB s0_33) dX3_init_7 ?_
  refine w_alp s0_33 ?_
  refine w_putFR (j := 4) 9 hX hNm CI_3 (tkS s0_32 (by decide)) rfl fl_X3_11 rfl rfl rfl (fun _ => rfl) (fun _ => rfl) dX3_init_9 ?_
  change WM _ _ _ _ _ _ e_r32 _
  refine w_aload_n 0 12 hX rfl rfl dX3_init_12 ?_
  refine w_aload_n 1 13 hX rfl rfl dX3_init_13 ?_
  refine w_putFR (j := 0) 14 hX hNm CI_3 (tkS s0_32 (by decide)) rfl fl_X3_17 rfl rfl rfl (fun _ => rfl) (fun _ => rfl) dX3_init_14 ?_
  change WM _ _ _ _ _ _ e_r33 _
  refine w_aload_n 0 17 hX rfl rfl dX3_init_17 ?_
  refine w_aload_n 2 18 hX rfl rfl dX3_init_18 ?_
  refine w_putFR (j := 1) 19 hX hNm CI_3 (tkS s0_32 (by decide)) rfl fl_X3_21 rfl rfl rfl (fun _ => rfl) (fun _ => rfl) dX3_init_19 ?_
  change WM _ _ _ _ _ _ e_r34 _
  refine w_aload_n 0 22 hX rfl rfl dX3_init_22 ?_
  refine w_aload_n 3 23 hX rfl rfl dX3_init_23 ?_
  refine w_putFR (j := 2) 24 hX hNm CI_3 (tkS s0_32 (by decide)) rfl fl_X3_25 rfl rfl rfl (fun _ => rfl) (fun _ => rfl) dX3_init_24 ?_
  change WM _ _ _ _ _ _ e_r35 _
  refine w_aload_n 0 27 hX rfl rfl dX3_init_27 ?_
  refine w_iload 4 28 hX rfl dX3_init_28 ?_
  refine w_putFI (j := 3) 30 hX hNm CI_3 (tkS s0_32 (by decide)) rfl fl_X3_29 rfl rfl rfl (by decide) (by decide) dX3_init_30 ?_
  change WM _ _ _ _ _ _ _ e_u14
  exact w_vret 33 hX hR dX3_init_33 rfl)
theorem KX40_39 {G : Gt} : CT G yX4_init cX4_init 1 none 1 [.ref 39] (SH.take 40) e_r40 e_u14 (none, SH.take 46, e_r46, e_u14) :=
  ct_ofN (by decide) rfl (by decide) (tkLe (by decide)) (tkM (by decide)) (fun X hX hNm hR => by
  refine w_aload_n 0 0 hX rfl rfl dX4_init_0 ?_
  refine w_objInit 1 hX ml_X4_3 oi_i oi_c (by decide) (by decide) dX4_init_1 ?_
  refine w_aload_n 0 4 hX rfl rfl dX4_init_4 ?_
  refine w_sipush 400 5 hX (by decide) dX4_init_5 ?_
  refine w_newa (n := 400) 40 8 hX (tkL (by decide)).symm (frsh (by decide) e_r40F e_u14F (by decide) (by decide)) (by decide) (by decide) (by decide) aw_int (tkQ s0_40 (by decide)) (tkQs s0_40 (by decide)) (by rw [tkL (by decide)]; decide) (tkB s0_40) dX4_init_8 ?_
  refine w_alp s0_40 ?_
  refine w_putFR (j := 0) 10 hX hNm CI_4 (tkS s0_39 (by decide)) rfl fl_X4_9 rfl rfl rfl (fun _ => rfl) (fun _ => rfl) dX4_init_10 ?_
  change WM _ _ _ _ _ _ e_r41 _
  refine w_aload_n 0 13 hX rfl rfl dX4_init_13 ?_
  refine w_bipush 16 14 hX (by decide) dX4_init_14 ?_
  refine w_newa (n := 16) 41 16 hX (tkL (by decide)).symm (frsh (by decide) e_r41F e_u14F (by decide) (by decide)) (by decide) (by decide) (by decide) aw_int (tkQ s0_41 (by decide)) (tkQs s0_41 (by decide)) (by rw [tkL (by decide)]; decide) (tkB s0_41) dX4_init_16 ?_
  refine w_alp s0_41 ?_
  refine w_putFR (j := 1) 18 hX hNm CI_4 (tkS s0_39 (by decide)) rfl fl_X4_15 rfl rfl rfl (fun _ => rfl) (fun _ => rfl) dX4_init_18 ?_
  change WM _ _ _ _ _ _ e_r42 _
  refine w_aload_n 0 21 hX rfl rfl dX4_init_21 ?_
  refine w_bipush 16 22 hX (by decide) dX4_init_22 ?_
  refine w_newa (n := 16) 42 24 hX (tkL (by decide)).symm (frsh (by decide) e_r42F e_u14F (by decide) (by decide)) (by decide) (by decide) (by decide) aw_int (tkQ s0_42 (by decide)) (tkQs s0_42 (by decide)) (by rw [tkL (by decide)]; decide) (tkB s0_42) dX4_init_24 ?_
  refine w_alp s0_42 ?_
  refine w_putFR (j := 2) 26 hX hNm CI_4 (tkS s0_39 (by decide)) rfl fl_X4_18 rfl rfl rfl (fun _ => rfl) (fun _ => rfl) dX4_init_26 ?_
  change WM _ _ _ _ _ _ e_r43 _
  refine w_aload_n 0 29 hX rfl rfl dX4_init_29 ?_
  refine w_bipush 16 30 hX (by decide) dX4_init_30 ?_
  refine w_newa (n := 16) 43 32 hX (tkL (by decide)).symm (frsh (by decide) e_r43F e_u14F (by decide) (by decide)) (by decide) (by decide) (by decide) aw_int (tkQ s0_43 (by decide)) (tkQs s0_43 (by decide)) (by rw [tkL (by decide)]; decide) (tkB s0_43) dX4_init_32 ?_
  refine w_alp s0_43 ?_
  refine w_putFR (j := 3) 34 hX hNm CI_4 (tkS s0_39 (by decide)) rfl fl_X4_21 rfl rfl rfl (fun _ => rfl) (fun _ => rfl) dX4_init_34 ?_
  change WM _ _ _ _ _ _ e_r44 _
  refine w_aload_n 0 37 hX rfl rfl dX4_init_37 ?_
  refine w_bipush 16 38 hX (by decide) dX4_init_38 ?_
  refine w_newa (n := 16) 44 40 hX (tkL (by decide)).symm (frsh (by decide) e_r44F e_u14F (by decide) (by decide)) (by decide) (by decide) (by decide) aw_int (tkQ s0_44 (by decide)) (tkQs s0_44 (by decide)) (by rw [tkL (by decide)]; decide) (tkB s0_44) dX4_init_40 ?_
  refine w_alp s0_44 ?_
  refine w_putFR (j := 4) 42 hX hNm CI_4 (tkS s0_39 (by decide)) rfl fl_X4_24 rfl rfl rfl (fun _ => rfl) (fun _ => rfl) dX4_init_42 ?_
  change WM _ _ _ _ _ _ e_r45 _
  refine w_aload_n 0 45 hX rfl rfl dX4_init_45 ?_
  refine w_bipush 32 46 hX (by decide) dX4_init_46 ?_
  refine w_newa (n := 32) 45 48 hX (tkL (by decide)).symm (frsh (by decide) e_r45F e_u14F (by decide) (by decide)) (by decide) (by decide) (by decide) aw_int (tkQ s0_45 (by decide)) (tkQs s0_45 (by decide)) (by rw [tkL (by decide)]; decide) (tkB s0_45) dX4_init_48 ?_
  refine w_alp s0_45 ?_
  refine w_putFR (j := 5) 50 hX hNm CI_4 (tkS s0_39 (by decide)) rfl fl_X4_27 rfl rfl rfl (fun _ => rfl) (fun _ => rfl) dX4_init_50 ?_
  change WM _ _ _ _ _ _ e_r46 _
  exact w_vret 53 hX hR dX4_init_53 rfl)
theorem KX50_46 {G : Gt} : CT G yX5_init cX5_init 1 none 1 [.ref 46] (SH.take 47) e_r47 e_u14 (none, SH.take 50, e_r50, e_u14) :=
  ct_ofN (by decide) rfl (by decide) (tkLe (by decide)) (tkM (by decide)) (fun X hX hNm hR => by
  refine w_aload_n 0 0 hX rfl rfl dX5_init_0 ?_
  refine w_objInit 1 hX ml_X5_3 oi_i oi_c (by decide) (by decide) dX5_init_1 ?_
  refine w_aload_n 0 4 hX rfl rfl dX5_init_4 ?_
  refine w_bipush 16 5 hX (by decide) dX5_init_5 ?_
  refine w_newa (n := 16) 47 7 hX (tkL (by decide)).symm (frsh (by decide) e_r47F e_u14F (by decide) (by decide)) (by decide) (by decide) (by decide) aw_int (tkQ s0_47 (by decide)) (tkQs s0_47 (by decide)) (by rw [tkL (by decide)]; decide) (tkB s0_47) dX5_init_7 ?_
  refine w_alp s0_47 ?_
  refine w_putFR (j := 0) 9 hX hNm CI_5 (tkS s0_46 (by decide)) rfl fl_X5_9 rfl rfl rfl (fun _ => rfl) (fun _ => rfl) dX5_init_9 ?_
  change WM _ _ _ _ _ _ e_r48 _
  refine w_aload_n 0 12 hX rfl rfl dX5_init_12 ?_
  refine w_bipush 16 13 hX (by decide) dX5_init_13 ?_
  refine w_newa (n := 16) 48 15 hX (tkL (by decide)).symm (frsh (by decide) e_r48F e_u14F (by decide) (by decide)) (by decide) (by decide) (by decide) aw_int (tkQ s0_48 (by decide)) (tkQs s0_48 (by decide)) (by rw [tkL (by decide)]; decide) (tkB s0_48) dX5_init_15 ?_
  refine w_alp s0_48 ?_
  refine w_putFR (j := 1) 17 hX hNm CI_5 (tkS s0_46 (by decide)) rfl fl_X5_15 rfl rfl rfl (fun _ => rfl) (fun _ => rfl) dX5_init_17 ?_
  change WM _ _ _ _ _ _ e_r49 _
  refine w_aload_n 0 20 hX rfl rfl dX5_init_20 ?_
  refine w_bipush 16 21 hX (by decide) dX5_init_21 ?_
  refine w_newa (n := 16) 49 23 hX (tkL (by decide)).symm (frsh (by decide) e_r49F e_u14F (by decide) (by decide)) (by decide) (by decide) (by decide) aw_int (tkQ s0_49 (by decide)) (tkQs s0_49 (by decide)) (by rw [tkL (by decide)]; decide) (tkB s0_49) dX5_init_23 ?_
  refine w_alp s0_49 ?_
  refine w_putFR (j := 2) 25 hX hNm CI_5 (tkS s0_46 (by decide)) rfl fl_X5_18 rfl rfl rfl (fun _ => rfl) (fun _ => rfl) dX5_init_25 ?_
  change WM _ _ _ _ _ _ e_r50 _
  exact w_vret 28 hX hR dX5_init_28 rfl)
theorem KX60_34 {G : Gt} : CT G yX6_init cX6_init 1 none 2 [.ref 34] (SH.take 35) e_r36 e_u14 (none, SH.take 52, e_r53, e_u15) :=
  ct_ofN (by decide) rfl (by decide) (tkLe (by decide)) (tkM (by decide)) (fun X hX hNm hR => by
  refine w_aload_n 0 0 hX rfl rfl dX6_init_0 ?_
  refine w_objInit 1 hX ml_X6_5 oi_i oi_c (by decide) (by decide) dX6_init_1 ?_
  refine w_aload_n 0 4 hX rfl rfl dX6_init_4 ?_
  refine w_sipush 400 5 hX (by decide) dX6_init_5 ?_
  refine w_newa (n := 400) 35 8 hX (tkL (by decide)).symm (frsh (by decide) e_r36F e_u14F (by decide) (by decide)) (by decide) (by decide) (by decide) aw_int (tkQ s0_35 (by decide)) (tkQs s0_35 (by decide)) (by rw [tkL (by decide)]; decide) (tkB s0_35) dX6_init_8 ?_
  refine w_alp s0_35 ?_
  refine w_putFR (j := 0) 10 hX hNm CI_6 (tkS s0_34 (by decide)) rfl fl_X6_11 rfl rfl rfl (fun _ => rfl) (fun _ => rfl) dX6_init_10 ?_
  change WM _ _ _ _ _ _ e_r37 _
  refine w_aload_n 0 13 hX rfl rfl dX6_init_13 ?_
  refine w_sipush 401 14 hX (by decide) dX6_init_14 ?_
  refine w_newa (n := 401) 36 17 hX (tkL (by decide)).symm (frsh (by decide) e_r37F e_u14F (by decide) (by decide)) (by decide) (by decide) (by decide) aw_int (tkQ s0_36 (by decide)) (tkQs s0_36 (by decide)) (by rw [tkL (by decide)]; decide) (tkB s0_36) dX6_init_17 ?_
  refine w_alp s0_36 ?_
  refine w_putFR (j := 1) 19 hX hNm CI_6 (tkS s0_34 (by decide)) rfl fl_X6_15 rfl rfl rfl (fun _ => rfl) (fun _ => rfl) dX6_init_19 ?_
  change WM _ _ _ _ _ _ e_r38 _
  refine w_aload_n 0 22 hX rfl rfl dX6_init_22 ?_
  refine w_sipush 401 23 hX (by decide) dX6_init_23 ?_
  refine w_newa (n := 401) 37 26 hX (tkL (by decide)).symm (frsh (by decide) e_r38F e_u14F (by decide) (by decide)) (by decide) (by decide) (by decide) aw_int (tkQ s0_37 (by decide)) (tkQs s0_37 (by decide)) (by rw [tkL (by decide)]; decide) (tkB s0_37) dX6_init_26 ?_
  refine w_alp s0_37 ?_
  refine w_putFR (j := 2) 28 hX hNm CI_6 (tkS s0_34 (by decide)) rfl fl_X6_18 rfl rfl rfl (fun _ => rfl) (fun _ => rfl) dX6_init_28 ?_
  change WM _ _ _ _ _ _ e_r39 _
  refine w_aload_n 0 31 hX rfl rfl dX6_init_31 ?_
  refine w_sipush 401 32 hX (by decide) dX6_init_32 ?_
  refine w_newa (n := 401) 38 35 hX (tkL (by decide)).symm (frsh (by decide) e_r39F e_u14F (by decide) (by decide)) (by decide) (by decide) (by decide) aw_int (tkQ s0_38 (by decide)) (tkQs s0_38 (by decide)) (by rw [tkL (by decide)]; decide) (tkB s0_38) dX6_init_35 ?_
  refine w_alp s0_38 ?_
  refine w_putFR (j := 3) 37 hX hNm CI_6 (tkS s0_34 (by decide)) rfl fl_X6_21 rfl rfl rfl (fun _ => rfl) (fun _ => rfl) dX6_init_37 ?_
  change WM _ _ _ _ _ _ e_r40 _
  refine w_aload_n 0 40 hX rfl rfl dX6_init_40 ?_
  refine w_new 39 41 hX CI_4 (tkL (by decide)).symm (frsh (by decide) e_r40F e_u14F (by decide) (by decide)) dvW_4 cl_X6_24 insW_4 izW_4 (tkQ s0_39 (by decide)) (tkQs s0_39 (by decide)) (by rw [tkL (by decide)]; decide) (tkB s0_39) dX6_init_41 ?_
  refine w_alp s0_39 ?_
  refine w_dup 44 hX rfl dX6_init_44 ?_
  refine w_invINv (a := 39) (av := []) (st := [.ref 39, .ref 34]) 45 hX CI_4 (tkS s0_39 (by decide)) mo_yX4_init rfl mi_yX4_init ml_X6_26 KX40_39 rfl (by decide) (by decide) (tkLe (by decide)) (tkM (by decide)) dX6_init_45 ?_
  refine w_putFR (j := 4) 48 hX hNm CI_6 (tkS s0_34 (by decide)) rfl fl_X6_27 rfl rfl rfl (fun _ => rfl) (fun _ => rfl) dX6_init_48 ?_
  change WM _ _ _ _ _ _ e_r47 _
  refine w_aload_n 0 51 hX rfl rfl dX6_init_51 ?_
  refine w_new 46 52 hX CI_5 (tkL (by decide)).symm (frsh (by decide) e_r47F e_u14F (by decide) (by decide)) dvW_5 cl_X6_31 insW_5 izW_5 (tkQ s0_46 (by decide)) (tkQs s0_46 (by decide)) (by rw [tkL (by decide)]; decide) (tkB s0_46) dX6_init_52 ?_
  refine w_alp s0_46 ?_
  refine w_dup 55 hX rfl dX6_init_55 ?_
  refine w_invINv (a := 46) (av := []) (st := [.ref 46, .ref 34]) 56 hX CI_5 (tkS s0_46 (by decide)) mo_yX5_init rfl mi_yX5_init ml_X6_33 KX50_46 rfl (by decide) (by decide) (tkLe (by decide)) (tkM (by decide)) dX6_init_56 ?_
  refine w_putFR (j := 5) 59 hX hNm CI_6 (tkS s0_34 (by decide)) rfl fl_X6_34 rfl rfl rfl (fun _ => rfl) (fun _ => rfl) dX6_init_59 ?_
  change WM _ _ _ _ _ _ e_r51 _
  refine w_aload_n 0 62 hX rfl rfl dX6_init_62 ?_
  refine w_bipush 12 63 hX (by decide) dX6_init_63 ?_
  refine w_newa (n := 12) 50 65 hX (tkL (by decide)).symm (frsh (by decide) e_r51F e_u14F (by decide) (by decide)) (by decide) (by decide) (by decide) aw_int (tkQ s0_50 (by decide)) (tkQs s0_50 (by decide)) (by rw [tkL (by decide)]; decide) (tkB s0_50) dX6_init_65 ?_
  refine w_alp s0_50 ?_
  refine w_putFR (j := 6) 67 hX hNm CI_6 (tkS s0_34 (by decide)) rfl fl_X6_38 rfl rfl rfl (fun _ => rfl) (fun _ => rfl) dX6_init_67 ?_
  change WM _ _ _ _ _ _ e_r52 _
  refine w_aload_n 0 70 hX rfl rfl dX6_init_70 ?_
  refine w_bipush 8 71 hX (by decide) dX6_init_71 ?_
  refine w_newa (n := 8) 51 73 hX (tkL (by decide)).symm (frsh (by decide) e_r52F e_u14F (by decide) (by decide)) (by decide) (by decide) (by decide) aw_int (tkQ s0_51 (by decide)) (tkQs s0_51 (by decide)) (by rw [tkL (by decide)]; decide) (tkB s0_51) dX6_init_73 ?_
  refine w_alp s0_51 ?_
  refine w_putFR (j := 7) 75 hX hNm CI_6 (tkS s0_34 (by decide)) rfl fl_X6_41 rfl rfl rfl (fun _ => rfl) (fun _ => rfl) dX6_init_75 ?_
  change WM _ _ _ _ _ _ e_r53 _
  refine w_aload_n 0 78 hX rfl rfl dX6_init_78 ?_
  refine w_iconst (-1) 79 hX (by decide) dX6_init_79 ?_
  refine w_putI (j := 14) 80 hX CI_6 (tkS s0_34 (by decide)) rfl fl_X6_44 rfl rfl (by decide) (by decide) dX6_init_80 ?_
  change WM _ _ _ _ _ _ _ e_u15
  exact w_vret 83 hX hR dX6_init_83 rfl)
theorem KX00_54 {G : Gt} : CT G yX0_init cX0_init 1 none 1 [.ref 54] (SH.take 55) e_r55 e_u15 (none, SH.take 61, e_r61, e_u16) :=
  ct_ofN (by decide) rfl (by decide) (tkLe (by decide)) (tkM (by decide)) (fun X hX hNm hR => by
  refine w_aload_n 0 0 hX rfl rfl dX0_init_0 ?_
  refine w_objInit 1 hX ml_X0_3 oi_i oi_c (by decide) (by decide) dX0_init_1 ?_
  refine w_aload_n 0 4 hX rfl rfl dX0_init_4 ?_
  refine w_bipush 12 5 hX (by decide) dX0_init_5 ?_
  refine w_newa (n := 12) 55 7 hX (tkL (by decide)).symm (frsh (by decide) e_r55F e_u15F (by decide) (by decide)) (by decide) (by decide) (by decide) aw_int (tkQ s0_55 (by decide)) (tkQs s0_55 (by decide)) (by rw [tkL (by decide)]; decide) (tkB s0_55) dX0_init_7 ?_
  refine w_alp s0_55 ?_
  refine w_putFR (j := 0) 9 hX hNm CI_0 (tkS s0_54 (by decide)) rfl fl_X0_9 rfl rfl rfl (fun _ => rfl) (fun _ => rfl) dX0_init_9 ?_
  change WM _ _ _ _ _ _ e_r56 _
  refine w_aload_n 0 12 hX rfl rfl dX0_init_12 ?_
  refine w_bipush 12 13 hX (by decide) dX0_init_13 ?_
  refine w_newa (n := 12) 56 15 hX (tkL (by decide)).symm (frsh (by decide) e_r56F e_u15F (by decide) (by decide)) (by decide) (by decide) (by decide) aw_int (tkQ s0_56 (by decide)) (tkQs s0_56 (by decide)) (by rw [tkL (by decide)]; decide) (tkB s0_56) dX0_init_15 ?_
  refine w_alp s0_56 ?_
  refine w_putFR (j := 1) 17 hX hNm CI_0 (tkS s0_54 (by decide)) rfl fl_X0_15 rfl rfl rfl (fun _ => rfl) (fun _ => rfl) dX0_init_17 ?_
  change WM _ _ _ _ _ _ e_r57 _
  refine w_aload_n 0 20 hX rfl rfl dX0_init_20 ?_
  refine w_bipush 12 21 hX (by decide) dX0_init_21 ?_
  refine w_newa (n := 12) 57 23 hX (tkL (by decide)).symm (frsh (by decide) e_r57F e_u15F (by decide) (by decide)) (by decide) (by decide) (by decide) aw_int (tkQ s0_57 (by decide)) (tkQs s0_57 (by decide)) (by rw [tkL (by decide)]; decide) (tkB s0_57) dX0_init_23 ?_
  refine w_alp s0_57 ?_
  refine w_putFR (j := 2) 25 hX hNm CI_0 (tkS s0_54 (by decide)) rfl fl_X0_18 rfl rfl rfl (fun _ => rfl) (fun _ => rfl) dX0_init_25 ?_
  change WM _ _ _ _ _ _ e_r58 _
  refine w_aload_n 0 28 hX rfl rfl dX0_init_28 ?_
  refine w_bipush 12 29 hX (by decide) dX0_init_29 ?_
  refine w_newa (n := 12) 58 31 hX (tkL (by decide)).symm (frsh (by decide) e_r58F e_u15F (by decide) (by decide)) (by decide) (by decide) (by decide) aw_int (tkQ s0_58 (by decide)) (tkQs s0_58 (by decide)) (by rw [tkL (by decide)]; decide) (tkB s0_58) dX0_init_31 ?_
  refine w_alp s0_58 ?_
  refine w_putFR (j := 3) 33 hX hNm CI_0 (tkS s0_54 (by decide)) rfl fl_X0_21 rfl rfl rfl (fun _ => rfl) (fun _ => rfl) dX0_init_33 ?_
  change WM _ _ _ _ _ _ e_r59 _
  refine w_aload_n 0 36 hX rfl rfl dX0_init_36 ?_
  refine w_bipush 12 37 hX (by decide) dX0_init_37 ?_
  refine w_newa (n := 12) 59 39 hX (tkL (by decide)).symm (frsh (by decide) e_r59F e_u15F (by decide) (by decide)) (by decide) (by decide) (by decide) aw_int (tkQ s0_59 (by decide)) (tkQs s0_59 (by decide)) (by rw [tkL (by decide)]; decide) (tkB s0_59) dX0_init_39 ?_
  refine w_alp s0_59 ?_
  refine w_putFR (j := 4) 41 hX hNm CI_0 (tkS s0_54 (by decide)) rfl fl_X0_24 rfl rfl rfl (fun _ => rfl) (fun _ => rfl) dX0_init_41 ?_
  change WM _ _ _ _ _ _ e_r60 _
  refine w_aload_n 0 44 hX rfl rfl dX0_init_44 ?_
  refine w_bipush 12 45 hX (by decide) dX0_init_45 ?_
  refine w_newa (n := 12) 60 47 hX (tkL (by decide)).symm (frsh (by decide) e_r60F e_u15F (by decide) (by decide)) (by decide) (by decide) (by decide) aw_int (tkQ s0_60 (by decide)) (tkQs s0_60 (by decide)) (by rw [tkL (by decide)]; decide) (tkB s0_60) dX0_init_47 ?_
  refine w_alp s0_60 ?_
  refine w_putFR (j := 5) 49 hX hNm CI_0 (tkS s0_54 (by decide)) rfl fl_X0_27 rfl rfl rfl (fun _ => rfl) (fun _ => rfl) dX0_init_49 ?_
  change WM _ _ _ _ _ _ e_r61 _
  refine w_aload_n 0 52 hX rfl rfl dX0_init_52 ?_
  refine w_iconst 1 53 hX (by decide) dX0_init_53 ?_
  refine w_putI (j := 6) 54 hX CI_0 (tkS s0_54 (by decide)) rfl fl_X0_30 rfl rfl (by decide) (by decide) dX0_init_54 ?_
  change WM _ _ _ _ _ _ _ e_u16
  exact w_vret 57 hX hR dX0_init_57 rfl)
theorem KX00_61 {G : Gt} : CT G yX0_init cX0_init 1 none 1 [.ref 61] (SH.take 62) e_r62 e_u16 (none, SH.take 68, e_r68, e_u17) :=
  ct_ofN (by decide) rfl (by decide) (tkLe (by decide)) (tkM (by decide)) (fun X hX hNm hR => by
  refine w_aload_n 0 0 hX rfl rfl dX0_init_0 ?_
  refine w_objInit 1 hX ml_X0_3 oi_i oi_c (by decide) (by decide) dX0_init_1 ?_
  refine w_aload_n 0 4 hX rfl rfl dX0_init_4 ?_
  refine w_bipush 12 5 hX (by decide) dX0_init_5 ?_
  refine w_newa (n := 12) 62 7 hX (tkL (by decide)).symm (frsh (by decide) e_r62F e_u16F (by decide) (by decide)) (by decide) (by decide) (by decide) aw_int (tkQ s0_62 (by decide)) (tkQs s0_62 (by decide)) (by rw [tkL (by decide)]; decide) (tkB s0_62) dX0_init_7 ?_
  refine w_alp s0_62 ?_
  refine w_putFR (j := 0) 9 hX hNm CI_0 (tkS s0_61 (by decide)) rfl fl_X0_9 rfl rfl rfl (fun _ => rfl) (fun _ => rfl) dX0_init_9 ?_
  change WM _ _ _ _ _ _ e_r63 _
  refine w_aload_n 0 12 hX rfl rfl dX0_init_12 ?_
  refine w_bipush 12 13 hX (by decide) dX0_init_13 ?_
  refine w_newa (n := 12) 63 15 hX (tkL (by decide)).symm (frsh (by decide) e_r63F e_u16F (by decide) (by decide)) (by decide) (by decide) (by decide) aw_int (tkQ s0_63 (by decide)) (tkQs s0_63 (by decide)) (by rw [tkL (by decide)]; decide) (tkB s0_63) dX0_init_15 ?_
  refine w_alp s0_63 ?_
  refine w_putFR (j := 1) 17 hX hNm CI_0 (tkS s0_61 (by decide)) rfl fl_X0_15 rfl rfl rfl (fun _ => rfl) (fun _ => rfl) dX0_init_17 ?_
  change WM _ _ _ _ _ _ e_r64 _
  refine w_aload_n 0 20 hX rfl rfl dX0_init_20 ?_
  refine w_bipush 12 21 hX (by decide) dX0_init_21 ?_
  refine w_newa (n := 12) 64 23 hX (tkL (by decide)).symm (frsh (by decide) e_r64F e_u16F (by decide) (by decide)) (by decide) (by decide) (by decide) aw_int (tkQ s0_64 (by decide)) (tkQs s0_64 (by decide)) (by rw [tkL (by decide)]; decide) (tkB s0_64) dX0_init_23 ?_
  refine w_alp s0_64 ?_
  refine w_putFR (j := 2) 25 hX hNm CI_0 (tkS s0_61 (by decide)) rfl fl_X0_18 rfl rfl rfl (fun _ => rfl) (fun _ => rfl) dX0_init_25 ?_
  change WM _ _ _ _ _ _ e_r65 _
  refine w_aload_n 0 28 hX rfl rfl dX0_init_28 ?_
  refine w_bipush 12 29 hX (by decide) dX0_init_29 ?_
  refine w_newa (n := 12) 65 31 hX (tkL (by decide)).symm (frsh (by decide) e_r65F e_u16F (by decide) (by decide)) (by decide) (by decide) (by decide) aw_int (tkQ s0_65 (by decide)) (tkQs s0_65 (by decide)) (by rw [tkL (by decide)]; decide) (tkB s0_65) dX0_init_31 ?_
  refine w_alp s0_65 ?_
  refine w_putFR (j := 3) 33 hX hNm CI_0 (tkS s0_61 (by decide)) rfl fl_X0_21 rfl rfl rfl (fun _ => rfl) (fun _ => rfl) dX0_init_33 ?_
  change WM _ _ _ _ _ _ e_r66 _
  refine w_aload_n 0 36 hX rfl rfl dX0_init_36 ?_
  refine w_bipush 12 37 hX (by decide) dX0_init_37 ?_
  refine w_newa (n := 12) 66 39 hX (tkL (by decide)).symm (frsh (by decide) e_r66F e_u16F (by decide) (by decide)) (by decide) (by decide) (by decide) aw_int (tkQ s0_66 (by decide)) (tkQs s0_66 (by decide)) (by rw [tkL (by decide)]; decide) (tkB s0_66) dX0_init_39 ?_
  refine w_alp s0_66 ?_
  refine w_putFR (j := 4) 41 hX hNm CI_0 (tkS s0_61 (by decide)) rfl fl_X0_24 rfl rfl rfl (fun _ => rfl) (fun _ => rfl) dX0_init_41 ?_
  change WM _ _ _ _ _ _ e_r67 _
  refine w_aload_n 0 44 hX rfl rfl dX0_init_44 ?_
  refine w_bipush 12 45 hX (by decide) dX0_init_45 ?_
  refine w_newa (n := 12) 67 47 hX (tkL (by decide)).symm (frsh (by decide) e_r67F e_u16F (by decide) (by decide)) (by decide) (by decide) (by decide) aw_int (tkQ s0_67 (by decide)) (tkQs s0_67 (by decide)) (by rw [tkL (by decide)]; decide) (tkB s0_67) dX0_init_47 ?_
  refine w_alp s0_67 ?_
  refine w_putFR (j := 5) 49 hX hNm CI_0 (tkS s0_61 (by decide)) rfl fl_X0_27 rfl rfl rfl (fun _ => rfl) (fun _ => rfl) dX0_init_49 ?_
  change WM _ _ _ _ _ _ e_r68 _
  refine w_aload_n 0 52 hX rfl rfl dX0_init_52 ?_
  refine w_iconst 1 53 hX (by decide) dX0_init_53 ?_
  refine w_putI (j := 6) 54 hX CI_0 (tkS s0_61 (by decide)) rfl fl_X0_30 rfl rfl (by decide) (by decide) dX0_init_54 ?_
  change WM _ _ _ _ _ _ _ e_u17
  exact w_vret 57 hX hR dX0_init_57 rfl)
theorem KX00_68 {G : Gt} : CT G yX0_init cX0_init 1 none 1 [.ref 68] (SH.take 69) e_r69 e_u17 (none, SH.take 75, e_r75, e_u18) :=
  ct_ofN (by decide) rfl (by decide) (tkLe (by decide)) (tkM (by decide)) (fun X hX hNm hR => by
  refine w_aload_n 0 0 hX rfl rfl dX0_init_0 ?_
  refine w_objInit 1 hX ml_X0_3 oi_i oi_c (by decide) (by decide) dX0_init_1 ?_
  refine w_aload_n 0 4 hX rfl rfl dX0_init_4 ?_
  refine w_bipush 12 5 hX (by decide) dX0_init_5 ?_
  refine w_newa (n := 12) 69 7 hX (tkL (by decide)).symm (frsh (by decide) e_r69F e_u17F (by decide) (by decide)) (by decide) (by decide) (by decide) aw_int (tkQ s0_69 (by decide)) (tkQs s0_69 (by decide)) (by rw [tkL (by decide)]; decide) (tkB s0_69) dX0_init_7 ?_
  refine w_alp s0_69 ?_
  refine w_putFR (j := 0) 9 hX hNm CI_0 (tkS s0_68 (by decide)) rfl fl_X0_9 rfl rfl rfl (fun _ => rfl) (fun _ => rfl) dX0_init_9 ?_
  change WM _ _ _ _ _ _ e_r70 _
  refine w_aload_n 0 12 hX rfl rfl dX0_init_12 ?_
  refine w_bipush 12 13 hX (by decide) dX0_init_13 ?_
  refine w_newa (n := 12) 70 15 hX (tkL (by decide)).symm (frsh (by decide) e_r70F e_u17F (by decide) (by decide)) (by decide) (by decide) (by decide) aw_int (tkQ s0_70 (by decide)) (tkQs s0_70 (by decide)) (by rw [tkL (by decide)]; decide) (tkB s0_70) dX0_init_15 ?_
  refine w_alp s0_70 ?_
  refine w_putFR (j := 1) 17 hX hNm CI_0 (tkS s0_68 (by decide)) rfl fl_X0_15 rfl rfl rfl (fun _ => rfl) (fun _ => rfl) dX0_init_17 ?_
  change WM _ _ _ _ _ _ e_r71 _
  refine w_aload_n 0 20 hX rfl rfl dX0_init_20 ?_
  refine w_bipush 12 21 hX (by decide) dX0_init_21 ?_
  refine w_newa (n := 12) 71 23 hX (tkL (by decide)).symm (frsh (by decide) e_r71F e_u17F (by decide) (by decide)) (by decide) (by decide) (by decide) aw_int (tkQ s0_71 (by decide)) (tkQs s0_71 (by decide)) (by rw [tkL (by decide)]; decide) (tkB s0_71) dX0_init_23 ?_
  refine w_alp s0_71 ?_
  refine w_putFR (j := 2) 25 hX hNm CI_0 (tkS s0_68 (by decide)) rfl fl_X0_18 rfl rfl rfl (fun _ => rfl) (fun _ => rfl) dX0_init_25 ?_
  change WM _ _ _ _ _ _ e_r72 _
  refine w_aload_n 0 28 hX rfl rfl dX0_init_28 ?_
  refine w_bipush 12 29 hX (by decide) dX0_init_29 ?_
  refine w_newa (n := 12) 72 31 hX (tkL (by decide)).symm (frsh (by decide) e_r72F e_u17F (by decide) (by decide)) (by decide) (by decide) (by decide) aw_int (tkQ s0_72 (by decide)) (tkQs s0_72 (by decide)) (by rw [tkL (by decide)]; decide) (tkB s0_72) dX0_init_31 ?_
  refine w_alp s0_72 ?_
  refine w_putFR (j := 3) 33 hX hNm CI_0 (tkS s0_68 (by decide)) rfl fl_X0_21 rfl rfl rfl (fun _ => rfl) (fun _ => rfl) dX0_init_33 ?_
  change WM _ _ _ _ _ _ e_r73 _
  refine w_aload_n 0 36 hX rfl rfl dX0_init_36 ?_
  refine w_bipush 12 37 hX (by decide) dX0_init_37 ?_
  refine w_newa (n := 12) 73 39 hX (tkL (by decide)).symm (frsh (by decide) e_r73F e_u17F (by decide) (by decide)) (by decide) (by decide) (by decide) aw_int (tkQ s0_73 (by decide)) (tkQs s0_73 (by decide)) (by rw [tkL (by decide)]; decide) (tkB s0_73) dX0_init_39 ?_
  refine w_alp s0_73 ?_
  refine w_putFR (j := 4) 41 hX hNm CI_0 (tkS s0_68 (by decide)) rfl fl_X0_24 rfl rfl rfl (fun _ => rfl) (fun _ => rfl) dX0_init_41 ?_
  change WM _ _ _ _ _ _ e_r74 _
  refine w_aload_n 0 44 hX rfl rfl dX0_init_44 ?_
  refine w_bipush 12 45 hX (by decide) dX0_init_45 ?_
  refine w_newa (n := 12) 74 47 hX (tkL (by decide)).symm (frsh (by decide) e_r74F e_u17F (by decide) (by decide)) (by decide) (by decide) (by decide) aw_int (tkQ s0_74 (by decide)) (tkQs s0_74 (by decide)) (by rw [tkL (by decide)]; decide) (tkB s0_74) dX0_init_47 ?_
  refine w_alp s0_74 ?_
  refine w_putFR (j := 5) 49 hX hNm CI_0 (tkS s0_68 (by decide)) rfl fl_X0_27 rfl rfl rfl (fun _ => rfl) (fun _ => rfl) dX0_init_49 ?_
  change WM _ _ _ _ _ _ e_r75 _
  refine w_aload_n 0 52 hX rfl rfl dX0_init_52 ?_
  refine w_iconst 1 53 hX (by decide) dX0_init_53 ?_
  refine w_putI (j := 6) 54 hX CI_0 (tkS s0_68 (by decide)) rfl fl_X0_30 rfl rfl (by decide) (by decide) dX0_init_54 ?_
  change WM _ _ _ _ _ _ _ e_u18
  exact w_vret 57 hX hR dX0_init_57 rfl)
theorem KX00_75 {G : Gt} : CT G yX0_init cX0_init 1 none 1 [.ref 75] (SH.take 76) e_r76 e_u18 (none, SH.take 82, e_r82, e_u19) :=
  ct_ofN (by decide) rfl (by decide) (tkLe (by decide)) (tkM (by decide)) (fun X hX hNm hR => by
  refine w_aload_n 0 0 hX rfl rfl dX0_init_0 ?_
  refine w_objInit 1 hX ml_X0_3 oi_i oi_c (by decide) (by decide) dX0_init_1 ?_
  refine w_aload_n 0 4 hX rfl rfl dX0_init_4 ?_
  refine w_bipush 12 5 hX (by decide) dX0_init_5 ?_
  refine w_newa (n := 12) 76 7 hX (tkL (by decide)).symm (frsh (by decide) e_r76F e_u18F (by decide) (by decide)) (by decide) (by decide) (by decide) aw_int (tkQ s0_76 (by decide)) (tkQs s0_76 (by decide)) (by rw [tkL (by decide)]; decide) (tkB s0_76) dX0_init_7 ?_
  refine w_alp s0_76 ?_
  refine w_putFR (j := 0) 9 hX hNm CI_0 (tkS s0_75 (by decide)) rfl fl_X0_9 rfl rfl rfl (fun _ => rfl) (fun _ => rfl) dX0_init_9 ?_
  change WM _ _ _ _ _ _ e_r77 _
  refine w_aload_n 0 12 hX rfl rfl dX0_init_12 ?_
  refine w_bipush 12 13 hX (by decide) dX0_init_13 ?_
  refine w_newa (n := 12) 77 15 hX (tkL (by decide)).symm (frsh (by decide) e_r77F e_u18F (by decide) (by decide)) (by decide) (by decide) (by decide) aw_int (tkQ s0_77 (by decide)) (tkQs s0_77 (by decide)) (by rw [tkL (by decide)]; decide) (tkB s0_77) dX0_init_15 ?_
  refine w_alp s0_77 ?_
  refine w_putFR (j := 1) 17 hX hNm CI_0 (tkS s0_75 (by decide)) rfl fl_X0_15 rfl rfl rfl (fun _ => rfl) (fun _ => rfl) dX0_init_17 ?_
  change WM _ _ _ _ _ _ e_r78 _
  refine w_aload_n 0 20 hX rfl rfl dX0_init_20 ?_
  refine w_bipush 12 21 hX (by decide) dX0_init_21 ?_
  refine w_newa (n := 12) 78 23 hX (tkL (by decide)).symm (frsh (by decide) e_r78F e_u18F (by decide) (by decide)) (by decide) (by decide) (by decide) aw_int (tkQ s0_78 (by decide)) (tkQs s0_78 (by decide)) (by rw [tkL (by decide)]; decide) (tkB s0_78) dX0_init_23 ?_
  refine w_alp s0_78 ?_
  refine w_putFR (j := 2) 25 hX hNm CI_0 (tkS s0_75 (by decide)) rfl fl_X0_18 rfl rfl rfl (fun _ => rfl) (fun _ => rfl) dX0_init_25 ?_
  change WM _ _ _ _ _ _ e_r79 _
  refine w_aload_n 0 28 hX rfl rfl dX0_init_28 ?_
  refine w_bipush 12 29 hX (by decide) dX0_init_29 ?_
  refine w_newa (n := 12) 79 31 hX (tkL (by decide)).symm (frsh (by decide) e_r79F e_u18F (by decide) (by decide)) (by decide) (by decide) (by decide) aw_int (tkQ s0_79 (by decide)) (tkQs s0_79 (by decide)) (by rw [tkL (by decide)]; decide) (tkB s0_79) dX0_init_31 ?_
  refine w_alp s0_79 ?_
  refine w_putFR (j := 3) 33 hX hNm CI_0 (tkS s0_75 (by decide)) rfl fl_X0_21 rfl rfl rfl (fun _ => rfl) (fun _ => rfl) dX0_init_33 ?_
  change WM _ _ _ _ _ _ e_r80 _
  refine w_aload_n 0 36 hX rfl rfl dX0_init_36 ?_
  refine w_bipush 12 37 hX (by decide) dX0_init_37 ?_
  refine w_newa (n := 12) 80 39 hX (tkL (by decide)).symm (frsh (by decide) e_r80F e_u18F (by decide) (by decide)) (by decide) (by decide) (by decide) aw_int (tkQ s0_80 (by decide)) (tkQs s0_80 (by decide)) (by rw [tkL (by decide)]; decide) (tkB s0_80) dX0_init_39 ?_
  refine w_alp s0_80 ?_
  refine w_putFR (j := 4) 41 hX hNm CI_0 (tkS s0_75 (by decide)) rfl fl_X0_24 rfl rfl rfl (fun _ => rfl) (fun _ => rfl) dX0_init_41 ?_
  change WM _ _ _ _ _ _ e_r81 _
  refine w_aload_n 0 44 hX rfl rfl dX0_init_44 ?_
  refine w_bipush 12 45 hX (by decide) dX0_init_45 ?_
  refine w_newa (n := 12) 81 47 hX (tkL (by decide)).symm (frsh (by decide) e_r81F e_u18F (by decide) (by decide)) (by decide) (by decide) (by decide) aw_int (tkQ s0_81 (by decide)) (tkQs s0_81 (by decide)) (by rw [tkL (by decide)]; decide) (tkB s0_81) dX0_init_47 ?_
  refine w_alp s0_81 ?_
  refine w_putFR (j := 5) 49 hX hNm CI_0 (tkS s0_75 (by decide)) rfl fl_X0_27 rfl rfl rfl (fun _ => rfl) (fun _ => rfl) dX0_init_49 ?_
  change WM _ _ _ _ _ _ e_r82 _
  refine w_aload_n 0 52 hX rfl rfl dX0_init_52 ?_
  refine w_iconst 1 53 hX (by decide) dX0_init_53 ?_
  refine w_putI (j := 6) 54 hX CI_0 (tkS s0_75 (by decide)) rfl fl_X0_30 rfl rfl (by decide) (by decide) dX0_init_54 ?_
  change WM _ _ _ _ _ _ _ e_u19
  exact w_vret 57 hX hR dX0_init_57 rfl)
theorem KX00_82 {G : Gt} : CT G yX0_init cX0_init 1 none 1 [.ref 82] (SH.take 83) e_r83 e_u19 (none, SH.take 89, e_r89, e_u20) :=
  ct_ofN (by decide) rfl (by decide) (tkLe (by decide)) (tkM (by decide)) (fun X hX hNm hR => by
  refine w_aload_n 0 0 hX rfl rfl dX0_init_0 ?_
  refine w_objInit 1 hX ml_X0_3 oi_i oi_c (by decide) (by decide) dX0_init_1 ?_
  refine w_aload_n 0 4 hX rfl rfl dX0_init_4 ?_
  refine w_bipush 12 5 hX (by decide) dX0_init_5 ?_
  refine w_newa (n := 12) 83 7 hX (tkL (by decide)).symm (frsh (by decide) e_r83F e_u19F (by decide) (by decide)) (by decide) (by decide) (by decide) aw_int (tkQ s0_83 (by decide)) (tkQs s0_83 (by decide)) (by rw [tkL (by decide)]; decide) (tkB s0_83) dX0_init_7 ?_
  refine w_alp s0_83 ?_
  refine w_putFR (j := 0) 9 hX hNm CI_0 (tkS s0_82 (by decide)) rfl fl_X0_9 rfl rfl rfl (fun _ => rfl) (fun _ => rfl) dX0_init_9 ?_
  change WM _ _ _ _ _ _ e_r84 _
  refine w_aload_n 0 12 hX rfl rfl dX0_init_12 ?_
  refine w_bipush 12 13 hX (by decide) dX0_init_13 ?_
  refine w_newa (n := 12) 84 15 hX (tkL (by decide)).symm (frsh (by decide) e_r84F e_u19F (by decide) (by decide)) (by decide) (by decide) (by decide) aw_int (tkQ s0_84 (by decide)) (tkQs s0_84 (by decide)) (by rw [tkL (by decide)]; decide) (tkB s0_84) dX0_init_15 ?_
  refine w_alp s0_84 ?_
  refine w_putFR (j := 1) 17 hX hNm CI_0 (tkS s0_82 (by decide)) rfl fl_X0_15 rfl rfl rfl (fun _ => rfl) (fun _ => rfl) dX0_init_17 ?_
  change WM _ _ _ _ _ _ e_r85 _
  refine w_aload_n 0 20 hX rfl rfl dX0_init_20 ?_
  refine w_bipush 12 21 hX (by decide) dX0_init_21 ?_
  refine w_newa (n := 12) 85 23 hX (tkL (by decide)).symm (frsh (by decide) e_r85F e_u19F (by decide) (by decide)) (by decide) (by decide) (by decide) aw_int (tkQ s0_85 (by decide)) (tkQs s0_85 (by decide)) (by rw [tkL (by decide)]; decide) (tkB s0_85) dX0_init_23 ?_
  refine w_alp s0_85 ?_
  refine w_putFR (j := 2) 25 hX hNm CI_0 (tkS s0_82 (by decide)) rfl fl_X0_18 rfl rfl rfl (fun _ => rfl) (fun _ => rfl) dX0_init_25 ?_
  change WM _ _ _ _ _ _ e_r86 _
  refine w_aload_n 0 28 hX rfl rfl dX0_init_28 ?_
  refine w_bipush 12 29 hX (by decide) dX0_init_29 ?_
  refine w_newa (n := 12) 86 31 hX (tkL (by decide)).symm (frsh (by decide) e_r86F e_u19F (by decide) (by decide)) (by decide) (by decide) (by decide) aw_int (tkQ s0_86 (by decide)) (tkQs s0_86 (by decide)) (by rw [tkL (by decide)]; decide) (tkB s0_86) dX0_init_31 ?_
  refine w_alp s0_86 ?_
  refine w_putFR (j := 3) 33 hX hNm CI_0 (tkS s0_82 (by decide)) rfl fl_X0_21 rfl rfl rfl (fun _ => rfl) (fun _ => rfl) dX0_init_33 ?_
  change WM _ _ _ _ _ _ e_r87 _
  refine w_aload_n 0 36 hX rfl rfl dX0_init_36 ?_
  refine w_bipush 12 37 hX (by decide) dX0_init_37 ?_
  refine w_newa (n := 12) 87 39 hX (tkL (by decide)).symm (frsh (by decide) e_r87F e_u19F (by decide) (by decide)) (by decide) (by decide) (by decide) aw_int (tkQ s0_87 (by decide)) (tkQs s0_87 (by decide)) (by rw [tkL (by decide)]; decide) (tkB s0_87) dX0_init_39 ?_
  refine w_alp s0_87 ?_
  refine w_putFR (j := 4) 41 hX hNm CI_0 (tkS s0_82 (by decide)) rfl fl_X0_24 rfl rfl rfl (fun _ => rfl) (fun _ => rfl) dX0_init_41 ?_
  change WM _ _ _ _ _ _ e_r88 _
  refine w_aload_n 0 44 hX rfl rfl dX0_init_44 ?_
  refine w_bipush 12 45 hX (by decide) dX0_init_45 ?_
  refine w_newa (n := 12) 88 47 hX (tkL (by decide)).symm (frsh (by decide) e_r88F e_u19F (by decide) (by decide)) (by decide) (by decide) (by decide) aw_int (tkQ s0_88 (by decide)) (tkQs s0_88 (by decide)) (by rw [tkL (by decide)]; decide) (tkB s0_88) dX0_init_47 ?_
  refine w_alp s0_88 ?_
  refine w_putFR (j := 5) 49 hX hNm CI_0 (tkS s0_82 (by decide)) rfl fl_X0_27 rfl rfl rfl (fun _ => rfl) (fun _ => rfl) dX0_init_49 ?_
  change WM _ _ _ _ _ _ e_r89 _
  refine w_aload_n 0 52 hX rfl rfl dX0_init_52 ?_
  refine w_iconst 1 53 hX (by decide) dX0_init_53 ?_
  refine w_putI (j := 6) 54 hX CI_0 (tkS s0_82 (by decide)) rfl fl_X0_30 rfl rfl (by decide) (by decide) dX0_init_54 ?_
  change WM _ _ _ _ _ _ _ e_u20
  exact w_vret 57 hX hR dX0_init_57 rfl)
theorem KX00_89 {G : Gt} : CT G yX0_init cX0_init 1 none 1 [.ref 89] (SH.take 90) e_r90 e_u20 (none, SH.take 96, e_r96, e_u21) :=
  ct_ofN (by decide) rfl (by decide) (tkLe (by decide)) (tkM (by decide)) (fun X hX hNm hR => by
  refine w_aload_n 0 0 hX rfl rfl dX0_init_0 ?_
  refine w_objInit 1 hX ml_X0_3 oi_i oi_c (by decide) (by decide) dX0_init_1 ?_
  refine w_aload_n 0 4 hX rfl rfl dX0_init_4 ?_
  refine w_bipush 12 5 hX (by decide) dX0_init_5 ?_
  refine w_newa (n := 12) 90 7 hX (tkL (by decide)).symm (frsh (by decide) e_r90F e_u20F (by decide) (by decide)) (by decide) (by decide) (by decide) aw_int (tkQ s0_90 (by decide)) (tkQs s0_90 (by decide)) (by rw [tkL (by decide)]; decide) (tkB s0_90) dX0_init_7 ?_
  refine w_alp s0_90 ?_
  refine w_putFR (j := 0) 9 hX hNm CI_0 (tkS s0_89 (by decide)) rfl fl_X0_9 rfl rfl rfl (fun _ => rfl) (fun _ => rfl) dX0_init_9 ?_
  change WM _ _ _ _ _ _ e_r91 _
  refine w_aload_n 0 12 hX rfl rfl dX0_init_12 ?_
  refine w_bipush 12 13 hX (by decide) dX0_init_13 ?_
  refine w_newa (n := 12) 91 15 hX (tkL (by decide)).symm (frsh (by decide) e_r91F e_u20F (by decide) (by decide)) (by decide) (by decide) (by decide) aw_int (tkQ s0_91 (by decide)) (tkQs s0_91 (by decide)) (by rw [tkL (by decide)]; decide) (tkB s0_91) dX0_init_15 ?_
  refine w_alp s0_91 ?_
  refine w_putFR (j := 1) 17 hX hNm CI_0 (tkS s0_89 (by decide)) rfl fl_X0_15 rfl rfl rfl (fun _ => rfl) (fun _ => rfl) dX0_init_17 ?_
  change WM _ _ _ _ _ _ e_r92 _
  refine w_aload_n 0 20 hX rfl rfl dX0_init_20 ?_
  refine w_bipush 12 21 hX (by decide) dX0_init_21 ?_
  refine w_newa (n := 12) 92 23 hX (tkL (by decide)).symm (frsh (by decide) e_r92F e_u20F (by decide) (by decide)) (by decide) (by decide) (by decide) aw_int (tkQ s0_92 (by decide)) (tkQs s0_92 (by decide)) (by rw [tkL (by decide)]; decide) (tkB s0_92) dX0_init_23 ?_
  refine w_alp s0_92 ?_
  refine w_putFR (j := 2) 25 hX hNm CI_0 (tkS s0_89 (by decide)) rfl fl_X0_18 rfl rfl rfl (fun _ => rfl) (fun _ => rfl) dX0_init_25 ?_
  change WM _ _ _ _ _ _ e_r93 _
  refine w_aload_n 0 28 hX rfl rfl dX0_init_28 ?_
  refine w_bipush 12 29 hX (by decide) dX0_init_29 ?_
  refine w_newa (n := 12) 93 31 hX (tkL (by decide)).symm (frsh (by decide) e_r93F e_u20F (by decide) (by decide)) (by decide) (by decide) (by decide) aw_int (tkQ s0_93 (by decide)) (tkQs s0_93 (by decide)) (by rw [tkL (by decide)]; decide) (tkB s0_93) dX0_init_31 ?_
  refine w_alp s0_93 ?_
  refine w_putFR (j := 3) 33 hX hNm CI_0 (tkS s0_89 (by decide)) rfl fl_X0_21 rfl rfl rfl (fun _ => rfl) (fun _ => rfl) dX0_init_33 ?_
  change WM _ _ _ _ _ _ e_r94 _
  refine w_aload_n 0 36 hX rfl rfl dX0_init_36 ?_
  refine w_bipush 12 37 hX (by decide) dX0_init_37 ?_
  refine w_newa (n := 12) 94 39 hX (tkL (by decide)).symm (frsh (by decide) e_r94F e_u20F (by decide) (by decide)) (by decide) (by decide) (by decide) aw_int (tkQ s0_94 (by decide)) (tkQs s0_94 (by decide)) (by rw [tkL (by decide)]; decide) (tkB s0_94) dX0_init_39 ?_
  refine w_alp s0_94 ?_
  refine w_putFR (j := 4) 41 hX hNm CI_0 (tkS s0_89 (by decide)) rfl fl_X0_24 rfl rfl rfl (fun _ => rfl) (fun _ => rfl) dX0_init_41 ?_
  change WM _ _ _ _ _ _ e_r95 _
  refine w_aload_n 0 44 hX rfl rfl dX0_init_44 ?_
  refine w_bipush 12 45 hX (by decide) dX0_init_45 ?_
  refine w_newa (n := 12) 95 47 hX (tkL (by decide)).symm (frsh (by decide) e_r95F e_u20F (by decide) (by decide)) (by decide) (by decide) (by decide) aw_int (tkQ s0_95 (by decide)) (tkQs s0_95 (by decide)) (by rw [tkL (by decide)]; decide) (tkB s0_95) dX0_init_47 ?_
  refine w_alp s0_95 ?_
  refine w_putFR (j := 5) 49 hX hNm CI_0 (tkS s0_89 (by decide)) rfl fl_X0_27 rfl rfl rfl (fun _ => rfl) (fun _ => rfl) dX0_init_49 ?_
  change WM _ _ _ _ _ _ e_r96 _
  refine w_aload_n 0 52 hX rfl rfl dX0_init_52 ?_
  refine w_iconst 1 53 hX (by decide) dX0_init_53 ?_
  refine w_putI (j := 6) 54 hX CI_0 (tkS s0_89 (by decide)) rfl fl_X0_30 rfl rfl (by decide) (by decide) dX0_init_54 ?_
  change WM _ _ _ _ _ _ _ e_u21
  exact w_vret 57 hX hR dX0_init_57 rfl)
theorem KX100_52 {G : Gt} : CT G yX10_init cX10_init 2 none 2 [.ref 52] (SH.take 53) e_r54 e_u15 (none, SH.take 96, e_r97, e_u21) :=
  ct_ofN (by decide) rfl (by decide) (tkLe (by decide)) (tkM (by decide)) (fun X hX hNm hR => by
  refine w_aload_n 0 0 hX rfl rfl dX10_init_0 ?_
  refine w_objInit 1 hX ml_X10_1 oi_i oi_c (by decide) (by decide) dX10_init_1 ?_
  refine w_aload_n 0 4 hX rfl rfl dX10_init_4 ?_
  refine w_bipush 6 5 hX (by decide) dX10_init_5 ?_
  refine w_newq (n := 6) 53 7 hX (tkL (by decide)).symm (frsh (by decide) e_r54F e_u15F (by decide) (by decide)) (by decide) (by decide) (by decide) cl_X10_9 (tkQ s0_53 (by decide)) (tkQs s0_53 (by decide)) (by rw [tkL (by decide)]; decide) (tkB s0_53) dX10_init_7 ?_
  refine w_alp s0_53 ?_
  refine w_putFR (j := 0) 10 hX hNm CI_10 (tkS s0_52 (by decide)) rfl fl_X10_11 rfl rfl rfl (fun _ => rfl) (fun _ => rfl) dX10_init_10 ?_
  change WM _ _ _ _ _ _ e_r55 _
  refine w_iconst 0 13 hX (by decide) dX10_init_13 ?_
  refine w_istore_n (lv' := [(1, .int 0), (0, .ref 52)]) 14 hX rfl dX10_init_14 (by decide) rfl ?_
  refine w_iload_n 0 15 hX rfl rfl dX10_init_15 ?_
  refine w_bipush 6 16 hX (by decide) dX10_init_16 ?_
  refine w_icmp_ge (tgt := 40) 18 hX dX10_init_18 (by decide) (fun c1 => absurd c1 (by decide)) (fun _ => ?_)
  refine w_aload_n 1 21 hX rfl rfl dX10_init_21 ?_
  refine w_getR (q := 53) 22 hX CI_10 (tkS s0_52 (by decide)) rfl (by decide) fl_X10_11 rfl dX10_init_22 ?_
  refine w_iload_n 0 25 hX rfl rfl dX10_init_25 ?_
  refine w_new 54 26 hX CI_0 (tkL (by decide)).symm (frsh (by decide) e_r55F e_u15F (by decide) (by decide)) dvW_0 cl_X10_9 insW_0 izW_0 (tkQ s0_54 (by decide)) (tkQs s0_54 (by decide)) (by rw [tkL (by decide)]; decide) (tkB s0_54) dX10_init_26 ?_
  refine w_alp s0_54 ?_
  refine w_dup 29 hX rfl dX10_init_29 ?_
  refine w_invINv (a := 54) (av := []) (st := [.ref 54, .int 0, .ref 53]) 30 hX CI_0 (tkS s0_54 (by decide)) mo_yX0_init rfl mi_yX0_init ml_X10_15 KX00_54 rfl (by decide) (by decide) (tkLe (by decide)) (tkM (by decide)) dX10_init_30 ?_
  refine w_aast 33 hX (tkS s0_53 (by decide)) (tkS s0_54 (by decide)) (by unfold vp_in; decide) dX10_init_33 ?_
  change WM _ _ _ _ _ _ e_r62 _
  refine w_iinc (lv' := [(1, .int 1), (0, .ref 52)]) (w := 1) 34 0 hX dX10_init_34 rfl (by decide) (by decide) rfl ?_
  refine w_goto (tgt := 15) 37 hX (by decide) dX10_init_37 ?_
  refine w_iload_n 0 15 hX rfl rfl dX10_init_15 ?_
  refine w_bipush 6 16 hX (by decide) dX10_init_16 ?_
  refine w_icmp_ge (tgt := 40) 18 hX dX10_init_18 (by decide) (fun c1 => absurd c1 (by decide)) (fun _ => ?_)
  refine w_aload_n 1 21 hX rfl rfl dX10_init_21 ?_
  refine w_getR (q := 53) 22 hX CI_10 (tkS s0_52 (by decide)) rfl (by decide) fl_X10_11 rfl dX10_init_22 ?_
  refine w_iload_n 0 25 hX rfl rfl dX10_init_25 ?_
  refine w_new 61 26 hX CI_0 (tkL (by decide)).symm (frsh (by decide) e_r62F e_u16F (by decide) (by decide)) dvW_0 cl_X10_9 insW_0 izW_0 (tkQ s0_61 (by decide)) (tkQs s0_61 (by decide)) (by rw [tkL (by decide)]; decide) (tkB s0_61) dX10_init_26 ?_
  refine w_alp s0_61 ?_
  refine w_dup 29 hX rfl dX10_init_29 ?_
  refine w_invINv (a := 61) (av := []) (st := [.ref 61, .int 1, .ref 53]) 30 hX CI_0 (tkS s0_61 (by decide)) mo_yX0_init rfl mi_yX0_init ml_X10_15 KX00_61 rfl (by decide) (by decide) (tkLe (by decide)) (tkM (by decide)) dX10_init_30 ?_
  refine w_aast 33 hX (tkS s0_53 (by decide)) (tkS s0_61 (by decide)) (by unfold vp_in; decide) dX10_init_33 ?_
  change WM _ _ _ _ _ _ e_r69 _
  refine w_iinc (lv' := [(1, .int 2), (0, .ref 52)]) (w := 2) 34 0 hX dX10_init_34 rfl (by decide) (by decide) rfl ?_
  refine w_goto (tgt := 15) 37 hX (by decide) dX10_init_37 ?_
  refine w_iload_n 0 15 hX rfl rfl dX10_init_15 ?_
  refine w_bipush 6 16 hX (by decide) dX10_init_16 ?_
  refine w_icmp_ge (tgt := 40) 18 hX dX10_init_18 (by decide) (fun c1 => absurd c1 (by decide)) (fun _ => ?_)
  refine w_aload_n 1 21 hX rfl rfl dX10_init_21 ?_
  refine w_getR (q := 53) 22 hX CI_10 (tkS s0_52 (by decide)) rfl (by decide) fl_X10_11 rfl dX10_init_22 ?_
  refine w_iload_n 0 25 hX rfl rfl dX10_init_25 ?_
  refine w_new 68 26 hX CI_0 (tkL (by decide)).symm (frsh (by decide) e_r69F e_u17F (by decide) (by decide)) dvW_0 cl_X10_9 insW_0 izW_0 (tkQ s0_68 (by decide)) (tkQs s0_68 (by decide)) (by rw [tkL (by decide)]; decide) (tkB s0_68) dX10_init_26 ?_
  refine w_alp s0_68 ?_
  refine w_dup 29 hX rfl dX10_init_29 ?_
  refine w_invINv (a := 68) (av := []) (st := [.ref 68, .int 2, .ref 53]) 30 hX CI_0 (tkS s0_68 (by decide)) mo_yX0_init rfl mi_yX0_init ml_X10_15 KX00_68 rfl (by decide) (by decide) (tkLe (by decide)) (tkM (by decide)) dX10_init_30 ?_
  refine w_aast 33 hX (tkS s0_53 (by decide)) (tkS s0_68 (by decide)) (by unfold vp_in; decide) dX10_init_33 ?_
  change WM _ _ _ _ _ _ e_r76 _
  refine w_iinc (lv' := [(1, .int 3), (0, .ref 52)]) (w := 3) 34 0 hX dX10_init_34 rfl (by decide) (by decide) rfl ?_
  refine w_goto (tgt := 15) 37 hX (by decide) dX10_init_37 ?_
  refine w_iload_n 0 15 hX rfl rfl dX10_init_15 ?_
  refine w_bipush 6 16 hX (by decide) dX10_init_16 ?_
  refine w_icmp_ge (tgt := 40) 18 hX dX10_init_18 (by decide) (fun c1 => absurd c1 (by decide)) (fun _ => ?_)
  refine w_aload_n 1 21 hX rfl rfl dX10_init_21 ?_
  refine w_getR (q := 53) 22 hX CI_10 (tkS s0_52 (by decide)) rfl (by decide) fl_X10_11 rfl dX10_init_22 ?_
  refine w_iload_n 0 25 hX rfl rfl dX10_init_25 ?_
  refine w_new 75 26 hX CI_0 (tkL (by decide)).symm (frsh (by decide) e_r76F e_u18F (by decide) (by decide)) dvW_0 cl_X10_9 insW_0 izW_0 (tkQ s0_75 (by decide)) (tkQs s0_75 (by decide)) (by rw [tkL (by decide)]; decide) (tkB s0_75) dX10_init_26 ?_
  refine w_alp s0_75 ?_
  refine w_dup 29 hX rfl dX10_init_29 ?_
  refine w_invINv (a := 75) (av := []) (st := [.ref 75, .int 3, .ref 53]) 30 hX CI_0 (tkS s0_75 (by decide)) mo_yX0_init rfl mi_yX0_init ml_X10_15 KX00_75 rfl (by decide) (by decide) (tkLe (by decide)) (tkM (by decide)) dX10_init_30 ?_
  refine w_aast 33 hX (tkS s0_53 (by decide)) (tkS s0_75 (by decide)) (by unfold vp_in; decide) dX10_init_33 ?_
  change WM _ _ _ _ _ _ e_r83 _
  refine w_iinc (lv' := [(1, .int 4), (0, .ref 52)]) (w := 4) 34 0 hX dX10_init_34 rfl (by decide) (by decide) rfl ?_
  refine w_goto (tgt := 15) 37 hX (by decide) dX10_init_37 ?_
  refine w_iload_n 0 15 hX rfl rfl dX10_init_15 ?_
  refine w_bipush 6 16 hX (by decide) dX10_init_16 ?_
  refine w_icmp_ge (tgt := 40) 18 hX dX10_init_18 (by decide) (fun c1 => absurd c1 (by decide)) (fun _ => ?_)
  refine w_aload_n 1 21 hX rfl rfl dX10_init_21 ?_
  refine w_getR (q := 53) 22 hX CI_10 (tkS s0_52 (by decide)) rfl (by decide) fl_X10_11 rfl dX10_init_22 ?_
  refine w_iload_n 0 25 hX rfl rfl dX10_init_25 ?_
  refine w_new 82 26 hX CI_0 (tkL (by decide)).symm (frsh (by decide) e_r83F e_u19F (by decide) (by decide)) dvW_0 cl_X10_9 insW_0 izW_0 (tkQ s0_82 (by decide)) (tkQs s0_82 (by decide)) (by rw [tkL (by decide)]; decide) (tkB s0_82) dX10_init_26 ?_
  refine w_alp s0_82 ?_
  refine w_dup 29 hX rfl dX10_init_29 ?_
  refine w_invINv (a := 82) (av := []) (st := [.ref 82, .int 4, .ref 53]) 30 hX CI_0 (tkS s0_82 (by decide)) mo_yX0_init rfl mi_yX0_init ml_X10_15 KX00_82 rfl (by decide) (by decide) (tkLe (by decide)) (tkM (by decide)) dX10_init_30 ?_
  refine w_aast 33 hX (tkS s0_53 (by decide)) (tkS s0_82 (by decide)) (by unfold vp_in; decide) dX10_init_33 ?_
  change WM _ _ _ _ _ _ e_r90 _
  refine w_iinc (lv' := [(1, .int 5), (0, .ref 52)]) (w := 5) 34 0 hX dX10_init_34 rfl (by decide) (by decide) rfl ?_
  refine w_goto (tgt := 15) 37 hX (by decide) dX10_init_37 ?_
  refine w_iload_n 0 15 hX rfl rfl dX10_init_15 ?_
  refine w_bipush 6 16 hX (by decide) dX10_init_16 ?_
  refine w_icmp_ge (tgt := 40) 18 hX dX10_init_18 (by decide) (fun c1 => absurd c1 (by decide)) (fun _ => ?_)
  refine w_aload_n 1 21 hX rfl rfl dX10_init_21 ?_
  refine w_getR (q := 53) 22 hX CI_10 (tkS s0_52 (by decide)) rfl (by decide) fl_X10_11 rfl dX10_init_22 ?_
  refine w_iload_n 0 25 hX rfl rfl dX10_init_25 ?_
  refine w_new 89 26 hX CI_0 (tkL (by decide)).symm (frsh (by decide) e_r90F e_u20F (by decide) (by decide)) dvW_0 cl_X10_9 insW_0 izW_0 (tkQ s0_89 (by decide)) (tkQs s0_89 (by decide)) (by rw [tkL (by decide)]; decide) (tkB s0_89) dX10_init_26 ?_
  refine w_alp s0_89 ?_
  refine w_dup 29 hX rfl dX10_init_29 ?_
  refine w_invINv (a := 89) (av := []) (st := [.ref 89, .int 5, .ref 53]) 30 hX CI_0 (tkS s0_89 (by decide)) mo_yX0_init rfl mi_yX0_init ml_X10_15 KX00_89 rfl (by decide) (by decide) (tkLe (by decide)) (tkM (by decide)) dX10_init_30 ?_
  refine w_aast 33 hX (tkS s0_53 (by decide)) (tkS s0_89 (by decide)) (by unfold vp_in; decide) dX10_init_33 ?_
  change WM _ _ _ _ _ _ e_r97 _
  refine w_iinc (lv' := [(1, .int 6), (0, .ref 52)]) (w := 6) 34 0 hX dX10_init_34 rfl (by decide) (by decide) rfl ?_
  refine w_goto (tgt := 15) 37 hX (by decide) dX10_init_37 ?_
  refine w_iload_n 0 15 hX rfl rfl dX10_init_15 ?_
  refine w_bipush 6 16 hX (by decide) dX10_init_16 ?_
  refine w_icmp_ge (tgt := 40) 18 hX dX10_init_18 (by decide) (fun _ => ?_) (fun c1 => absurd (by decide) c1)
  exact w_vret 40 hX hR dX10_init_40 rfl)
theorem KX00_97 {G : Gt} : CT G yX0_init cX0_init 1 none 1 [.ref 97] (SH.take 98) e_r98 e_u21 (none, SH.take 104, e_r104, e_u22) :=
  ct_ofN (by decide) rfl (by decide) (tkLe (by decide)) (tkM (by decide)) (fun X hX hNm hR => by
  refine w_aload_n 0 0 hX rfl rfl dX0_init_0 ?_
  refine w_objInit 1 hX ml_X0_3 oi_i oi_c (by decide) (by decide) dX0_init_1 ?_
  refine w_aload_n 0 4 hX rfl rfl dX0_init_4 ?_
  refine w_bipush 12 5 hX (by decide) dX0_init_5 ?_
  refine w_newa (n := 12) 98 7 hX (tkL (by decide)).symm (frsh (by decide) e_r98F e_u21F (by decide) (by decide)) (by decide) (by decide) (by decide) aw_int (tkQ s0_98 (by decide)) (tkQs s0_98 (by decide)) (by rw [tkL (by decide)]; decide) (tkB s0_98) dX0_init_7 ?_
  refine w_alp s0_98 ?_
  refine w_putFR (j := 0) 9 hX hNm CI_0 (tkS s0_97 (by decide)) rfl fl_X0_9 rfl rfl rfl (fun _ => rfl) (fun _ => rfl) dX0_init_9 ?_
  change WM _ _ _ _ _ _ e_r99 _
  refine w_aload_n 0 12 hX rfl rfl dX0_init_12 ?_
  refine w_bipush 12 13 hX (by decide) dX0_init_13 ?_
  refine w_newa (n := 12) 99 15 hX (tkL (by decide)).symm (frsh (by decide) e_r99F e_u21F (by decide) (by decide)) (by decide) (by decide) (by decide) aw_int (tkQ s0_99 (by decide)) (tkQs s0_99 (by decide)) (by rw [tkL (by decide)]; decide) (tkB s0_99) dX0_init_15 ?_
  refine w_alp s0_99 ?_
  refine w_putFR (j := 1) 17 hX hNm CI_0 (tkS s0_97 (by decide)) rfl fl_X0_15 rfl rfl rfl (fun _ => rfl) (fun _ => rfl) dX0_init_17 ?_
  change WM _ _ _ _ _ _ e_r100 _
  refine w_aload_n 0 20 hX rfl rfl dX0_init_20 ?_
  refine w_bipush 12 21 hX (by decide) dX0_init_21 ?_
  refine w_newa (n := 12) 100 23 hX (tkL (by decide)).symm (frsh (by decide) e_r100F e_u21F (by decide) (by decide)) (by decide) (by decide) (by decide) aw_int (tkQ s0_100 (by decide)) (tkQs s0_100 (by decide)) (by rw [tkL (by decide)]; decide) (tkB s0_100) dX0_init_23 ?_
  refine w_alp s0_100 ?_
  refine w_putFR (j := 2) 25 hX hNm CI_0 (tkS s0_97 (by decide)) rfl fl_X0_18 rfl rfl rfl (fun _ => rfl) (fun _ => rfl) dX0_init_25 ?_
  change WM _ _ _ _ _ _ e_r101 _
  refine w_aload_n 0 28 hX rfl rfl dX0_init_28 ?_
  refine w_bipush 12 29 hX (by decide) dX0_init_29 ?_
  refine w_newa (n := 12) 101 31 hX (tkL (by decide)).symm (frsh (by decide) e_r101F e_u21F (by decide) (by decide)) (by decide) (by decide) (by decide) aw_int (tkQ s0_101 (by decide)) (tkQs s0_101 (by decide)) (by rw [tkL (by decide)]; decide) (tkB s0_101) dX0_init_31 ?_
  refine w_alp s0_101 ?_
  refine w_putFR (j := 3) 33 hX hNm CI_0 (tkS s0_97 (by decide)) rfl fl_X0_21 rfl rfl rfl (fun _ => rfl) (fun _ => rfl) dX0_init_33 ?_
  change WM _ _ _ _ _ _ e_r102 _
  refine w_aload_n 0 36 hX rfl rfl dX0_init_36 ?_
  refine w_bipush 12 37 hX (by decide) dX0_init_37 ?_
  refine w_newa (n := 12) 102 39 hX (tkL (by decide)).symm (frsh (by decide) e_r102F e_u21F (by decide) (by decide)) (by decide) (by decide) (by decide) aw_int (tkQ s0_102 (by decide)) (tkQs s0_102 (by decide)) (by rw [tkL (by decide)]; decide) (tkB s0_102) dX0_init_39 ?_
  refine w_alp s0_102 ?_
  refine w_putFR (j := 4) 41 hX hNm CI_0 (tkS s0_97 (by decide)) rfl fl_X0_24 rfl rfl rfl (fun _ => rfl) (fun _ => rfl) dX0_init_41 ?_
  change WM _ _ _ _ _ _ e_r103 _
  refine w_aload_n 0 44 hX rfl rfl dX0_init_44 ?_
  refine w_bipush 12 45 hX (by decide) dX0_init_45 ?_
  refine w_newa (n := 12) 103 47 hX (tkL (by decide)).symm (frsh (by decide) e_r103F e_u21F (by decide) (by decide)) (by decide) (by decide) (by decide) aw_int (tkQ s0_103 (by decide)) (tkQs s0_103 (by decide)) (by rw [tkL (by decide)]; decide) (tkB s0_103) dX0_init_47 ?_
  refine w_alp s0_103 ?_
  refine w_putFR (j := 5) 49 hX hNm CI_0 (tkS s0_97 (by decide)) rfl fl_X0_27 rfl rfl rfl (fun _ => rfl) (fun _ => rfl) dX0_init_49 ?_
  change WM _ _ _ _ _ _ e_r104 _
  refine w_aload_n 0 52 hX rfl rfl dX0_init_52 ?_
  refine w_iconst 1 53 hX (by decide) dX0_init_53 ?_
  refine w_putI (j := 6) 54 hX CI_0 (tkS s0_97 (by decide)) rfl fl_X0_30 rfl rfl (by decide) (by decide) dX0_init_54 ?_
  change WM _ _ _ _ _ _ _ e_u22
  exact w_vret 57 hX hR dX0_init_57 rfl)
theorem KX30_104 {G : Gt} : CT G yX3_init cX3_init 5 none 1 [.ref 104, .ref 1, .ref 97, .ref 30, .int 0] (SH.take 105) e_r107 e_u22 (none, SH.take 106, e_r111, e_u23) :=
  ct_ofN (by decide) rfl (by decide) (tkLe (by decide)) (tkM (by decide)) (fun X hX hNm hR => by
  refine w_aload_n 0 0 hX rfl rfl dX3_init_0 ?_
  refine w_objInit 1 hX ml_X3_3 oi_i oi_c (by decide) (by decide) dX3_init_1 ?_
  refine w_aload_n 0 4 hX rfl rfl dX3_init_4 ?_
  refine w_bipush 9 5 hX (by decide) dX3_init_5 ?_
  refine w_newa (n := 9) 105 7 hX (tkL (by decide)).symm (frsh (by decide) e_r107F e_u22F (by decide) (by decide)) (by decide) (by decide) (by decide) aw_int (tkQ s0_105 (by decide)) (tkQs s0_105 (by decide)) (by rw [tkL (by decide)]; decide) (tkB s0_105) dX3_init_7 ?_
  refine w_alp s0_105 ?_
  refine w_putFR (j := 4) 9 hX hNm CI_3 (tkS s0_104 (by decide)) rfl fl_X3_11 rfl rfl rfl (fun _ => rfl) (fun _ => rfl) dX3_init_9 ?_
  change WM _ _ _ _ _ _ e_r108 _
  refine w_aload_n 0 12 hX rfl rfl dX3_init_12 ?_
  refine w_aload_n 1 13 hX rfl rfl dX3_init_13 ?_
  refine w_putFR (j := 0) 14 hX hNm CI_3 (tkS s0_104 (by decide)) rfl fl_X3_17 rfl rfl rfl (fun _ => rfl) (fun _ => rfl) dX3_init_14 ?_
  change WM _ _ _ _ _ _ e_r109 _
  refine w_aload_n 0 17 hX rfl rfl dX3_init_17 ?_
  refine w_aload_n 2 18 hX rfl rfl dX3_init_18 ?_
  refine w_putFR (j := 1) 19 hX hNm CI_3 (tkS s0_104 (by decide)) rfl fl_X3_21 rfl rfl rfl (fun _ => rfl) (fun _ => rfl) dX3_init_19 ?_
  change WM _ _ _ _ _ _ e_r110 _
  refine w_aload_n 0 22 hX rfl rfl dX3_init_22 ?_
  refine w_aload_n 3 23 hX rfl rfl dX3_init_23 ?_
  refine w_putFR (j := 2) 24 hX hNm CI_3 (tkS s0_104 (by decide)) rfl fl_X3_25 rfl rfl rfl (fun _ => rfl) (fun _ => rfl) dX3_init_24 ?_
  change WM _ _ _ _ _ _ e_r111 _
  refine w_aload_n 0 27 hX rfl rfl dX3_init_27 ?_
  refine w_iload 4 28 hX rfl dX3_init_28 ?_
  refine w_putFI (j := 3) 30 hX hNm CI_3 (tkS s0_104 (by decide)) rfl fl_X3_29 rfl rfl rfl (by decide) (by decide) dX3_init_30 ?_
  change WM _ _ _ _ _ _ _ e_u23
  exact w_vret 33 hX hR dX3_init_33 rfl)
theorem KX20_96 {G : Gt} : CT G yX2_init cX2_init 4 none 2 [.ref 96, .ref 1, .ref 23, .ref 30] (SH.take 97) e_r98 e_u21 (none, SH.take 106, e_r112, e_u23) :=
  ct_ofN (by decide) rfl (by decide) (tkLe (by decide)) (tkM (by decide)) (fun X hX hNm hR => by
  refine w_aload_n 0 0 hX rfl rfl dX2_init_0 ?_
  refine w_objInit 1 hX ml_X2_3 oi_i oi_c (by decide) (by decide) dX2_init_1 ?_
  refine w_aload_n 0 4 hX rfl rfl dX2_init_4 ?_
  refine w_new 97 5 hX CI_0 (tkL (by decide)).symm (frsh (by decide) e_r98F e_u21F (by decide) (by decide)) dvW_0 cl_X2_9 insW_0 izW_0 (tkQ s0_97 (by decide)) (tkQs s0_97 (by decide)) (by rw [tkL (by decide)]; decide) (tkB s0_97) dX2_init_5 ?_
  refine w_alp s0_97 ?_
  refine w_dup 8 hX rfl dX2_init_8 ?_
  refine w_invINv (a := 97) (av := []) (st := [.ref 97, .ref 96]) 9 hX CI_0 (tkS s0_97 (by decide)) mo_yX0_init rfl mi_yX0_init ml_X2_11 KX00_97 rfl (by decide) (by decide) (tkLe (by decide)) (tkM (by decide)) dX2_init_9 ?_
  refine w_putFR (j := 2) 12 hX hNm CI_2 (tkS s0_96 (by decide)) rfl fl_X2_12 rfl rfl rfl (fun _ => rfl) (fun _ => rfl) dX2_init_12 ?_
  change WM _ _ _ _ _ _ e_r105 _
  refine w_aload_n 0 15 hX rfl rfl dX2_init_15 ?_
  refine w_aload_n 1 16 hX rfl rfl dX2_init_16 ?_
  refine w_putFR (j := 0) 17 hX hNm CI_2 (tkS s0_96 (by decide)) rfl fl_X2_18 rfl rfl rfl (fun _ => rfl) (fun _ => rfl) dX2_init_17 ?_
  change WM _ _ _ _ _ _ e_r106 _
  refine w_aload_n 0 20 hX rfl rfl dX2_init_20 ?_
  refine w_aload_n 2 21 hX rfl rfl dX2_init_21 ?_
  refine w_putFR (j := 1) 22 hX hNm CI_2 (tkS s0_96 (by decide)) rfl fl_X2_22 rfl rfl rfl (fun _ => rfl) (fun _ => rfl) dX2_init_22 ?_
  change WM _ _ _ _ _ _ e_r107 _
  refine w_aload_n 0 25 hX rfl rfl dX2_init_25 ?_
  refine w_new 104 26 hX CI_3 (tkL (by decide)).symm (frsh (by decide) e_r107F e_u22F (by decide) (by decide)) dvW_3 cl_X2_25 insW_3 izW_3 (tkQ s0_104 (by decide)) (tkQs s0_104 (by decide)) (by rw [tkL (by decide)]; decide) (tkB s0_104) dX2_init_26 ?_
  refine w_alp s0_104 ?_
  refine w_dup 29 hX rfl dX2_init_29 ?_
  refine w_aload_n 1 30 hX rfl rfl dX2_init_30 ?_
  refine w_aload_n 0 31 hX rfl rfl dX2_init_31 ?_
  refine w_getR (q := 97) 32 hX CI_2 (tkS s0_96 (by decide)) rfl (by decide) fl_X2_12 rfl dX2_init_32 ?_
  refine w_aload_n 3 35 hX rfl rfl dX2_init_35 ?_
  refine w_iconst 0 36 hX (by decide) dX2_init_36 ?_
  refine w_invIv (a := 104) (av := [.ref 1, .ref 97, .ref 30, .int 0]) (st := [.ref 104, .ref 96]) 37 hX CI_3 (tkS s0_104 (by decide)) mo_yX3_init rfl mi_yX3_init ml_X2_27 KX30_104 rfl (by decide) (by decide) (tkLe (by decide)) (tkM (by decide)) dX2_init_37 ?_
  refine w_putFR (j := 3) 40 hX hNm CI_2 (tkS s0_96 (by decide)) rfl fl_X2_30 rfl rfl rfl (fun _ => rfl) (fun _ => rfl) dX2_init_40 ?_
  change WM _ _ _ _ _ _ e_r112 _
  exact w_vret 43 hX hR dX2_init_43 rfl)
theorem KX70_106 {G : Gt} : CT G yX7_init cX7_init 4 none 1 [.ref 106, .ref 1, .ref 23, .ref 32] (SH.take 107) e_r113 e_u23 (none, SH.take 115, e_r124, e_u23) :=
  ct_ofN (by decide) rfl (by decide) (tkLe (by decide)) (tkM (by decide)) (fun X hX hNm hR => by
  refine w_aload_n 0 0 hX rfl rfl dX7_init_0 ?_
  refine w_objInit 1 hX ml_X7_3 oi_i oi_c (by decide) (by decide) dX7_init_1 ?_
  refine w_aload_n 0 4 hX rfl rfl dX7_init_4 ?_
  refine w_sipush 144 5 hX (by decide) dX7_init_5 ?_
  refine w_newa (n := 144) 107 8 hX (tkL (by decide)).symm (frsh (by decide) e_r113F e_u23F (by decide) (by decide)) (by decide) (by decide) (by decide) aw_int (tkQ s0_107 (by decide)) (tkQs s0_107 (by decide)) (by rw [tkL (by decide)]; decide) (tkB s0_107) dX7_init_8 ?_
  refine w_alp s0_107 ?_
  refine w_putFR (j := 3) 10 hX hNm CI_7 (tkS s0_106 (by decide)) rfl fl_X7_9 rfl rfl rfl (fun _ => rfl) (fun _ => rfl) dX7_init_10 ?_
  change WM _ _ _ _ _ _ e_r114 _
  refine w_aload_n 0 13 hX rfl rfl dX7_init_13 ?_
  refine w_bipush 12 14 hX (by decide) dX7_init_14 ?_
  refine w_newa (n := 12) 108 16 hX (tkL (by decide)).symm (frsh (by decide) e_r114F e_u23F (by decide) (by decide)) (by decide) (by decide) (by decide) aw_int (tkQ s0_108 (by decide)) (tkQs s0_108 (by decide)) (by rw [tkL (by decide)]; decide) (tkB s0_108) dX7_init_16 ?_
  refine w_alp s0_108 ?_
  refine w_putFR (j := 4) 18 hX hNm CI_7 (tkS s0_106 (by decide)) rfl fl_X7_15 rfl rfl rfl (fun _ => rfl) (fun _ => rfl) dX7_init_18 ?_
  change WM _ _ _ _ _ _ e_r115 _
  refine w_aload_n 0 21 hX rfl rfl dX7_init_21 ?_
  refine w_bipush 12 22 hX (by decide) dX7_init_22 ?_
  refine w_newa (n := 12) 109 24 hX (tkL (by decide)).symm (frsh (by decide) e_r115F e_u23F (by decide) (by decide)) (by decide) (by decide) (by decide) aw_int (tkQ s0_109 (by decide)) (tkQs s0_109 (by decide)) (by rw [tkL (by decide)]; decide) (tkB s0_109) dX7_init_24 ?_
  refine w_alp s0_109 ?_
  refine w_putFR (j := 5) 26 hX hNm CI_7 (tkS s0_106 (by decide)) rfl fl_X7_18 rfl rfl rfl (fun _ => rfl) (fun _ => rfl) dX7_init_26 ?_
  change WM _ _ _ _ _ _ e_r116 _
  refine w_aload_n 0 29 hX rfl rfl dX7_init_29 ?_
  refine w_bipush 12 30 hX (by decide) dX7_init_30 ?_
  refine w_newa (n := 12) 110 32 hX (tkL (by decide)).symm (frsh (by decide) e_r116F e_u23F (by decide) (by decide)) (by decide) (by decide) (by decide) aw_int (tkQ s0_110 (by decide)) (tkQs s0_110 (by decide)) (by rw [tkL (by decide)]; decide) (tkB s0_110) dX7_init_32 ?_
  refine w_alp s0_110 ?_
  refine w_putFR (j := 6) 34 hX hNm CI_7 (tkS s0_106 (by decide)) rfl fl_X7_21 rfl rfl rfl (fun _ => rfl) (fun _ => rfl) dX7_init_34 ?_
  change WM _ _ _ _ _ _ e_r117 _
  refine w_aload_n 0 37 hX rfl rfl dX7_init_37 ?_
  refine w_bipush 12 38 hX (by decide) dX7_init_38 ?_
  refine w_newa (n := 12) 111 40 hX (tkL (by decide)).symm (frsh (by decide) e_r117F e_u23F (by decide) (by decide)) (by decide) (by decide) (by decide) aw_int (tkQ s0_111 (by decide)) (tkQs s0_111 (by decide)) (by rw [tkL (by decide)]; decide) (tkB s0_111) dX7_init_40 ?_
  refine w_alp s0_111 ?_
  refine w_putFR (j := 7) 42 hX hNm CI_7 (tkS s0_106 (by decide)) rfl fl_X7_24 rfl rfl rfl (fun _ => rfl) (fun _ => rfl) dX7_init_42 ?_
  change WM _ _ _ _ _ _ e_r118 _
  refine w_aload_n 0 45 hX rfl rfl dX7_init_45 ?_
  refine w_bipush 12 46 hX (by decide) dX7_init_46 ?_
  refine w_newa (n := 12) 112 48 hX (tkL (by decide)).symm (frsh (by decide) e_r118F e_u23F (by decide) (by decide)) (by decide) (by decide) (by decide) aw_int (tkQ s0_112 (by decide)) (tkQs s0_112 (by decide)) (by rw [tkL (by decide)]; decide) (tkB s0_112) dX7_init_48 ?_
  refine w_alp s0_112 ?_
  refine w_putFR (j := 8) 50 hX hNm CI_7 (tkS s0_106 (by decide)) rfl fl_X7_27 rfl rfl rfl (fun _ => rfl) (fun _ => rfl) dX7_init_50 ?_
  change WM _ _ _ _ _ _ e_r119 _
  refine w_aload_n 0 53 hX rfl rfl dX7_init_53 ?_
  refine w_sipush 4096 54 hX (by decide) dX7_init_54 ?_
  refine w_newa (n := 4096) 113 57 hX (tkL (by decide)).symm (frsh (by decide) e_r119F e_u23F (by decide) (by decide)) (by decide) (by decide) (by decide) aw_int (tkQ s0_113 (by decide)) (tkQs s0_113 (by decide)) (by rw [tkL (by decide)]; decide) (tkB s0_113) dX7_init_57 ?_
  refine w_alp s0_113 ?_
  refine w_putFR (j := 9) 59 hX hNm CI_7 (tkS s0_106 (by decide)) rfl fl_X7_30 rfl rfl rfl (fun _ => rfl) (fun _ => rfl) dX7_init_59 ?_
  change WM _ _ _ _ _ _ e_r120 _
  refine w_aload_n 0 62 hX rfl rfl dX7_init_62 ?_
  refine w_bipush 9 63 hX (by decide) dX7_init_63 ?_
  refine w_newa (n := 9) 114 65 hX (tkL (by decide)).symm (frsh (by decide) e_r120F e_u23F (by decide) (by decide)) (by decide) (by decide) (by decide) aw_int (tkQ s0_114 (by decide)) (tkQs s0_114 (by decide)) (by rw [tkL (by decide)]; decide) (tkB s0_114) dX7_init_65 ?_
  refine w_alp s0_114 ?_
  refine w_putFR (j := 10) 67 hX hNm CI_7 (tkS s0_106 (by decide)) rfl fl_X7_33 rfl rfl rfl (fun _ => rfl) (fun _ => rfl) dX7_init_67 ?_
  change WM _ _ _ _ _ _ e_r121 _
  refine w_aload_n 0 70 hX rfl rfl dX7_init_70 ?_
  refine w_aload_n 1 71 hX rfl rfl dX7_init_71 ?_
  refine w_putFR (j := 0) 72 hX hNm CI_7 (tkS s0_106 (by decide)) rfl fl_X7_36 rfl rfl rfl (fun _ => rfl) (fun _ => rfl) dX7_init_72 ?_
  change WM _ _ _ _ _ _ e_r122 _
  refine w_aload_n 0 75 hX rfl rfl dX7_init_75 ?_
  refine w_aload_n 2 76 hX rfl rfl dX7_init_76 ?_
  refine w_putFR (j := 1) 77 hX hNm CI_7 (tkS s0_106 (by decide)) rfl fl_X7_40 rfl rfl rfl (fun _ => rfl) (fun _ => rfl) dX7_init_77 ?_
  change WM _ _ _ _ _ _ e_r123 _
  refine w_aload_n 0 80 hX rfl rfl dX7_init_80 ?_
  refine w_aload_n 3 81 hX rfl rfl dX7_init_81 ?_
  refine w_putFR (j := 2) 82 hX hNm CI_7 (tkS s0_106 (by decide)) rfl fl_X7_44 rfl rfl rfl (fun _ => rfl) (fun _ => rfl) dX7_init_82 ?_
  change WM _ _ _ _ _ _ e_r124 _
  exact w_vret 85 hX hR dX7_init_85 rfl)
theorem KX40_122 {G : Gt} : CT G yX4_init cX4_init 1 none 1 [.ref 122] (SH.take 123) e_r131 e_u35 (none, SH.take 129, e_r137, e_u35) :=
  ct_ofN (by decide) rfl (by decide) (tkLe (by decide)) (tkM (by decide)) (fun X hX hNm hR => by
  refine w_aload_n 0 0 hX rfl rfl dX4_init_0 ?_
  refine w_objInit 1 hX ml_X4_3 oi_i oi_c (by decide) (by decide) dX4_init_1 ?_
  refine w_aload_n 0 4 hX rfl rfl dX4_init_4 ?_
  refine w_sipush 400 5 hX (by decide) dX4_init_5 ?_
  refine w_newa (n := 400) 123 8 hX (tkL (by decide)).symm (frsh (by decide) e_r131F e_u35F (by decide) (by decide)) (by decide) (by decide) (by decide) aw_int (tkQ s0_123 (by decide)) (tkQs s0_123 (by decide)) (by rw [tkL (by decide)]; decide) (tkB s0_123) dX4_init_8 ?_
  refine w_alp s0_123 ?_
  refine w_putFR (j := 0) 10 hX hNm CI_4 (tkS s0_122 (by decide)) rfl fl_X4_9 rfl rfl rfl (fun _ => rfl) (fun _ => rfl) dX4_init_10 ?_
  change WM _ _ _ _ _ _ e_r132 _
  refine w_aload_n 0 13 hX rfl rfl dX4_init_13 ?_
  refine w_bipush 16 14 hX (by decide) dX4_init_14 ?_
  refine w_newa (n := 16) 124 16 hX (tkL (by decide)).symm (frsh (by decide) e_r132F e_u35F (by decide) (by decide)) (by decide) (by decide) (by decide) aw_int (tkQ s0_124 (by decide)) (tkQs s0_124 (by decide)) (by rw [tkL (by decide)]; decide) (tkB s0_124) dX4_init_16 ?_
  refine w_alp s0_124 ?_
  refine w_putFR (j := 1) 18 hX hNm CI_4 (tkS s0_122 (by decide)) rfl fl_X4_15 rfl rfl rfl (fun _ => rfl) (fun _ => rfl) dX4_init_18 ?_
  change WM _ _ _ _ _ _ e_r133 _
  refine w_aload_n 0 21 hX rfl rfl dX4_init_21 ?_
  refine w_bipush 16 22 hX (by decide) dX4_init_22 ?_
  refine w_newa (n := 16) 125 24 hX (tkL (by decide)).symm (frsh (by decide) e_r133F e_u35F (by decide) (by decide)) (by decide) (by decide) (by decide) aw_int (tkQ s0_125 (by decide)) (tkQs s0_125 (by decide)) (by rw [tkL (by decide)]; decide) (tkB s0_125) dX4_init_24 ?_
  refine w_alp s0_125 ?_
  refine w_putFR (j := 2) 26 hX hNm CI_4 (tkS s0_122 (by decide)) rfl fl_X4_18 rfl rfl rfl (fun _ => rfl) (fun _ => rfl) dX4_init_26 ?_
  change WM _ _ _ _ _ _ e_r134 _
  refine w_aload_n 0 29 hX rfl rfl dX4_init_29 ?_
  refine w_bipush 16 30 hX (by decide) dX4_init_30 ?_
  refine w_newa (n := 16) 126 32 hX (tkL (by decide)).symm (frsh (by decide) e_r134F e_u35F (by decide) (by decide)) (by decide) (by decide) (by decide) aw_int (tkQ s0_126 (by decide)) (tkQs s0_126 (by decide)) (by rw [tkL (by decide)]; decide) (tkB s0_126) dX4_init_32 ?_
  refine w_alp s0_126 ?_
  refine w_putFR (j := 3) 34 hX hNm CI_4 (tkS s0_122 (by decide)) rfl fl_X4_21 rfl rfl rfl (fun _ => rfl) (fun _ => rfl) dX4_init_34 ?_
  change WM _ _ _ _ _ _ e_r135 _
  refine w_aload_n 0 37 hX rfl rfl dX4_init_37 ?_
  refine w_bipush 16 38 hX (by decide) dX4_init_38 ?_
  refine w_newa (n := 16) 127 40 hX (tkL (by decide)).symm (frsh (by decide) e_r135F e_u35F (by decide) (by decide)) (by decide) (by decide) (by decide) aw_int (tkQ s0_127 (by decide)) (tkQs s0_127 (by decide)) (by rw [tkL (by decide)]; decide) (tkB s0_127) dX4_init_40 ?_
  refine w_alp s0_127 ?_
  refine w_putFR (j := 4) 42 hX hNm CI_4 (tkS s0_122 (by decide)) rfl fl_X4_24 rfl rfl rfl (fun _ => rfl) (fun _ => rfl) dX4_init_42 ?_
  change WM _ _ _ _ _ _ e_r136 _
  refine w_aload_n 0 45 hX rfl rfl dX4_init_45 ?_
  refine w_bipush 32 46 hX (by decide) dX4_init_46 ?_
  refine w_newa (n := 32) 128 48 hX (tkL (by decide)).symm (frsh (by decide) e_r136F e_u35F (by decide) (by decide)) (by decide) (by decide) (by decide) aw_int (tkQ s0_128 (by decide)) (tkQs s0_128 (by decide)) (by rw [tkL (by decide)]; decide) (tkB s0_128) dX4_init_48 ?_
  refine w_alp s0_128 ?_
  refine w_putFR (j := 5) 50 hX hNm CI_4 (tkS s0_122 (by decide)) rfl fl_X4_27 rfl rfl rfl (fun _ => rfl) (fun _ => rfl) dX4_init_50 ?_
  change WM _ _ _ _ _ _ e_r137 _
  exact w_vret 53 hX hR dX4_init_53 rfl)
theorem KX50_129 {G : Gt} : CT G yX5_init cX5_init 1 none 1 [.ref 129] (SH.take 130) e_r138 e_u35 (none, SH.take 133, e_r141, e_u35) :=
  ct_ofN (by decide) rfl (by decide) (tkLe (by decide)) (tkM (by decide)) (fun X hX hNm hR => by
  refine w_aload_n 0 0 hX rfl rfl dX5_init_0 ?_
  refine w_objInit 1 hX ml_X5_3 oi_i oi_c (by decide) (by decide) dX5_init_1 ?_
  refine w_aload_n 0 4 hX rfl rfl dX5_init_4 ?_
  refine w_bipush 16 5 hX (by decide) dX5_init_5 ?_
  refine w_newa (n := 16) 130 7 hX (tkL (by decide)).symm (frsh (by decide) e_r138F e_u35F (by decide) (by decide)) (by decide) (by decide) (by decide) aw_int (tkQ s0_130 (by decide)) (tkQs s0_130 (by decide)) (by rw [tkL (by decide)]; decide) (tkB s0_130) dX5_init_7 ?_
  refine w_alp s0_130 ?_
  refine w_putFR (j := 0) 9 hX hNm CI_5 (tkS s0_129 (by decide)) rfl fl_X5_9 rfl rfl rfl (fun _ => rfl) (fun _ => rfl) dX5_init_9 ?_
  change WM _ _ _ _ _ _ e_r139 _
  refine w_aload_n 0 12 hX rfl rfl dX5_init_12 ?_
  refine w_bipush 16 13 hX (by decide) dX5_init_13 ?_
  refine w_newa (n := 16) 131 15 hX (tkL (by decide)).symm (frsh (by decide) e_r139F e_u35F (by decide) (by decide)) (by decide) (by decide) (by decide) aw_int (tkQ s0_131 (by decide)) (tkQs s0_131 (by decide)) (by rw [tkL (by decide)]; decide) (tkB s0_131) dX5_init_15 ?_
  refine w_alp s0_131 ?_
  refine w_putFR (j := 1) 17 hX hNm CI_5 (tkS s0_129 (by decide)) rfl fl_X5_15 rfl rfl rfl (fun _ => rfl) (fun _ => rfl) dX5_init_17 ?_
  change WM _ _ _ _ _ _ e_r140 _
  refine w_aload_n 0 20 hX rfl rfl dX5_init_20 ?_
  refine w_bipush 16 21 hX (by decide) dX5_init_21 ?_
  refine w_newa (n := 16) 132 23 hX (tkL (by decide)).symm (frsh (by decide) e_r140F e_u35F (by decide) (by decide)) (by decide) (by decide) (by decide) aw_int (tkQ s0_132 (by decide)) (tkQs s0_132 (by decide)) (by rw [tkL (by decide)]; decide) (tkB s0_132) dX5_init_23 ?_
  refine w_alp s0_132 ?_
  refine w_putFR (j := 2) 25 hX hNm CI_5 (tkS s0_129 (by decide)) rfl fl_X5_18 rfl rfl rfl (fun _ => rfl) (fun _ => rfl) dX5_init_25 ?_
  change WM _ _ _ _ _ _ e_r141 _
  exact w_vret 28 hX hR dX5_init_28 rfl)
theorem KX80_133 {G : Gt} : CT G yX8_init cX8_init 1 none 1 [.ref 133] (SH.take 134) e_r142 e_u35 (none, SH.take 137, e_r145, e_u35) :=
  ct_ofN (by decide) rfl (by decide) (tkLe (by decide)) (tkM (by decide)) (fun X hX hNm hR => by
  refine w_aload_n 0 0 hX rfl rfl dX8_init_0 ?_
  refine w_objInit 1 hX ml_X8_3 oi_i oi_c (by decide) (by decide) dX8_init_1 ?_
  refine w_aload_n 0 4 hX rfl rfl dX8_init_4 ?_
  refine w_bipush 10 5 hX (by decide) dX8_init_5 ?_
  refine w_newa (n := 10) 134 7 hX (tkL (by decide)).symm (frsh (by decide) e_r142F e_u35F (by decide) (by decide)) (by decide) (by decide) (by decide) aw_int (tkQ s0_134 (by decide)) (tkQs s0_134 (by decide)) (by rw [tkL (by decide)]; decide) (tkB s0_134) dX8_init_7 ?_
  refine w_alp s0_134 ?_
  refine w_putFR (j := 0) 9 hX hNm CI_8 (tkS s0_133 (by decide)) rfl fl_X8_11 rfl rfl rfl (fun _ => rfl) (fun _ => rfl) dX8_init_9 ?_
  change WM _ _ _ _ _ _ e_r143 _
  refine w_aload_n 0 12 hX rfl rfl dX8_init_12 ?_
  refine w_bipush 10 13 hX (by decide) dX8_init_13 ?_
  refine w_newa (n := 10) 135 15 hX (tkL (by decide)).symm (frsh (by decide) e_r143F e_u35F (by decide) (by decide)) (by decide) (by decide) (by decide) aw_int (tkQ s0_135 (by decide)) (tkQs s0_135 (by decide)) (by rw [tkL (by decide)]; decide) (tkB s0_135) dX8_init_15 ?_
  refine w_alp s0_135 ?_
  refine w_putFR (j := 1) 17 hX hNm CI_8 (tkS s0_133 (by decide)) rfl fl_X8_15 rfl rfl rfl (fun _ => rfl) (fun _ => rfl) dX8_init_17 ?_
  change WM _ _ _ _ _ _ e_r144 _
  refine w_aload_n 0 20 hX rfl rfl dX8_init_20 ?_
  refine w_bipush 10 21 hX (by decide) dX8_init_21 ?_
  refine w_newa (n := 10) 136 23 hX (tkL (by decide)).symm (frsh (by decide) e_r144F e_u35F (by decide) (by decide)) (by decide) (by decide) (by decide) aw_int (tkQ s0_136 (by decide)) (tkQs s0_136 (by decide)) (by rw [tkL (by decide)]; decide) (tkB s0_136) dX8_init_23 ?_
  refine w_alp s0_136 ?_
  refine w_putFR (j := 2) 25 hX hNm CI_8 (tkS s0_133 (by decide)) rfl fl_X8_18 rfl rfl rfl (fun _ => rfl) (fun _ => rfl) dX8_init_25 ?_
  change WM _ _ _ _ _ _ e_r145 _
  exact w_vret 28 hX hR dX8_init_28 rfl)
theorem KX90_115 {G : Gt} : CT G yX9_init cX9_init 1 none 2 [.ref 115] (SH.take 116) e_r125 e_u23 (none, SH.take 137, e_r146, e_u35) :=
  ct_ofN (by decide) rfl (by decide) (tkLe (by decide)) (tkM (by decide)) (fun X hX hNm hR => by
  refine w_aload_n 0 0 hX rfl rfl dX9_init_0 ?_
  refine w_objInit 1 hX ml_X9_3 oi_i oi_c (by decide) (by decide) dX9_init_1 ?_
  refine w_aload_n 0 4 hX rfl rfl dX9_init_4 ?_
  refine w_bipush 12 5 hX (by decide) dX9_init_5 ?_
  refine w_newa (n := 12) 116 7 hX (tkL (by decide)).symm (frsh (by decide) e_r125F e_u23F (by decide) (by decide)) (by decide) (by decide) (by decide) aw_int (tkQ s0_116 (by decide)) (tkQs s0_116 (by decide)) (by rw [tkL (by decide)]; decide) (tkB s0_116) dX9_init_7 ?_
  refine w_alp s0_116 ?_
  refine w_putFR (j := 1) 9 hX hNm CI_9 (tkS s0_115 (by decide)) rfl fl_X9_9 rfl rfl rfl (fun _ => rfl) (fun _ => rfl) dX9_init_9 ?_
  change WM _ _ _ _ _ _ e_r126 _
  refine w_aload_n 0 12 hX rfl rfl dX9_init_12 ?_
  refine w_bipush 12 13 hX (by decide) dX9_init_13 ?_
  refine w_newa (n := 12) 117 15 hX (tkL (by decide)).symm (frsh (by decide) e_r126F e_u23F (by decide) (by decide)) (by decide) (by decide) (by decide) aw_int (tkQ s0_117 (by decide)) (tkQs s0_117 (by decide)) (by rw [tkL (by decide)]; decide) (tkB s0_117) dX9_init_15 ?_
  refine w_alp s0_117 ?_
  refine w_putFR (j := 2) 17 hX hNm CI_9 (tkS s0_115 (by decide)) rfl fl_X9_15 rfl rfl rfl (fun _ => rfl) (fun _ => rfl) dX9_init_17 ?_
  change WM _ _ _ _ _ _ e_r127 _
  refine w_aload_n 0 20 hX rfl rfl dX9_init_20 ?_
  refine w_bipush 12 21 hX (by decide) dX9_init_21 ?_
  refine w_newa (n := 12) 118 23 hX (tkL (by decide)).symm (frsh (by decide) e_r127F e_u23F (by decide) (by decide)) (by decide) (by decide) (by decide) aw_int (tkQ s0_118 (by decide)) (tkQs s0_118 (by decide)) (by rw [tkL (by decide)]; decide) (tkB s0_118) dX9_init_23 ?_
  refine w_alp s0_118 ?_
  refine w_putFR (j := 3) 25 hX hNm CI_9 (tkS s0_115 (by decide)) rfl fl_X9_18 rfl rfl rfl (fun _ => rfl) (fun _ => rfl) dX9_init_25 ?_
  change WM _ _ _ _ _ _ e_r128 _
  refine w_aload_n 0 28 hX rfl rfl dX9_init_28 ?_
  refine w_bipush 12 29 hX (by decide) dX9_init_29 ?_
  refine w_newa (n := 12) 119 31 hX (tkL (by decide)).symm (frsh (by decide) e_r128F e_u23F (by decide) (by decide)) (by decide) (by decide) (by decide) aw_int (tkQ s0_119 (by decide)) (tkQs s0_119 (by decide)) (by rw [tkL (by decide)]; decide) (tkB s0_119) dX9_init_31 ?_
  refine w_alp s0_119 ?_
  refine w_putFR (j := 4) 33 hX hNm CI_9 (tkS s0_115 (by decide)) rfl fl_X9_21 rfl rfl rfl (fun _ => rfl) (fun _ => rfl) dX9_init_33 ?_
  change WM _ _ _ _ _ _ e_r129 _
  refine w_aload_n 0 36 hX rfl rfl dX9_init_36 ?_
  refine w_iconst 2 37 hX (by decide) dX9_init_37 ?_
  refine w_newa (n := 2) 120 38 hX (tkL (by decide)).symm (frsh (by decide) e_r129F e_u23F (by decide) (by decide)) (by decide) (by decide) (by decide) aw_int (tkQ s0_120 (by decide)) (tkQs s0_120 (by decide)) (by rw [tkL (by decide)]; decide) (tkB s0_120) dX9_init_38 ?_
  refine w_alp s0_120 ?_
  refine w_dup 40 hX rfl dX9_init_40 ?_
  refine w_iconst 0 41 hX (by decide) dX9_init_41 ?_
  refine w_iconst 2 42 hX (by decide) dX9_init_42 ?_
  refine w_iast (u' := e_u24) 43 hX (tkS s0_120 (by decide)) (wrK 0 0 (by decide) (by decide) (by decide) rfl) dX9_init_43 ?_
  refine w_dup 44 hX rfl dX9_init_44 ?_
  refine w_iconst 1 45 hX (by decide) dX9_init_45 ?_
  refine w_iconst 2 46 hX (by decide) dX9_init_46 ?_
  refine w_iast (u' := e_u25) 47 hX (tkS s0_120 (by decide)) (wrK 1 1 (by decide) (by decide) (by decide) rfl) dX9_init_47 ?_
  refine w_putFR (j := 5) 48 hX hNm CI_9 (tkS s0_115 (by decide)) rfl fl_X9_24 rfl rfl rfl (fun _ => rfl) (fun _ => rfl) dX9_init_48 ?_
  change WM _ _ _ _ _ _ e_r130 _
  refine w_aload_n 0 51 hX rfl rfl dX9_init_51 ?_
  refine w_bipush 8 52 hX (by decide) dX9_init_52 ?_
  refine w_newa (n := 8) 121 54 hX (tkL (by decide)).symm (frsh (by decide) e_r130F e_u25F (by decide) (by decide)) (by decide) (by decide) (by decide) aw_int (tkQ s0_121 (by decide)) (tkQs s0_121 (by decide)) (by rw [tkL (by decide)]; decide) (tkB s0_121) dX9_init_54 ?_
  refine w_alp s0_121 ?_
  refine w_dup 56 hX rfl dX9_init_56 ?_
  refine w_iconst 0 57 hX (by decide) dX9_init_57 ?_
  refine w_iconst 1 58 hX (by decide) dX9_init_58 ?_
  refine w_iast (u' := e_u26) 59 hX (tkS s0_121 (by decide)) (wrK 0 0 (by decide) (by decide) (by decide) rfl) dX9_init_59 ?_
  refine w_dup 60 hX rfl dX9_init_60 ?_
  refine w_iconst 1 61 hX (by decide) dX9_init_61 ?_
  refine w_iconst 1 62 hX (by decide) dX9_init_62 ?_
  refine w_iast (u' := e_u27) 63 hX (tkS s0_121 (by decide)) (wrK 1 1 (by decide) (by decide) (by decide) rfl) dX9_init_63 ?_
  refine w_dup 64 hX rfl dX9_init_64 ?_
  refine w_iconst 2 65 hX (by decide) dX9_init_65 ?_
  refine w_iconst 1 66 hX (by decide) dX9_init_66 ?_
  refine w_iast (u' := e_u28) 67 hX (tkS s0_121 (by decide)) (wrK 2 2 (by decide) (by decide) (by decide) rfl) dX9_init_67 ?_
  refine w_dup 68 hX rfl dX9_init_68 ?_
  refine w_iconst 3 69 hX (by decide) dX9_init_69 ?_
  refine w_iconst 1 70 hX (by decide) dX9_init_70 ?_
  refine w_iast (u' := e_u29) 71 hX (tkS s0_121 (by decide)) (wrK 3 3 (by decide) (by decide) (by decide) rfl) dX9_init_71 ?_
  refine w_dup 72 hX rfl dX9_init_72 ?_
  refine w_iconst 4 73 hX (by decide) dX9_init_73 ?_
  refine w_iconst 1 74 hX (by decide) dX9_init_74 ?_
  refine w_iast (u' := e_u30) 75 hX (tkS s0_121 (by decide)) (wrK 4 4 (by decide) (by decide) (by decide) rfl) dX9_init_75 ?_
  refine w_dup 76 hX rfl dX9_init_76 ?_
  refine w_iconst 5 77 hX (by decide) dX9_init_77 ?_
  refine w_iconst 1 78 hX (by decide) dX9_init_78 ?_
  refine w_iast (u' := e_u31) 79 hX (tkS s0_121 (by decide)) (wrK 5 5 (by decide) (by decide) (by decide) rfl) dX9_init_79 ?_
  refine w_dup 80 hX rfl dX9_init_80 ?_
  refine w_bipush 6 81 hX (by decide) dX9_init_81 ?_
  refine w_iconst 1 83 hX (by decide) dX9_init_83 ?_
  refine w_iast (u' := e_u32) 84 hX (tkS s0_121 (by decide)) (wrK 6 6 (by decide) (by decide) (by decide) rfl) dX9_init_84 ?_
  refine w_dup 85 hX rfl dX9_init_85 ?_
  refine w_bipush 7 86 hX (by decide) dX9_init_86 ?_
  refine w_iconst 1 88 hX (by decide) dX9_init_88 ?_
  refine w_iast (u' := e_u33) 89 hX (tkS s0_121 (by decide)) (wrK 7 7 (by decide) (by decide) (by decide) rfl) dX9_init_89 ?_
  refine w_putFR (j := 6) 90 hX hNm CI_9 (tkS s0_115 (by decide)) rfl fl_X9_27 rfl rfl rfl (fun _ => rfl) (fun _ => rfl) dX9_init_90 ?_
  change WM _ _ _ _ _ _ e_r131 _
  refine w_aload_n 0 93 hX rfl rfl dX9_init_93 ?_
  refine w_iconst 1 94 hX (by decide) dX9_init_94 ?_
  refine w_putI (j := 7) 95 hX CI_9 (tkS s0_115 (by decide)) rfl fl_X9_30 rfl rfl (by decide) (by decide) dX9_init_95 ?_
  change WM _ _ _ _ _ _ _ e_u34
  refine w_aload_n 0 98 hX rfl rfl dX9_init_98 ?_
  refine w_iconst 3 99 hX (by decide) dX9_init_99 ?_
  refine w_putI (j := 9) 100 hX CI_9 (tkS s0_115 (by decide)) rfl fl_X9_34 rfl rfl (by decide) (by decide) dX9_init_100 ?_
  change WM _ _ _ _ _ _ _ e_u35
  refine w_aload_n 0 103 hX rfl rfl dX9_init_103 ?_
  refine w_new 122 104 hX CI_4 (tkL (by decide)).symm (frsh (by decide) e_r131F e_u35F (by decide) (by decide)) dvW_4 cl_X9_37 insW_4 izW_4 (tkQ s0_122 (by decide)) (tkQs s0_122 (by decide)) (by rw [tkL (by decide)]; decide) (tkB s0_122) dX9_init_104 ?_
  refine w_alp s0_122 ?_
  refine w_dup 107 hX rfl dX9_init_107 ?_
  refine w_invINv (a := 122) (av := []) (st := [.ref 122, .ref 115]) 108 hX CI_4 (tkS s0_122 (by decide)) mo_yX4_init rfl mi_yX4_init ml_X9_39 KX40_122 rfl (by decide) (by decide) (tkLe (by decide)) (tkM (by decide)) dX9_init_108 ?_
  refine w_putFR (j := 13) 111 hX hNm CI_9 (tkS s0_115 (by decide)) rfl fl_X9_40 rfl rfl rfl (fun _ => rfl) (fun _ => rfl) dX9_init_111 ?_
  change WM _ _ _ _ _ _ e_r138 _
  refine w_aload_n 0 114 hX rfl rfl dX9_init_114 ?_
  refine w_new 129 115 hX CI_5 (tkL (by decide)).symm (frsh (by decide) e_r138F e_u35F (by decide) (by decide)) dvW_5 cl_X9_44 insW_5 izW_5 (tkQ s0_129 (by decide)) (tkQs s0_129 (by decide)) (by rw [tkL (by decide)]; decide) (tkB s0_129) dX9_init_115 ?_
  refine w_alp s0_129 ?_
  refine w_dup 118 hX rfl dX9_init_118 ?_
  refine w_invINv (a := 129) (av := []) (st := [.ref 129, .ref 115]) 119 hX CI_5 (tkS s0_129 (by decide)) mo_yX5_init rfl mi_yX5_init ml_X9_46 KX50_129 rfl (by decide) (by decide) (tkLe (by decide)) (tkM (by decide)) dX9_init_119 ?_
  refine w_putFR (j := 14) 122 hX hNm CI_9 (tkS s0_115 (by decide)) rfl fl_X9_47 rfl rfl rfl (fun _ => rfl) (fun _ => rfl) dX9_init_122 ?_
  change WM _ _ _ _ _ _ e_r142 _
  refine w_aload_n 0 125 hX rfl rfl dX9_init_125 ?_
  refine w_new 133 126 hX CI_8 (tkL (by decide)).symm (frsh (by decide) e_r142F e_u35F (by decide) (by decide)) dvW_8 cl_X9_51 insW_8 izW_8 (tkQ s0_133 (by decide)) (tkQs s0_133 (by decide)) (by rw [tkL (by decide)]; decide) (tkB s0_133) dX9_init_126 ?_
  refine w_alp s0_133 ?_
  refine w_dup 129 hX rfl dX9_init_129 ?_
  refine w_invINv (a := 133) (av := []) (st := [.ref 133, .ref 115]) 130 hX CI_8 (tkS s0_133 (by decide)) mo_yX8_init rfl mi_yX8_init ml_X9_53 KX80_133 rfl (by decide) (by decide) (tkLe (by decide)) (tkM (by decide)) dX9_init_130 ?_
  refine w_putFR (j := 15) 133 hX hNm CI_9 (tkS s0_115 (by decide)) rfl fl_X9_54 rfl rfl rfl (fun _ => rfl) (fun _ => rfl) dX9_init_133 ?_
  change WM _ _ _ _ _ _ e_r146 _
  exact w_vret 136 hX hR dX9_init_136 rfl)
theorem KX00_137 {G : Gt} : CT G yX0_init cX0_init 1 none 1 [.ref 137] (SH.take 138) e_r147 e_u35 (none, SH.take 144, e_r153, e_u36) :=
  ct_ofN (by decide) rfl (by decide) (tkLe (by decide)) (tkM (by decide)) (fun X hX hNm hR => by
  refine w_aload_n 0 0 hX rfl rfl dX0_init_0 ?_
  refine w_objInit 1 hX ml_X0_3 oi_i oi_c (by decide) (by decide) dX0_init_1 ?_
  refine w_aload_n 0 4 hX rfl rfl dX0_init_4 ?_
  refine w_bipush 12 5 hX (by decide) dX0_init_5 ?_
  refine w_newa (n := 12) 138 7 hX (tkL (by decide)).symm (frsh (by decide) e_r147F e_u35F (by decide) (by decide)) (by decide) (by decide) (by decide) aw_int (tkQ s0_138 (by decide)) (tkQs s0_138 (by decide)) (by rw [tkL (by decide)]; decide) (tkB s0_138) dX0_init_7 ?_
  refine w_alp s0_138 ?_
  refine w_putFR (j := 0) 9 hX hNm CI_0 (tkS s0_137 (by decide)) rfl fl_X0_9 rfl rfl rfl (fun _ => rfl) (fun _ => rfl) dX0_init_9 ?_
  change WM _ _ _ _ _ _ e_r148 _
  refine w_aload_n 0 12 hX rfl rfl dX0_init_12 ?_
  refine w_bipush 12 13 hX (by decide) dX0_init_13 ?_
  refine w_newa (n := 12) 139 15 hX (tkL (by decide)).symm (frsh (by decide) e_r148F e_u35F (by decide) (by decide)) (by decide) (by decide) (by decide) aw_int (tkQ s0_139 (by decide)) (tkQs s0_139 (by decide)) (by rw [tkL (by decide)]; decide) (tkB s0_139) dX0_init_15 ?_
  refine w_alp s0_139 ?_
  refine w_putFR (j := 1) 17 hX hNm CI_0 (tkS s0_137 (by decide)) rfl fl_X0_15 rfl rfl rfl (fun _ => rfl) (fun _ => rfl) dX0_init_17 ?_
  change WM _ _ _ _ _ _ e_r149 _
  refine w_aload_n 0 20 hX rfl rfl dX0_init_20 ?_
  refine w_bipush 12 21 hX (by decide) dX0_init_21 ?_
  refine w_newa (n := 12) 140 23 hX (tkL (by decide)).symm (frsh (by decide) e_r149F e_u35F (by decide) (by decide)) (by decide) (by decide) (by decide) aw_int (tkQ s0_140 (by decide)) (tkQs s0_140 (by decide)) (by rw [tkL (by decide)]; decide) (tkB s0_140) dX0_init_23 ?_
  refine w_alp s0_140 ?_
  refine w_putFR (j := 2) 25 hX hNm CI_0 (tkS s0_137 (by decide)) rfl fl_X0_18 rfl rfl rfl (fun _ => rfl) (fun _ => rfl) dX0_init_25 ?_
  change WM _ _ _ _ _ _ e_r150 _
  refine w_aload_n 0 28 hX rfl rfl dX0_init_28 ?_
  refine w_bipush 12 29 hX (by decide) dX0_init_29 ?_
  refine w_newa (n := 12) 141 31 hX (tkL (by decide)).symm (frsh (by decide) e_r150F e_u35F (by decide) (by decide)) (by decide) (by decide) (by decide) aw_int (tkQ s0_141 (by decide)) (tkQs s0_141 (by decide)) (by rw [tkL (by decide)]; decide) (tkB s0_141) dX0_init_31 ?_
  refine w_alp s0_141 ?_
  refine w_putFR (j := 3) 33 hX hNm CI_0 (tkS s0_137 (by decide)) rfl fl_X0_21 rfl rfl rfl (fun _ => rfl) (fun _ => rfl) dX0_init_33 ?_
  change WM _ _ _ _ _ _ e_r151 _
  refine w_aload_n 0 36 hX rfl rfl dX0_init_36 ?_
  refine w_bipush 12 37 hX (by decide) dX0_init_37 ?_
  refine w_newa (n := 12) 142 39 hX (tkL (by decide)).symm (frsh (by decide) e_r151F e_u35F (by decide) (by decide)) (by decide) (by decide) (by decide) aw_int (tkQ s0_142 (by decide)) (tkQs s0_142 (by decide)) (by rw [tkL (by decide)]; decide) (tkB s0_142) dX0_init_39 ?_
  refine w_alp s0_142 ?_
  refine w_putFR (j := 4) 41 hX hNm CI_0 (tkS s0_137 (by decide)) rfl fl_X0_24 rfl rfl rfl (fun _ => rfl) (fun _ => rfl) dX0_init_41 ?_
  change WM _ _ _ _ _ _ e_r152 _
  refine w_aload_n 0 44 hX rfl rfl dX0_init_44 ?_
  refine w_bipush 12 45 hX (by decide) dX0_init_45 ?_
  refine w_newa (n := 12) 143 47 hX (tkL (by decide)).symm (frsh (by decide) e_r152F e_u35F (by decide) (by decide)) (by decide) (by decide) (by decide) aw_int (tkQ s0_143 (by decide)) (tkQs s0_143 (by decide)) (by rw [tkL (by decide)]; decide) (tkB s0_143) dX0_init_47 ?_
  refine w_alp s0_143 ?_
  refine w_putFR (j := 5) 49 hX hNm CI_0 (tkS s0_137 (by decide)) rfl fl_X0_27 rfl rfl rfl (fun _ => rfl) (fun _ => rfl) dX0_init_49 ?_
  change WM _ _ _ _ _ _ e_r153 _
  refine w_aload_n 0 52 hX rfl rfl dX0_init_52 ?_
  refine w_iconst 1 53 hX (by decide) dX0_init_53 ?_
  refine w_putI (j := 6) 54 hX CI_0 (tkS s0_137 (by decide)) rfl fl_X0_30 rfl rfl (by decide) (by decide) dX0_init_54 ?_
  change WM _ _ _ _ _ _ _ e_u36
  exact w_vret 57 hX hR dX0_init_57 rfl)
theorem KX10_144 {G : Gt} : CT G yX1_init cX1_init 1 none 1 [.ref 144] (SH.take 145) e_r154 e_u36 (none, SH.take 146, e_r155, e_u36) :=
  ct_ofN (by decide) rfl (by decide) (tkLe (by decide)) (tkM (by decide)) (fun X hX hNm hR => by
  refine w_aload_n 0 0 hX rfl rfl dX1_init_0 ?_
  refine w_objInit 1 hX ml_X1_3 oi_i oi_c (by decide) (by decide) dX1_init_1 ?_
  refine w_aload_n 0 4 hX rfl rfl dX1_init_4 ?_
  refine w_sipush 600 5 hX (by decide) dX1_init_5 ?_
  refine w_newa (n := 600) 145 8 hX (tkL (by decide)).symm (frsh (by decide) e_r154F e_u36F (by decide) (by decide)) (by decide) (by decide) (by decide) aw_int (tkQ s0_145 (by decide)) (tkQs s0_145 (by decide)) (by rw [tkL (by decide)]; decide) (tkB s0_145) dX1_init_8 ?_
  refine w_alp s0_145 ?_
  refine w_putFR (j := 0) 10 hX hNm CI_1 (tkS s0_144 (by decide)) rfl fl_X1_11 rfl rfl rfl (fun _ => rfl) (fun _ => rfl) dX1_init_10 ?_
  change WM _ _ _ _ _ _ e_r155 _
  exact w_vret 13 hX hR dX1_init_13 rfl)
theorem KX110_0 {G : Gt} : CT G yX11_init cX11_init 1 none 3 [.ref 0] (SH.take 1) e_r0 e_u0 (none, SH.take 146, e_r156, e_u37) :=
  ct_ofN (by decide) rfl (by decide) (tkLe (by decide)) (tkM (by decide)) (fun X hX hNm hR => by
  refine w_aload_n 0 0 hX rfl rfl dX11_init_0 ?_
  refine w_objInit 1 hX ml_X11_1 oi_i oi_c (by decide) (by decide) dX11_init_1 ?_
  refine w_aload_n 0 4 hX rfl rfl dX11_init_4 ?_
  refine w_new 1 5 hX CI_9 (tkL (by decide)).symm (frsh (by decide) e_r0F e_u0F (by decide) (by decide)) dvW_9 cl_X11_7 insW_9 izW_9 (tkQ s0_1 (by decide)) (tkQs s0_1 (by decide)) (by rw [tkL (by decide)]; decide) (tkB s0_1) dX11_init_5 ?_
  refine w_alp s0_1 ?_
  refine w_dup 8 hX rfl dX11_init_8 ?_
  refine w_invINv (a := 1) (av := []) (st := [.ref 1, .ref 0]) 9 hX CI_9 (tkS s0_1 (by decide)) mo_yX9_init rfl mi_yX9_init ml_X11_9 KX90_1 rfl (by decide) (by decide) (tkLe (by decide)) (tkM (by decide)) dX11_init_9 ?_
  refine w_putFR (j := 0) 12 hX hNm CI_11 (tkS s0_0 (by decide)) rfl fl_X11_10 rfl rfl rfl (fun _ => rfl) (fun _ => rfl) dX11_init_12 ?_
  change WM _ _ _ _ _ _ e_r22 _
  refine w_aload_n 0 15 hX rfl rfl dX11_init_15 ?_
  refine w_new 23 16 hX CI_0 (tkL (by decide)).symm (frsh (by decide) e_r22F e_u12F (by decide) (by decide)) dvW_0 cl_X11_16 insW_0 izW_0 (tkQ s0_23 (by decide)) (tkQs s0_23 (by decide)) (by rw [tkL (by decide)]; decide) (tkB s0_23) dX11_init_16 ?_
  refine w_alp s0_23 ?_
  refine w_dup 19 hX rfl dX11_init_19 ?_
  refine w_invINv (a := 23) (av := []) (st := [.ref 23, .ref 0]) 20 hX CI_0 (tkS s0_23 (by decide)) mo_yX0_init rfl mi_yX0_init ml_X11_18 KX00_23 rfl (by decide) (by decide) (tkLe (by decide)) (tkM (by decide)) dX11_init_20 ?_
  refine w_putFR (j := 1) 23 hX hNm CI_11 (tkS s0_0 (by decide)) rfl fl_X11_19 rfl rfl rfl (fun _ => rfl) (fun _ => rfl) dX11_init_23 ?_
  change WM _ _ _ _ _ _ e_r29 _
  refine w_aload_n 0 26 hX rfl rfl dX11_init_26 ?_
  refine w_new 30 27 hX CI_1 (tkL (by decide)).symm (frsh (by decide) e_r29F e_u13F (by decide) (by decide)) dvW_1 cl_X11_23 insW_1 izW_1 (tkQ s0_30 (by decide)) (tkQs s0_30 (by decide)) (by rw [tkL (by decide)]; decide) (tkB s0_30) dX11_init_27 ?_
  refine w_alp s0_30 ?_
  refine w_dup 30 hX rfl dX11_init_30 ?_
  refine w_invINv (a := 30) (av := []) (st := [.ref 30, .ref 0]) 31 hX CI_1 (tkS s0_30 (by decide)) mo_yX1_init rfl mi_yX1_init ml_X11_25 KX10_30 rfl (by decide) (by decide) (tkLe (by decide)) (tkM (by decide)) dX11_init_31 ?_
  refine w_putFR (j := 2) 34 hX hNm CI_11 (tkS s0_0 (by decide)) rfl fl_X11_26 rfl rfl rfl (fun _ => rfl) (fun _ => rfl) dX11_init_34 ?_
  change WM _ _ _ _ _ _ e_r31 _
  refine w_aload_n 0 37 hX rfl rfl dX11_init_37 ?_
  refine w_new 32 38 hX CI_3 (tkL (by decide)).symm (frsh (by decide) e_r31F e_u13F (by decide) (by decide)) dvW_3 cl_X11_30 insW_3 izW_3 (tkQ s0_32 (by decide)) (tkQs s0_32 (by decide)) (by rw [tkL (by decide)]; decide) (tkB s0_32) dX11_init_38 ?_
  refine w_alp s0_32 ?_
  refine w_dup 41 hX rfl dX11_init_41 ?_
  refine w_aload_n 0 42 hX rfl rfl dX11_init_42 ?_
  refine w_getR (q := 1) 43 hX CI_11 (tkS s0_0 (by decide)) rfl (by decide) fl_X11_10 rfl dX11_init_43 ?_
  refine w_aload_n 0 46 hX rfl rfl dX11_init_46 ?_
  refine w_getR (q := 23) 47 hX CI_11 (tkS s0_0 (by decide)) rfl (by decide) fl_X11_19 rfl dX11_init_47 ?_
  refine w_aload_n 0 50 hX rfl rfl dX11_init_50 ?_
  refine w_getR (q := 30) 51 hX CI_11 (tkS s0_0 (by decide)) rfl (by decide) fl_X11_26 rfl dX11_init_51 ?_
  refine w_iconst 1 54 hX (by decide) dX11_init_54 ?_
  refine w_invIv (a := 32) (av := [.ref 1, .ref 23, .ref 30, .int 1]) (st := [.ref 32, .ref 0]) 55 hX CI_3 (tkS s0_32 (by decide)) mo_yX3_init rfl mi_yX3_init ml_X11_32 KX30_32 rfl (by decide) (by decide) (tkLe (by decide)) (tkM (by decide)) dX11_init_55 ?_
  refine w_putFR (j := 3) 58 hX hNm CI_11 (tkS s0_0 (by decide)) rfl fl_X11_35 rfl rfl rfl (fun _ => rfl) (fun _ => rfl) dX11_init_58 ?_
  change WM _ _ _ _ _ _ e_r36 _
  refine w_aload_n 0 61 hX rfl rfl dX11_init_61 ?_
  refine w_new 34 62 hX CI_6 (tkL (by decide)).symm (frsh (by decide) e_r36F e_u14F (by decide) (by decide)) dvW_6 cl_X11_39 insW_6 izW_6 (tkQ s0_34 (by decide)) (tkQs s0_34 (by decide)) (by rw [tkL (by decide)]; decide) (tkB s0_34) dX11_init_62 ?_
  refine w_alp s0_34 ?_
  refine w_dup 65 hX rfl dX11_init_65 ?_
  refine w_invINv (a := 34) (av := []) (st := [.ref 34, .ref 0]) 66 hX CI_6 (tkS s0_34 (by decide)) mo_yX6_init rfl mi_yX6_init ml_X11_41 KX60_34 rfl (by decide) (by decide) (tkLe (by decide)) (tkM (by decide)) dX11_init_66 ?_
  refine w_putFR (j := 4) 69 hX hNm CI_11 (tkS s0_0 (by decide)) rfl fl_X11_42 rfl rfl rfl (fun _ => rfl) (fun _ => rfl) dX11_init_69 ?_
  change WM _ _ _ _ _ _ e_r54 _
  refine w_aload_n 0 72 hX rfl rfl dX11_init_72 ?_
  refine w_new 52 73 hX CI_10 (tkL (by decide)).symm (frsh (by decide) e_r54F e_u15F (by decide) (by decide)) dvW_10 cl_X11_46 insW_10 izW_10 (tkQ s0_52 (by decide)) (tkQs s0_52 (by decide)) (by rw [tkL (by decide)]; decide) (tkB s0_52) dX11_init_73 ?_
  refine w_alp s0_52 ?_
  refine w_dup 76 hX rfl dX11_init_76 ?_
  refine w_invIv (a := 52) (av := []) (st := [.ref 52, .ref 0]) 77 hX CI_10 (tkS s0_52 (by decide)) mo_yX10_init rfl mi_yX10_init ml_X11_48 KX100_52 rfl (by decide) (by decide) (tkLe (by decide)) (tkM (by decide)) dX11_init_77 ?_
  refine w_putFR (j := 5) 80 hX hNm CI_11 (tkS s0_0 (by decide)) rfl fl_X11_49 rfl rfl rfl (fun _ => rfl) (fun _ => rfl) dX11_init_80 ?_
  change WM _ _ _ _ _ _ e_r98 _
  refine w_aload_n 0 83 hX rfl rfl dX11_init_83 ?_
  refine w_new 96 84 hX CI_2 (tkL (by decide)).symm (frsh (by decide) e_r98F e_u21F (by decide) (by decide)) dvW_2 cl_X11_53 insW_2 izW_2 (tkQ s0_96 (by decide)) (tkQs s0_96 (by decide)) (by rw [tkL (by decide)]; decide) (tkB s0_96) dX11_init_84 ?_
  refine w_alp s0_96 ?_
  refine w_dup 87 hX rfl dX11_init_87 ?_
  refine w_aload_n 0 88 hX rfl rfl dX11_init_88 ?_
  refine w_getR (q := 1) 89 hX CI_11 (tkS s0_0 (by decide)) rfl (by decide) fl_X11_10 rfl dX11_init_89 ?_
  refine w_aload_n 0 92 hX rfl rfl dX11_init_92 ?_
  refine w_getR (q := 23) 93 hX CI_11 (tkS s0_0 (by decide)) rfl (by decide) fl_X11_19 rfl dX11_init_93 ?_
  refine w_aload_n 0 96 hX rfl rfl dX11_init_96 ?_
  refine w_getR (q := 30) 97 hX CI_11 (tkS s0_0 (by decide)) rfl (by decide) fl_X11_26 rfl dX11_init_97 ?_
  refine w_invIv (a := 96) (av := [.ref 1, .ref 23, .ref 30]) (st := [.ref 96, .ref 0]) 100 hX CI_2 (tkS s0_96 (by decide)) mo_yX2_init rfl mi_yX2_init ml_X11_55 KX20_96 rfl (by decide) (by decide) (tkLe (by decide)) (tkM (by decide)) dX11_init_100 ?_
  refine w_putFR (j := 6) 103 hX hNm CI_11 (tkS s0_0 (by decide)) rfl fl_X11_58 rfl rfl rfl (fun _ => rfl) (fun _ => rfl) dX11_init_103 ?_
  change WM _ _ _ _ _ _ e_r113 _
  refine w_aload_n 0 106 hX rfl rfl dX11_init_106 ?_
  refine w_new 106 107 hX CI_7 (tkL (by decide)).symm (frsh (by decide) e_r113F e_u23F (by decide) (by decide)) dvW_7 cl_X11_62 insW_7 izW_7 (tkQ s0_106 (by decide)) (tkQs s0_106 (by decide)) (by rw [tkL (by decide)]; decide) (tkB s0_106) dX11_init_107 ?_
  refine w_alp s0_106 ?_
  refine w_dup 110 hX rfl dX11_init_110 ?_
  refine w_aload_n 0 111 hX rfl rfl dX11_init_111 ?_
  refine w_getR (q := 1) 112 hX CI_11 (tkS s0_0 (by decide)) rfl (by decide) fl_X11_10 rfl dX11_init_112 ?_
  refine w_aload_n 0 115 hX rfl rfl dX11_init_115 ?_
  refine w_getR (q := 23) 116 hX CI_11 (tkS s0_0 (by decide)) rfl (by decide) fl_X11_19 rfl dX11_init_116 ?_
  refine w_aload_n 0 119 hX rfl rfl dX11_init_119 ?_
  refine w_getR (q := 32) 120 hX CI_11 (tkS s0_0 (by decide)) rfl (by decide) fl_X11_35 rfl dX11_init_120 ?_
  refine w_invIv (a := 106) (av := [.ref 1, .ref 23, .ref 32]) (st := [.ref 106, .ref 0]) 123 hX CI_7 (tkS s0_106 (by decide)) mo_yX7_init rfl mi_yX7_init ml_X11_64 KX70_106 rfl (by decide) (by decide) (tkLe (by decide)) (tkM (by decide)) dX11_init_123 ?_
  refine w_putFR (j := 7) 126 hX hNm CI_11 (tkS s0_0 (by decide)) rfl fl_X11_67 rfl rfl rfl (fun _ => rfl) (fun _ => rfl) dX11_init_126 ?_
  change WM _ _ _ _ _ _ e_r125 _
  refine w_aload_n 0 129 hX rfl rfl dX11_init_129 ?_
  refine w_new 115 130 hX CI_9 (tkL (by decide)).symm (frsh (by decide) e_r125F e_u23F (by decide) (by decide)) dvW_9 cl_X11_7 insW_9 izW_9 (tkQ s0_115 (by decide)) (tkQs s0_115 (by decide)) (by rw [tkL (by decide)]; decide) (tkB s0_115) dX11_init_130 ?_
  refine w_alp s0_115 ?_
  refine w_dup 133 hX rfl dX11_init_133 ?_
  refine w_invINv (a := 115) (av := []) (st := [.ref 115, .ref 0]) 134 hX CI_9 (tkS s0_115 (by decide)) mo_yX9_init rfl mi_yX9_init ml_X11_9 KX90_115 rfl (by decide) (by decide) (tkLe (by decide)) (tkM (by decide)) dX11_init_134 ?_
  refine w_putFR (j := 8) 137 hX hNm CI_11 (tkS s0_0 (by decide)) rfl fl_X11_71 rfl rfl rfl (fun _ => rfl) (fun _ => rfl) dX11_init_137 ?_
  change WM _ _ _ _ _ _ e_r147 _
  refine w_aload_n 0 140 hX rfl rfl dX11_init_140 ?_
  refine w_new 137 141 hX CI_0 (tkL (by decide)).symm (frsh (by decide) e_r147F e_u35F (by decide) (by decide)) dvW_0 cl_X11_16 insW_0 izW_0 (tkQ s0_137 (by decide)) (tkQs s0_137 (by decide)) (by rw [tkL (by decide)]; decide) (tkB s0_137) dX11_init_141 ?_
  refine w_alp s0_137 ?_
  refine w_dup 144 hX rfl dX11_init_144 ?_
  refine w_invINv (a := 137) (av := []) (st := [.ref 137, .ref 0]) 145 hX CI_0 (tkS s0_137 (by decide)) mo_yX0_init rfl mi_yX0_init ml_X11_18 KX00_137 rfl (by decide) (by decide) (tkLe (by decide)) (tkM (by decide)) dX11_init_145 ?_
  refine w_putFR (j := 9) 148 hX hNm CI_11 (tkS s0_0 (by decide)) rfl fl_X11_74 rfl rfl rfl (fun _ => rfl) (fun _ => rfl) dX11_init_148 ?_
  change WM _ _ _ _ _ _ e_r154 _
  refine w_aload_n 0 151 hX rfl rfl dX11_init_151 ?_
  refine w_new 144 152 hX CI_1 (tkL (by decide)).symm (frsh (by decide) e_r154F e_u36F (by decide) (by decide)) dvW_1 cl_X11_23 insW_1 izW_1 (tkQ s0_144 (by decide)) (tkQs s0_144 (by decide)) (by rw [tkL (by decide)]; decide) (tkB s0_144) dX11_init_152 ?_
  refine w_alp s0_144 ?_
  refine w_dup 155 hX rfl dX11_init_155 ?_
  refine w_invINv (a := 144) (av := []) (st := [.ref 144, .ref 0]) 156 hX CI_1 (tkS s0_144 (by decide)) mo_yX1_init rfl mi_yX1_init ml_X11_25 KX10_144 rfl (by decide) (by decide) (tkLe (by decide)) (tkM (by decide)) dX11_init_156 ?_
  refine w_putFR (j := 10) 159 hX hNm CI_11 (tkS s0_0 (by decide)) rfl fl_X11_77 rfl rfl rfl (fun _ => rfl) (fun _ => rfl) dX11_init_159 ?_
  change WM _ _ _ _ _ _ e_r156 _
  refine w_aload_n 0 162 hX rfl rfl dX11_init_162 ?_
  refine w_iconst 0 163 hX (by decide) dX11_init_163 ?_
  refine w_putI (j := 11) 164 hX CI_11 (tkS s0_0 (by decide)) rfl fl_X11_80 rfl rfl (by decide) (by decide) dX11_init_164 ?_
  change WM _ _ _ _ _ _ _ e_u37
  exact w_vret 167 hX hR dX11_init_167 rfl)
theorem RHT_len : RHT.length = 146 := by decide +kernel
theorem RHT_row : ∀ L ∈ RHT, L.length ≤ 40 := by decide +kernel
theorem RHO_far {a k : Nat} (h : 40 ≤ k) : RHO a k = none := by
  show (RHT.getD a []).getD k none = none
  have h1 : (RHT.getD a []).length ≤ 40 := by
    rw [List.getD_eq_getElem?_getD]
    cases e : RHT[a]? with
    | none => exact Nat.zero_le _
    | some L => exact RHT_row L (List.mem_of_getElem? e)
  rw [List.getD_eq_getElem?_getD, List.getElem?_eq_none (by omega)]
  rfl
theorem RHO_out {a k : Nat} (h : 146 ≤ a) : RHO a k = none := by
  show (RHT.getD a []).getD k none = none
  have h1 : RHT.getD a [] = [] := by
    rw [List.getD_eq_getElem?_getD, List.getElem?_eq_none (by rw [RHT_len]; exact h)]
    rfl
  rw [h1]
  rfl
theorem RHO_in0 : ∀ a, a < 146 → ∀ k, k < 14 → e_r156 a k = RHO a k := by decide +kernel
theorem RHO_in1 : ∀ a, a < 146 → ∀ k, k < 14 → e_r156 a (14 + k) = RHO a (14 + k) := by decide +kernel
theorem RHO_in2 : ∀ a, a < 146 → ∀ k, k < 12 → e_r156 a (28 + k) = RHO a (28 + k) := by decide +kernel
theorem RHO_in : ∀ a, a < 146 → ∀ k, k < 40 → e_r156 a k = RHO a k := fun a h1 k h2 => by
  by_cases h3 : k < 14
  · exact RHO_in0 a h1 k h3
  · by_cases h4 : k < 28
    · have h5 := RHO_in1 a h1 (k - 14) (by omega)
      rwa [show 14 + (k - 14) = k by omega] at h5
    · have h5 := RHO_in2 a h1 (k - 28) (by omega)
      rwa [show 28 + (k - 28) = k by omega] at h5
theorem RHO_eq : e_r156 = RHO := by
  funext a k
  by_cases h1 : a < 146
  · by_cases h2 : k < 40
    · exact RHO_in a h1 k h2
    · rw [e_r156S a k (by omega), RHO_far (by omega)]
  · rw [e_r156F a (by omega) k, RHO_out (by omega)]
theorem SH_all : SH.take 146 = SH := by rw [← SH_len, List.take_length]
