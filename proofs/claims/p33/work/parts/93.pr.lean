/-! a call of the class in a world -/
def Lw (w : Wd) (g : Mem) : Prop := OKs w ∧ SP w.2.2 g
theorem b_cl {f gg : Mem → Option (Int32 × Mem)} {L0 : List Nat} (hA : A2 f gg) (fr : ∀ {u : Mem} {v : Int32} {u' : Mem}, f u = some (v, u') → FrL L0 u u') (h0 : ∀ c, 146 ≤ c → L0.contains c = false) {w : Wd} {g g' : Mem} {r : Int32} (hl : Lw w g) (hg : gg g = some (r, g')) : ∃ w1, Lw w1 g' ∧ w1.1 = w.1 ∧ w1.2.1 = w.2.1 ∧ Kp CL w w1 ∧ ∀ (β : Type) (k : Int32 → Dm β), (dbind (dclW f) k).1 w = (k r).1 w1 := by
  obtain ⟨r', v', w', e1, e2, e3⟩ := hA _ _ hl.2
  rw [hg] at e2
  cases e2
  have hv : ∀ c, 146 ≤ c → v' c = w.2.2 c := fun c hc => fr e1 c (h0 c hc)
  have k := Kp_cl w v' hv
  exact ⟨(w.1, w.2.1, v'), ⟨Kp_OKs k hl.1 (fun c hc => Or.inr rfl), e3⟩, rfl, rfl, k, fun β kk => b_ok (dclW_ok hl.1 e1)⟩
theorem Wv_cl {w w1 : Wd} {a : Nat} {L : Lay} {W : Wt} (h : Wv w a L W) (k : Kp CL w w1) (ho : OKs w1) : Wv w1 a L W :=
  ⟨Kp_WA k h.1 (fun c hc z => by have := h.2.2.2 c hc; have : c < 146 := z; omega), ho, h.2.2.1, h.2.2.2⟩
/-! a text in the making -/
def Bu (w : Wd) (b v : Nat) (bs : List Nat) : Prop := w.1[b]? = some (.inr (.inl 14)) ∧ w.2.1 b 0 = some v ∧ (∃ cap, w.1[v]? = some (.inr (.inr (3, cap))) ∧ bs.length ≤ cap ∧ cap ≤ 900 ∧ ∀ j, j < cap → -128 ≤ w.2.2 v j ∧ w.2.2 v j ≤ 127) ∧ w.2.2 b 1 = 0 ∧ w.2.2 b 3 = nI bs.length ∧ ∀ j c, bs[j]? = some c → w.2.2 v j = nI c ∧ c < 128
/-- a text: its word, its bytes -/
def Sg (w : Wd) (s u : Nat) (bs : List Nat) : Prop := isS s w = some () ∧ sCod s w = some 0 ∧ sVal s w = some u ∧ bLen u w = some bs.length ∧ ∀ j c, bs[j]? = some c → bAt u w j = nI c ∧ c < 128
theorem shrZ (x : Int32) : x >>> ((0 : Int32) &&& 31) = x := by
  apply tb_ext
  intro k hk
  have : ((0 : Int32) &&& 31) = nI 0 := by decide
  rw [this, tb_shr (by omega), Nat.zero_add]
theorem shlZ (x : Int32) : x <<< ((0 : Int32) &&& 31) = x := by
  have e : ((0 : Int32) &&& 31) = 0 := by decide
  rw [e]
  apply Int32.toBitVec_inj.mp
  rw [Int32.toBitVec_shiftLeft]
  have e2 : ((0 : Int32).toBitVec.smod 32) = 0#32 := by decide
  rw [e2]
  simp
theorem sub_le0 {a b : Nat} (ha : a < 1000000) (hb : b < 1000000) : (nI a - nI b ≤ 0) = (a ≤ b) := by
  rw [i_le, sub_pos ha hb]
  exact propext (by omega)
theorem ychk_0 : ychk 0 = some 0 := by decide
theorem r_coder {w : Wd} {s : Nat} (h : sCod s w = some 0) : (DJ0_coder_7d493 s).1 w = some (0, w) := by
  unfold DJ0_coder_7d493
  rw [i_f z1, b_rd h, b_lf ychk_0, u_rt]
theorem r_len {w : Wd} {s u : Nat} {bs : List Nat} (h : Sg w s u bs) : (DJ0_length_8abf5 s).1 w = some (nI bs.length, w) := by
  obtain ⟨h1, h2, h3, h4, h5⟩ := h
  unfold DJ0_length_8abf5
  rw [b_rd h3, b_rd (show blen u w = some (nI bs.length) by unfold blen; rw [h4]; rfl), b_rd h1, b_ok (r_coder h2), u_rt, shrZ]
theorem bLenC {w : Wd} {v cap : Nat} (hv : v < 3000000) (h : w.1[v]? = some (.inr (.inr (3, cap)))) : bLen v w = some cap := by
  unfold bLen
  rw [if_neg (by omega), h]
  rfl
theorem blenC {w : Wd} {v cap : Nat} (hv : v < 3000000) (h : w.1[v]? = some (.inr (.inr (3, cap)))) : blen v w = some (nI cap) := by
  unfold blen
  rw [bLenC hv h]
  rfl
theorem bAtC {w : Wd} {v : Nat} (hv : v < 3000000) (j : Nat) : bAt v w j = w.2.2 v j := if_neg (by omega)
theorem sh_len {w : Wd} {c : Nat} {s : Shp} (h : w.1[c]? = some s) : c < w.1.length := (List.getElem?_eq_some_iff.mp h).1
theorem gfI_s {w : Wd} {a ci : Nat} (h : w.1[a]? = some (.inr (.inl ci))) (j : Nat) : gfI a ci j w = some (w.2.2 a j) := if_pos h
theorem gfR_s {w : Wd} {a ci : Nat} (h : w.1[a]? = some (.inr (.inl ci))) (j : Nat) : gfR a ci j w = w.2.1 a j := if_pos h
theorem isC_s {w : Wd} {a ci : Nat} (h : w.1[a]? = some (.inr (.inl ci))) : isC a ci w = some () := if_pos h
theorem b_po' {β : Type} {k : Unit → Dm β} {w : Wd} {q ci : Nat} (h : w.1[q]? = some (.inr (.inl ci))) (j : Nat) (o : Option Nat) : (dbind (dput (pfO q ci j o)) k).1 w = (k ()).1 (wo w q (oupd (w.2.1 q) j o)) := b_po (⟨h, rfl, rfl⟩ : Kn w q (.inr (.inl ci)) (w.2.1 q) (w.2.2 q)) j o
theorem bcpy_nq {w : Wd} {v cap nc n : Nat} {P : Wt} (hv : v < 3000000) (hs : w.1[v]? = some (.inr (.inr (3, cap)))) (hn : n ≤ cap) (hnc : n ≤ nc) (hc : cap < 1000000) (hr : ∀ j, j < n → -128 ≤ w.2.2 v j ∧ w.2.2 v j ≤ 127) : ∀ (β : Type) (k : Unit → Dm β), (dbind (dput (bcpy v 0 w.1.length 0 (nI n))) k).1 (nq w (.inr (.inr (3, nc))) (fun _ => none) P) = (k ()).1 (nq w (.inr (.inr (3, nc))) (fun _ => none) (va_cpy (w.2.2 v) P 0 0 n)) := by
  intro β k
  refine b_pt ?_
  have lv := sh_len hs
  have z := nq_lt (w := w) (s := .inr (.inr (3, nc))) (ρ := fun _ => none) (P := P) (c := v) lv
  unfold bcpy
  rw [bLenC hv (z.1.trans hs)]
  show (match (nq w _ _ P).1[w.1.length]? with | some (.inr (.inr (3, m1))) => _ | _ => none) = _
  rw [nq_s]
  have e0 : (0 : Int32).toNatClampNeg = 0 := by decide
  have hA : bAt v (nq w (.inr (.inr (3, nc))) (fun _ => none) P) = w.2.2 v := by
    funext j
    rw [bAtC hv, z.2.2]
  show (if _ ∨ _ ∨ _ ∨ _ ∨ _ ∨ _ then none else some (_, _)) = _
  rw [hA, e0, nI_clamp (by omega)]
  rw [if_neg (by
    rintro (q | q | q | q | q | q)
    · exact absurd q (by decide)
    · exact absurd q (by decide)
    · exact absurd q (nI_pos (by omega))
    · omega
    · omega
    · exact q (fun j hj => by rw [Nat.zero_add]; exact hr j hj))]
  have eP : (nq w (.inr (.inr (3, nc))) (fun _ => none) P).2.2 w.1.length = P := ms_eq _ _ _
  rw [eP]
  show some (_, mset (mset w.2.2 w.1.length P) w.1.length _) = _
  have ms2 : ∀ A : Wt, mset (mset w.2.2 w.1.length P) w.1.length A = mset w.2.2 w.1.length A := fun A => by
    funext c
    unfold mset
    split <;> rfl
  rw [ms2]
  rfl
/-- there is room for more -/
theorem r_ens {w : Wd} {b v n : Nat} {bs : List Nat} (h : Bu w b v bs) (hR : Rm w (n + 68)) {need : Nat} (hn : need ≤ 400) : ∃ w' v', (DJ5_ensureCapacityInternal_d00df b (nI need)).1 w = some ((), w') ∧ Bu w' b v' bs ∧ (∃ cap, w'.1[v']? = some (.inr (.inr (3, cap))) ∧ need ≤ cap) ∧ Kp (fun c => c = b) w w' ∧ (v' = v ∨ w.1.length ≤ v') ∧ Rm w' n := by
  obtain ⟨h1, h2, ⟨cap, h3, h4, h5, h6⟩, h7, h8, h9⟩ := id h
  have lv := sh_len h3
  have lb := sh_len h1
  have hlen : w.1.length + 68 ≤ 590000 := by have := hR.1; omega
  have hv3 : v < 3000000 := by omega
  have bv : b ≠ v := ne_sh h1 h3 (by simp)
  unfold DJ5_ensureCapacityInternal_d00df
  rw [b_rd ((gfR_s h1 0).trans h2), b_rd (blenC hv3 h3), b_rd (gfI_s h1 1), h7, shrZ]
  by_cases c : need ≤ cap
  · refine ⟨w, v, ?_, h, ⟨cap, h3, c⟩, Kp_rf _ _, Or.inl rfl, Rm_le hR (by omega)⟩
    rw [i_t (by rw [sub_le0 (by omega) (by omega)]; exact c), u_rt]
  · -- a new row of bytes
    obtain ⟨M, hM⟩ : ∃ M, M = if need - cap < cap + 2 then cap + 2 else need - cap := ⟨_, rfl⟩
    have hM1 : need ≤ cap + M ∧ M ≤ 402 ∧ 2 ≤ M := by rw [hM]; split <;> omega
    have eM : (if nI need - nI cap < nI cap + ((2 : Int32) <<< ((0 : Int32) &&& 31)) then nI cap + ((2 : Int32) <<< ((0 : Int32) &&& 31)) else nI need - nI cap) = nI M := by
      rw [shlZ, nI_sub (by omega), show (2 : Int32) = nI 2 by decide, nI_add, hM]
      by_cases z : need - cap < cap + 2
      · rw [if_pos z, if_pos (by rw [nn_lt (by omega) (by omega)]; exact z)]
      · rw [if_neg z, if_neg (by rw [nn_lt (by omega) (by omega)]; exact z)]
    have enc : (DJ5_newCapacity_0f7a4 b (nI need)).1 w = some (nI (cap + M), w) := by
      unfold DJ5_newCapacity_0f7a4
      have enl : (DJ8_newLength_cabcc (nI cap) (nI need - nI cap) (nI cap + ((2 : Int32) <<< ((0 : Int32) &&& 31)))).1 w = some (nI (cap + M), w) := by
        unfold DJ8_newLength_cabcc
        rw [eM, nI_add, i_f (by rw [show (0 : Int32) = nI 0 by decide, nn_le (by omega) (by omega)]; omega), i_f (by rw [show (2147483639 : Int32) = nI 2147483639 by decide, nn_lt (by omega) (by omega)]; omega), u_rt]
      rw [b_rd ((gfR_s h1 0).trans h2), b_rd (blenC hv3 h3), b_rd (gfI_s h1 1), b_rd (gfI_s h1 1), h7, shlZ, b_ok enl, i_f (by rw [show (2147483647 : Int32) = nI 2147483647 by decide, nn_eq (by omega) (by omega)]; omega), b_rd (gfI_s h1 1), h7, shrZ, u_rt]
    have P0 : Wt := fun _ => 0
    have kq := Kp_nq (fun c => c = b) w (.inr (.inr (3, cap + M))) (fun _ => none) (va_cpy (w.2.2 v) (fun _ => 0) 0 0 cap)
    have hb2 : (nq w (.inr (.inr (3, cap + M))) (fun _ => none) (va_cpy (w.2.2 v) (fun _ => 0) 0 0 cap)).1[b]? = some (.inr (.inl 14)) := (nq_lt lb).1.trans h1
    have hR2 : Rm (nq w (.inr (.inr (3, cap + M))) (fun _ => none) (va_cpy (w.2.2 v) (fun _ => 0) 0 0 cap)) n := Rm_nq (c := 68) hR (by decide) (by show cap + M ≤ 12 * 68; omega)
    have ecp : (DJ7_copyOf_9075b v (nI (cap + M))).1 w = some (w.1.length, nq w (.inr (.inr (3, cap + M))) (fun _ => none) (va_cpy (w.2.2 v) (fun _ => 0) 0 0 cap)) := by
      unfold DJ7_copyOf_9075b
      have hq : blen v (nq w (.inr (.inr (3, cap + M))) (fun _ => none) (fun _ => 0)) = some (nI cap) := blenC hv3 ((nq_lt lv).1.trans h3)
      rw [b_rd (blenC hv3 h3), i_f (by rw [nn_eq (by omega) (by omega)]; omega), b_nw (nwA_n (κ := 3) (n := cap + M) (by omega) w) (n := n) (c := 68) hR (by decide) (by show cap + M ≤ 12 * 68; omega), b_rd hq, if_neg (show ¬ nI (cap + M) < nI cap by rw [nn_lt (by omega) (by omega)]; omega), bcpy_nq hv3 h3 (Nat.le_refl _) (by omega) (by omega) (fun j hj => h6 j hj), u_rt]
    have kw := Kp_wo (nq w (.inr (.inr (3, cap + M))) (fun _ => none) (va_cpy (w.2.2 v) (fun _ => 0) 0 0 cap)) b (oupd (w.2.1 b) 0 (some w.1.length))
    have K := Kp_tr kq kw (fun _ _ z => z)
    have hs2 := nq_s w (.inr (.inr (3, cap + M))) (fun _ => none) (va_cpy (w.2.2 v) (fun _ => 0) 0 0 cap)
    refine ⟨wo (nq w (.inr (.inr (3, cap + M))) (fun _ => none) (va_cpy (w.2.2 v) (fun _ => 0) 0 0 cap)) b (oupd (w.2.1 b) 0 (some w.1.length)), w.1.length, ?_, ⟨hb2, ?_, ⟨cap + M, hs2, by omega, by omega, fun j hj => ?_⟩, ?_, ?_, fun j c hj => ?_⟩, ⟨cap + M, hs2, by omega⟩, K, Or.inr (Nat.le_refl _), Rm_wo hR2⟩
    · have en : (nq w (.inr (.inr (3, cap + M))) (fun _ => none) (va_cpy (w.2.2 v) (fun _ => 0) 0 0 cap)).2.1 b = w.2.1 b := (nq_lt lb).2.1
      rw [i_f (by rw [sub_le0 (by omega) (by omega)]; exact c), b_rd ((gfR_s h1 0).trans h2), b_rd (isC_s h1), b_ok enc, b_rd (gfI_s h1 1), h7, shlZ, b_ok ecp, b_po' hb2, en, u_rt]
    · show rrow _ b _ b 0 = _
      unfold rrow oupd
      rw [if_pos rfl, if_pos rfl]
    · show -128 ≤ mset w.2.2 w.1.length _ w.1.length j ∧ mset w.2.2 w.1.length _ w.1.length j ≤ 127
      rw [ms_eq]
      unfold va_cpy
      by_cases z : 0 ≤ j ∧ j < 0 + cap
      · rw [if_pos z, Nat.sub_zero, Nat.zero_add]
        exact h6 j (by omega)
      · rw [if_neg z]
        show (-128 : Int32) ≤ 0 ∧ (0 : Int32) ≤ 127
        decide
    · show mset w.2.2 w.1.length _ b 1 = _
      rw [ms_ne (by omega)]
      exact h7
    · show mset w.2.2 w.1.length _ b 3 = _
      rw [ms_ne (by omega)]
      exact h8
    · have hjl : j < bs.length := (List.getElem?_eq_some_iff.mp hj).1
      have q := h9 j c hj
      refine ⟨?_, q.2⟩
      show mset w.2.2 w.1.length _ w.1.length j = _
      rw [ms_eq]
      unfold va_cpy
      rw [if_pos ⟨by omega, by omega⟩, Nat.sub_zero, Nat.zero_add]
      exact q.1
