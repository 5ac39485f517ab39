/-! more of a text -/
theorem b127 {c : Nat} (h : c < 128) : -128 ≤ nI c ∧ nI c ≤ 127 := by
  have : ∀ c, c < 128 → -128 ≤ nI c ∧ nI c ≤ 127 := by decide +kernel
  exact this c h
theorem bcpy_c {w : Wd} {u v cap d n : Nat} {bs : List Nat} (hl : bLen u w = some n) (hs : w.1[v]? = some (.inr (.inr (3, cap)))) (hn : d + n ≤ cap) (hc : cap < 1000000) (hr : ∀ j, j < n → -128 ≤ bAt u w j ∧ bAt u w j ≤ 127) : ∀ (β : Type) (k : Unit → Dm β), (dbind (dput (bcpy u 0 v (nI d) (nI n))) k).1 w = (k ()).1 (wr w v (va_cpy (bAt u w) (w.2.2 v) 0 d n)) := by
  intro β k
  refine b_pt ?_
  unfold bcpy
  rw [hl]
  show (match w.1[v]? with | some (.inr (.inr (3, m1))) => _ | _ => none) = _
  rw [hs]
  have e0 : (0 : Int32).toNatClampNeg = 0 := by decide
  show (if _ ∨ _ ∨ _ ∨ _ ∨ _ ∨ _ then none else some (_, _)) = _
  rw [e0, nI_clamp (by omega), nI_clamp (by omega)]
  rw [if_neg (by
    rintro (q | q | q | q | q | q)
    · exact absurd q (by decide)
    · exact absurd q (nI_pos (by omega))
    · exact absurd q (nI_pos (by omega))
    · omega
    · omega
    · exact q (fun j hj => by rw [Nat.zero_add]; exact hr j hj))]
theorem Sg_kp {S : Nat → Prop} {w w' : Wd} {s u : Nat} {bs : List Nat} (h : Sg w s u bs) (k : Kp S w w') (hs : s < 590000 → s < w.1.length → ¬ S s) (hu : u < 590000 → u < w.1.length → ¬ S u) (hl : w.1.length ≤ 590000) : Sg w' s u bs := by
  obtain ⟨h1, h2, h3, h4, h5⟩ := h
  have ks : ∀ {ci : Nat}, s < 2000000 → w.1[s]? = some (.inr (.inl ci)) → agr w w' s := fun _ hsh => Kp_agr k (sh_len hsh) (hs (by have := sh_len hsh; omega) (sh_len hsh))
  have us : ∀ {n : Nat}, w.1[u]? = some (.inr (.inr (3, n))) → agr w w' u := fun hsh => Kp_agr k (sh_len hsh) (hu (by have := sh_len hsh; omega) (sh_len hsh))
  have b1 : bLen u w' = some bs.length ∧ ∀ j, bAt u w' j = bAt u w j := by
    unfold bLen bAt at *
    by_cases c : 3000000 ≤ u ∧ u < 3000000 + strN
    · rw [if_pos c] at h4 ⊢
      exact ⟨h4, fun j => by rw [if_pos c, if_pos c]⟩
    · rw [if_neg c] at h4 ⊢
      rcases hq : w.1[u]? with _ | z
      · rw [hq] at h4; cases h4
      · rcases z with n | ⟨ci⟩ | ⟨κ, n⟩
        · rw [hq] at h4; cases h4
        · rw [hq] at h4; cases h4
        · by_cases e : κ = 3
          · subst e
            have a := us hq
            rw [a.1]
            exact ⟨h4, fun j => by rw [if_neg c, if_neg c, a.2.2]⟩
          · rw [hq] at h4
            match κ, e, h4 with
            | 0, _, h4 => cases h4
            | 1, _, h4 => cases h4
            | 2, _, h4 => cases h4
            | 3, e, _ => exact absurd rfl e
            | κ + 4, _, h4 => cases h4
  have a1 : isS s w' = some () ∧ sCod s w' = some 0 ∧ sVal s w' = some u := by
    unfold isS sCod sVal at *
    by_cases c : 2000000 ≤ s ∧ s < 2000000 + strN
    · rw [if_pos c] at h2 h3 ⊢
      rw [if_pos c, if_pos c]
      exact ⟨rfl, h2, h3⟩
    · rw [if_neg c] at h1 h2 h3
      rw [if_neg c, if_neg c, if_neg c]
      unfold isC at h1
      by_cases hsh : w.1[s]? = some (.inr (.inl 13))
      · have a := ks (by have := sh_len hsh; omega) hsh
        unfold isC gfI gfR at *
        rw [a.1, a.2.1, a.2.2]
        exact ⟨by rw [if_pos hsh], h2, h3⟩
      · rw [if_neg hsh] at h1; cases h1
  exact ⟨a1.1, a1.2.1, a1.2.2, b1.1, fun j c hj => by rw [b1.2]; exact h5 j c hj⟩
/-- a text is put behind -/
theorem r_app {w : Wd} {b v s u n : Nat} {bs cs : List Nat} (h : Bu w b v bs) (hs : Sg w s u cs) (hsb : s ≠ b) (hub : u ≠ b) (huv : u ≠ v) (hl : bs.length + cs.length ≤ 400) (hR : Rm w (n + 68)) : ∃ w' v', (DJ4_append_15ec4 b s).1 w = some (b, w') ∧ Bu w' b v' (bs ++ cs) ∧ Kp (fun c => c = b ∨ c = v) w w' ∧ (v' = v ∨ w.1.length ≤ v') ∧ Rm w' n := by
  have hlen : w.1.length ≤ 590000 := by have := hR.1; omega
  obtain ⟨w1, v1, e1, B1, ⟨cap, c1, c2⟩, K1, f1, R1⟩ := r_ens h hR hl
  have s1 : Sg w1 s u cs := Sg_kp hs K1 (fun _ _ => hsb) (fun _ _ => hub) hlen
  obtain ⟨h1, h2, ⟨cap', h3, h4, h5, h6⟩, h7, h8, h9⟩ := id B1
  have ecap : cap' = cap := by rw [c1] at h3; cases h3; rfl
  subst ecap
  obtain ⟨t1, t2, t3, t4, t5⟩ := id s1
  have lv1 := sh_len h3
  have hlen1 : w1.1.length ≤ 590000 := by have := R1.1; omega
  have bv : b ≠ v1 := ne_sh h1 h3 (by simp)
  have hd : ∀ j, j < cs.length → bAt u w1 j = nI (cs.getD j 0) ∧ cs.getD j 0 < 128 := fun j hj => by
    have e : cs[j]? = some (cs.getD j 0) := by rw [List.getD_eq_getElem?_getD, List.getElem?_eq_getElem hj]; rfl
    exact t5 j _ e
  have hr : ∀ j, j < cs.length → -128 ≤ bAt u w1 j ∧ bAt u w1 j ≤ 127 := fun j hj => by rw [(hd j hj).1]; exact b127 (hd j hj).2
  have K2 := Kp_wr w1 v1 (va_cpy (bAt u w1) (w1.2.2 v1) 0 bs.length cs.length)
  have hb2 : (wr w1 v1 (va_cpy (bAt u w1) (w1.2.2 v1) 0 bs.length cs.length)).1[b]? = some (.inr (.inl 14)) := h1
  have g3 : ∀ P, gfI b 14 3 (wr w1 v1 P) = some (nI bs.length) := fun P => by rw [gfI_wr 3 h1 bv, h8]
  obtain ⟨w2, hw2⟩ : ∃ w2, w2 = wr w1 v1 (va_cpy (bAt u w1) (w1.2.2 v1) 0 bs.length cs.length) := ⟨_, rfl⟩
  have K3 := Kp_wr w2 b (upd (w2.2.2 b) 3 (nI bs.length + nI cs.length))
  refine ⟨wr w2 b (upd (w2.2.2 b) 3 (nI bs.length + nI cs.length)), v1, ?_, ?_, ?_, f1, ?_⟩
  · unfold DJ4_append_15ec4 DJ5_append_cf1ce
    have ein : (DJ5_inflateIfNeededFor_a7421 b s).1 w1 = some ((), w1) := by
      unfold DJ5_inflateIfNeededFor_a7421
      rw [i_f z1, b_rd (gfI_s h1 1), b_rd t1, b_ok (r_coder t2), h7, i_t rfl, u_rt]
    have eb : blen u w1 = some (nI cs.length) := by unfold blen; rw [t4]; rfl
    have egb : (DJ0_getBytes_840e7 s v1 (nI bs.length) 0).1 w1 = some ((), w2) := by
      unfold DJ0_getBytes_840e7
      rw [b_rd t1, b_ok (r_coder t2), i_t rfl, b_rd t3, b_rd t3, b_rd eb, shlZ, bcpy_c (bs := bs) t4 h3 (by omega) (by omega) hr, u_rt, hw2]
    have eput : (DJ5_putStringAt_47b60 b (nI bs.length) s).1 w1 = some ((), w2) := by
      unfold DJ5_putStringAt_47b60
      rw [b_rd (isC_s h1), b_ok ein, b_rd ((gfR_s h1 0).trans h2), b_rd (gfI_s h1 1), b_rd t1, h7, b_ok egb, u_rt]
    have hin : (DJ5_append_cf1ce b s).1 w = some (b, wr w2 b (upd (w2.2.2 b) 3 (nI bs.length + nI cs.length))) := by
      unfold DJ5_append_cf1ce
      have e1' : (DJ5_ensureCapacityInternal_d00df b (nI bs.length + nI cs.length)).1 w = some ((), w1) := by rw [nI_add]; exact e1
      rw [b_rd hs.1, b_ok (r_len hs), b_rd (gfI_s h.1 3), h.2.2.2.2.1, b_rd (isC_s h.1), b_ok e1', b_rd (gfI_s h1 3), h8, b_rd (isC_s h1), b_ok eput]
      rw [b_rd (show gfI b 14 3 w2 = some (nI bs.length) by rw [hw2]; exact g3 _), b_fld0 (show w2.1[b]? = some (.inr (.inl 14)) by rw [hw2]; exact h1) 3, u_rt]
    unfold DJ5_append_cf1ce at hin
    rw [b_rd (isC_s h.1), b_ok hin, u_rt]
  · have m2b : w2.2.2 b = w1.2.2 b := by rw [hw2]; exact ms_ne bv
    have m3b : (wr w2 b (upd (w2.2.2 b) 3 (nI bs.length + nI cs.length))).2.2 b = upd (w1.2.2 b) 3 (nI bs.length + nI cs.length) := by rw [wr_eq, m2b]
    have m3v : (wr w2 b (upd (w2.2.2 b) 3 (nI bs.length + nI cs.length))).2.2 v1 = va_cpy (bAt u w1) (w1.2.2 v1) 0 bs.length cs.length := by
      show mset w2.2.2 b _ v1 = _
      rw [ms_ne (Ne.symm bv), hw2, wr_eq]
    have sh : ∀ c : Nat, (wr w2 b (upd (w2.2.2 b) 3 (nI bs.length + nI cs.length))).1[c]? = w1.1[c]? := fun c => by
      show w2.1[c]? = _
      rw [hw2]
      rfl
    have rfb : (wr w2 b (upd (w2.2.2 b) 3 (nI bs.length + nI cs.length))).2.1 b = w1.2.1 b := by
      show w2.2.1 b = _
      rw [hw2]
      rfl
    refine ⟨(sh b).trans h1, by rw [rfb]; exact h2, ⟨cap', (sh v1).trans h3, by rw [List.length_append]; omega, h5, fun j hj => ?_⟩, ?_, ?_, fun j c hj => ?_⟩
    · rw [m3v]
      unfold va_cpy
      by_cases z : bs.length ≤ j ∧ j < bs.length + cs.length
      · rw [if_pos z, Nat.zero_add]
        exact hr _ (by omega)
      · rw [if_neg z]
        exact h6 j hj
    · rw [m3b, up_ne (by omega)]
      exact h7
    · rw [m3b, up_eq, nI_add, List.length_append]
    · rw [m3v]
      unfold va_cpy
      by_cases z : j < bs.length
      · rw [List.getElem?_append_left z] at hj
        rw [if_neg (by omega)]
        exact h9 j c hj
      · have hj2 := (List.getElem?_eq_some_iff.mp hj).1
        rw [List.length_append] at hj2
        rw [List.getElem?_append_right (by omega)] at hj
        rw [if_pos ⟨by omega, by omega⟩, Nat.zero_add]
        exact t5 _ c hj
  · have K12 : Kp (fun c => c = b ∨ c = v) w w2 := by
      rw [hw2]
      refine Kp_tr (Kp_mono K1 (fun c _ z => Or.inl z)) K2 (fun c hc z => ?_)
      rcases f1 with f | f
      · exact Or.inr (z.trans f)
      · exact absurd z (by omega)
    exact Kp_tr K12 K3 (fun c _ z => Or.inl z)
  · exact Rm_wr (by rw [hw2]; exact Rm_wr R1)
