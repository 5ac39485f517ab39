/-! a number is put behind -/
def dg (v : Nat) : List Nat := if v < 10 then [48 + v] else if v < 100 then [48 + v / 10, 48 + v % 10] else [48 + v / 100, 48 + v % 100 / 10, 48 + v % 10]
theorem dg_c : ∀ v, v < 1000 → ∀ c ∈ dg v, c < 128 := by decide +kernel
theorem dk1 : ∀ v, v < 1000 → decide (-(nI v) ≤ -10) = decide (10 ≤ v) ∧ decide (-(nI v) ≤ 10 * (-10)) = decide (100 ≤ v) ∧ decide (-(nI v) ≤ 10 * (10 * (-10))) = false ∧ decide ((-100 : Int32) < -(nI v)) = decide (v < 100) ∧ decide ((-9 : Int32) ≤ -(nI v)) = decide (v ≤ 9) := by decide +kernel
theorem dk2 : ∀ v, v < 100 → dgO (-(-(nI v))) = some (nI (48 + v % 10)) ∧ dgT (-(-(nI v))) = some (nI (48 + v / 10)) ∧ dgO (nI v) = some (nI (48 + v % 10)) ∧ dgT (nI v) = some (nI (48 + v / 10)) := by decide +kernel
theorem dk3 : ∀ v, v < 1000 → dvI (-(nI v)) 100 = some (-(nI (v / 100))) ∧ ((-(nI (v / 100))) * 100) - (-(nI v)) = nI (v % 100) := by decide +kernel
theorem dec_eq {p q : Prop} [Decidable p] [Decidable q] (h : decide p = decide q) : p = q := propext (by
  constructor
  · intro z; have : decide q = true := by rw [← h]; exact decide_eq_true z
    exact of_decide_eq_true this
  · intro z; have : decide p = true := by rw [h]; exact decide_eq_true z
    exact of_decide_eq_true this)
theorem r_ssz {w : Wd} {v : Nat} (h : v < 1000) : (DJ6_stringSize_0f7a4 (nI v)).1 w = some (nI (dg v).length, w) := by
  obtain ⟨a1, a2, a3, -, -⟩ := dk1 v h
  have a1 := dec_eq a1
  have a2 := dec_eq a2
  have a3 : ¬ (-(nI v) ≤ 10 * (10 * (-10))) := of_decide_eq_false a3
  unfold DJ6_stringSize_0f7a4 DJ6_stringSize_0f7a4_b11
  rw [i_f (nI_pos (by omega))]
  show (DJ6_stringSize_0f7a4_b16 (DJ6_stringSize_0f7a4_L16 9999) _ _ _ _).1 w = _
  unfold DJ6_stringSize_0f7a4_b16 dg
  rw [i_f (by decide)]
  by_cases c1 : v < 10
  · rw [i_f (by rw [a1]; omega), u_rt, if_pos c1]
    rfl
  · rw [i_t (by rw [a1]; omega), if_neg c1]
    show (DJ6_stringSize_0f7a4_b16 (DJ6_stringSize_0f7a4_L16 9998) _ _ _ _).1 w = _
    unfold DJ6_stringSize_0f7a4_b16
    rw [i_f (by decide)]
    by_cases c2 : v < 100
    · rw [i_f (by rw [a2]; omega), u_rt, if_pos c2]
      rfl
    · rw [i_t (by rw [a2]; omega), if_neg c2]
      show (DJ6_stringSize_0f7a4_b16 (DJ6_stringSize_0f7a4_L16 9997) _ _ _ _).1 w = _
      unfold DJ6_stringSize_0f7a4_b16
      rw [i_f (by decide), i_f a3, u_rt]
      rfl
theorem t8 {c : Nat} (h : c < 128) : (nI c).toInt8.toInt32 = nI c := by
  have : ∀ c, c < 128 → (nI c).toInt8.toInt32 = nI c := by decide +kernel
  exact this c h
theorem b_bast {β : Type} {k : Unit → Dm β} {w : Wd} {q cap : Nat} {P : Wt} (hs : w.1[q]? = some (.inr (.inr (3, cap)))) (j c : Nat) (i : Int32) (ei : i = nI j) (hj : j < cap) (hc : cap < 1000000) (h8 : c < 128) : (dbind (dput (bast q i (nI c))) k).1 (wr w q P) = (k ()).1 (wr w q (upd P j (nI c))) := by
  subst ei
  refine b_pt ?_
  unfold bast
  have hs' : (wr w q P).1[q]? = some (.inr (.inr (3, cap))) := hs
  rw [hs']
  show (if _ ∨ _ then none else some (_, mupd (mset w.2.2 q P) q _ _)) = _
  rw [if_neg (nI_in hj (by omega)), nI_clamp (by omega), t8 h8, mu_ms]
  rfl
theorem nI_m {k : Nat} (h : 0 < k) : nI k + (-1) = nI (k - 1) := by
  obtain ⟨k, rfl⟩ : ∃ j, k = j + 1 := ⟨k - 1, by omega⟩
  rw [nI_succ, Int32.add_assoc, show (1 : Int32) + -1 = 0 by decide, Int32.add_zero]
  rfl
theorem r_gc {w : Wd} {q cap pos v : Nat} (hs : w.1[q]? = some (.inr (.inr (3, cap)))) (hv : v < 1000) (hp : pos + (dg v).length ≤ cap) (hc : cap < 1000000) : ∃ r P, (DJ6_getChars_ba4f3 (nI v) (nI (pos + (dg v).length)) q).1 w = some (r, wr w q P) ∧ (∀ j c, (dg v)[j]? = some c → P (pos + j) = nI c) ∧ ∀ j, j < pos ∨ pos + (dg v).length ≤ j → P j = w.2.2 q j := by
  obtain ⟨-, -, -, a4, a5⟩ := dk1 v hv
  have a4 := dec_eq a4
  have a5 := dec_eq a5
  unfold DJ6_getChars_ba4f3 DJ6_getChars_ba4f3_b12
  rw [i_t (by rw [i_le]; exact nI_pos (by omega)), i_t rfl]
  show ∃ r P, (DJ6_getChars_ba4f3_b22 (DJ6_getChars_ba4f3_L22 9999) _ _ _ _).1 w = _ ∧ _
  unfold DJ6_getChars_ba4f3_b22 DJ6_getChars_ba4f3_b104 DJ6_getChars_ba4f3_b118
  have ws := wr_self w q
  by_cases c1 : v < 100
  · obtain ⟨d1, d2, -, -⟩ := dk2 v c1
    rw [i_t (by rw [a4]; exact c1), b_lf d1]
    by_cases c2 : v < 10
    · have e : dg v = [48 + v] := if_pos c2
      rw [e] at hp ⊢
      have hp : pos + 1 ≤ cap := hp
      refine ⟨nI (pos + 1) + (-1), upd (w.2.2 q) pos (nI (48 + v % 10)), ?_, fun j c hj => ?_, fun j hj => up_ne (by have : pos + 1 = pos + [48 + v].length := rfl; omega)⟩
      · conv => lhs; arg 2; rw [← ws]
        have hl : pos + [48 + v].length = pos + 1 := rfl
        rw [hl, b_bast hs pos (48 + v % 10) _ (nI_m (k := pos + 1) (by omega)) (by omega) hc (by omega), i_t (by rw [a5]; omega), i_t rfl, u_rt]
      · have hj0 : j = 0 := by have := (List.getElem?_eq_some_iff.mp hj).1; have : j < 1 := this; omega
        subst hj0
        have hcc : 48 + v = c := Option.some.inj hj
        show upd _ pos _ pos = _
        rw [up_eq, ← hcc, Nat.mod_eq_of_lt c2]
    · have e : dg v = [48 + v / 10, 48 + v % 10] := by unfold dg; rw [if_neg c2, if_pos c1]
      rw [e] at hp ⊢
      have hp : pos + 2 ≤ cap := hp
      refine ⟨nI (pos + 2) + (-1) + (-1), upd (upd (w.2.2 q) (pos + 1) (nI (48 + v % 10))) pos (nI (48 + v / 10)), ?_, fun j c hj => ?_, fun j hj => by
        have : pos + 2 = pos + [48 + v / 10, 48 + v % 10].length := rfl
        rw [up_ne (by omega), up_ne (by omega)]⟩
      · conv => lhs; arg 2; rw [← ws]
        have m1 : nI (pos + 2) + (-1) = nI (pos + 1) := nI_m (k := pos + 2) (by omega)
        have m2 : nI (pos + 2) + (-1) + (-1) = nI pos := by rw [m1]; exact nI_m (k := pos + 1) (by omega)
        have hl : pos + [48 + v / 10, 48 + v % 10].length = pos + 2 := rfl
        rw [hl, b_bast hs (pos + 1) (48 + v % 10) _ m1 (by omega) hc (by omega), i_f (by rw [a5]; omega), b_lf d2, b_bast hs pos (48 + v / 10) _ m2 (by omega) hc (by omega), i_t rfl, u_rt]
      · have hj2 : j < 2 := (List.getElem?_eq_some_iff.mp hj).1
        rcases (by omega : j = 0 ∨ j = 1) with rfl | rfl
        · have hcc : 48 + v / 10 = c := Option.some.inj hj
          show upd _ pos _ pos = _
          rw [up_eq, hcc]
        · have hcc : 48 + v % 10 = c := Option.some.inj hj
          rw [up_ne (by omega), up_eq, hcc]
  · obtain ⟨e1, e2⟩ := dk3 v hv
    obtain ⟨-, -, d1, d2⟩ := dk2 (v % 100) (by omega)
    obtain ⟨-, -, -, b4, b5⟩ := dk1 (v / 100) (by omega)
    have b4 := dec_eq b4
    have b5 := dec_eq b5
    obtain ⟨f1, -, -, -⟩ := dk2 (v / 100) (by omega)
    have e : dg v = [48 + v / 100, 48 + v % 100 / 10, 48 + v % 10] := by unfold dg; rw [if_neg (by omega), if_neg c1]
    rw [e] at hp ⊢
    have hp : pos + 3 ≤ cap := hp
    have hl : pos + [48 + v / 100, 48 + v % 100 / 10, 48 + v % 10].length = pos + 3 := rfl
    have m1 : nI (pos + 3) + (-1) = nI (pos + 2) := nI_m (k := pos + 3) (by omega)
    have m2 : nI (pos + 3) + (-1) + (-1) = nI (pos + 1) := by rw [m1]; exact nI_m (k := pos + 2) (by omega)
    have m3 : nI (pos + 3) + (-1) + (-1) + (-1) = nI pos := by rw [m2]; exact nI_m (k := pos + 1) (by omega)
    have hmm : v % 100 % 10 = v % 10 := by omega
    rw [hmm] at d1
    have hdd : v / 100 % 10 = v / 100 := by omega
    rw [hdd] at f1
    refine ⟨nI (pos + 3) + (-1) + (-1) + (-1), upd (upd (upd (w.2.2 q) (pos + 2) (nI (48 + v % 10))) (pos + 1) (nI (48 + v % 100 / 10))) pos (nI (48 + v / 100)), ?_, fun j c hj => ?_, fun j hj => by rw [up_ne (by omega), up_ne (by omega), up_ne (by omega)]⟩
    · conv => lhs; arg 2; rw [← ws]
      rw [i_f (by rw [a4]; exact c1), b_lf e1, e2, b_lf d1, hl, b_bast hs (pos + 2) (48 + v % 10) _ m1 (by omega) hc (by omega), b_lf d2, b_bast hs (pos + 1) (48 + v % 100 / 10) _ m2 (by omega) hc (by omega)]
      show (DJ6_getChars_ba4f3_b22 (DJ6_getChars_ba4f3_L22 9998) _ _ _ _).1 _ = _
      unfold DJ6_getChars_ba4f3_b22 DJ6_getChars_ba4f3_b104 DJ6_getChars_ba4f3_b118
      rw [i_t (by rw [b4]; omega), b_lf f1, b_bast hs pos (48 + v / 100) _ m3 (by omega) hc (by omega), i_t (by rw [b5]; omega), i_t rfl, u_rt]
    · have hj3 : j < 3 := (List.getElem?_eq_some_iff.mp hj).1
      rcases (by omega : j = 0 ∨ j = 1 ∨ j = 2) with rfl | rfl | rfl
      · have hcc : 48 + v / 100 = c := Option.some.inj hj
        show upd _ pos _ pos = _
        rw [up_eq, hcc]
      · have hcc : 48 + v % 100 / 10 = c := Option.some.inj hj
        rw [up_ne (by omega), up_eq, hcc]
      · have hcc : 48 + v % 10 = c := Option.some.inj hj
        rw [up_ne (by omega), up_ne (by omega), up_eq, hcc]
theorem r_apn {w : Wd} {b v n x : Nat} {bs : List Nat} (h : Bu w b v bs) (hx : x < 1000) (hl : bs.length + (dg x).length ≤ 400) (hR : Rm w (n + 68)) : ∃ w' v', (DJ4_append_bf812 b (nI x)).1 w = some (b, w') ∧ Bu w' b v' (bs ++ dg x) ∧ Kp (fun c => c = b ∨ c = v) w w' ∧ (v' = v ∨ w.1.length ≤ v') ∧ Rm w' n := by
  obtain ⟨w1, v1, e1, B1, ⟨cap, c1, c2⟩, K1, f1, R1⟩ := r_ens h hR hl
  obtain ⟨h1, h2, ⟨cap', h3, h4, h5, h6⟩, h7, h8, h9⟩ := id B1
  have ecap : cap' = cap := by rw [c1] at h3; cases h3; rfl
  subst ecap
  have lv1 := sh_len h3
  have bv : b ≠ v1 := ne_sh h1 h3 (by simp)
  obtain ⟨r, P, g1, g2, g3⟩ := r_gc (pos := bs.length) h3 hx c2 (by omega)
  have K2 := Kp_wr w1 v1 P
  have K3 := Kp_wr (wr w1 v1 P) b (upd (w1.2.2 b) 3 (nI (bs.length + (dg x).length)))
  have m2b : (wr w1 v1 P).2.2 b = w1.2.2 b := ms_ne bv
  have sh : ∀ c : Nat, (wr (wr w1 v1 P) b (upd (w1.2.2 b) 3 (nI (bs.length + (dg x).length)))).1[c]? = w1.1[c]? := fun c => rfl
  have m3v : (wr (wr w1 v1 P) b (upd (w1.2.2 b) 3 (nI (bs.length + (dg x).length)))).2.2 v1 = P := by
    show mset (wr w1 v1 P).2.2 b _ v1 = _
    rw [ms_ne (Ne.symm bv), wr_eq]
  refine ⟨wr (wr w1 v1 P) b (upd (w1.2.2 b) 3 (nI (bs.length + (dg x).length))), v1, ?_, ⟨(sh b).trans h1, h2, ⟨cap', (sh v1).trans h3, by rw [List.length_append]; omega, h5, fun j hj => ?_⟩, ?_, ?_, fun j c hj => ?_⟩, ?_, f1, Rm_wr (Rm_wr R1)⟩
  · unfold DJ4_append_bf812
    have hin : (DJ5_append_c97b9 b (nI x)).1 w = some (b, wr (wr w1 v1 P) b (upd (w1.2.2 b) 3 (nI (bs.length + (dg x).length)))) := by
      unfold DJ5_append_c97b9
      have e1' : (DJ5_ensureCapacityInternal_d00df b (nI bs.length + nI (dg x).length)).1 w = some ((), w1) := by rw [nI_add]; exact e1
      have eil : (DJ5_isLatin1_aae02 b).1 w1 = some (1, w1) := by
        unfold DJ5_isLatin1_aae02
        rw [i_f z1, b_rd (gfI_s h1 1), h7, i_t rfl, u_rt]
      have g1' : (DJ6_getChars_ba4f3 (nI x) (nI bs.length + nI (dg x).length) v1).1 w1 = some (r, wr w1 v1 P) := by rw [nI_add]; exact g1
      rw [b_rd (gfI_s h.1 3), h.2.2.2.2.1, b_ok (r_ssz hx), b_rd (isC_s h.1), b_ok e1', b_rd (isC_s h1), b_ok eil, i_f z1, b_rd ((gfR_s h1 0).trans h2), b_ok g1']
      unfold DJ5_append_c97b9_b48
      rw [b_fld0 (show (wr w1 v1 P).1[b]? = some (.inr (.inl 14)) from h1) 3, m2b, nI_add, u_rt]
    rw [b_rd (isC_s h.1), b_ok hin, u_rt]
  · rw [m3v]
    by_cases z : bs.length ≤ j ∧ j < bs.length + (dg x).length
    · have e : (dg x)[j - bs.length]? = some ((dg x).getD (j - bs.length) 0) := by rw [List.getD_eq_getElem?_getD, List.getElem?_eq_getElem (by omega)]; rfl
      have q := g2 _ _ e
      rw [show bs.length + (j - bs.length) = j by omega] at q
      rw [q]
      exact b127 (dg_c x hx _ (List.mem_of_getElem? e))
    · rw [g3 j (by omega)]
      exact h6 j hj
  · show mset (wr w1 v1 P).2.2 b _ b 1 = _
    rw [ms_eq, up_ne (by omega)]
    exact h7
  · show mset (wr w1 v1 P).2.2 b _ b 3 = _
    rw [ms_eq, up_eq, List.length_append]
  · rw [m3v]
    by_cases z : j < bs.length
    · rw [List.getElem?_append_left z] at hj
      rw [g3 j (Or.inl z)]
      exact h9 j c hj
    · rw [List.getElem?_append_right (by omega)] at hj
      have q := g2 _ _ hj
      rw [show bs.length + (j - bs.length) = j by omega] at q
      exact ⟨q, dg_c x hx _ (List.mem_of_getElem? hj)⟩
  · have K12 : Kp (fun c => c = b ∨ c = v) w (wr w1 v1 P) := by
      refine Kp_tr (Kp_mono K1 (fun c _ z => Or.inl z)) K2 (fun c hc z => ?_)
      rcases f1 with f | f
      · exact Or.inr (z.trans f)
      · exact absurd z (by omega)
    exact Kp_tr K12 K3 (fun c _ z => Or.inl z)
