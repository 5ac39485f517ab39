/-! saying -/
theorem Lw_kp {S : Nat → Prop} {w w' : Wd} {g : Mem} (h : Lw w g) (k : Kp S w w') (hs : ∀ c, c < 146 → ¬ S c) : Lw w' g := by
  have hl := OKs_len h.1
  exact ⟨Kp_OKs k h.1 (fun c hc => Or.inl (hs c hc)), SP_cg (fun c hc => (k.2 c (by omega) (hs c hc)).2) h.2⟩
theorem dv4 : ∀ k, k < 20 → dvI (nI k) 4 = some (nI (k / 4)) := by decide +kernel
theorem r_say17 {w : Wd} {g : Mem} {W : Wt} {S : List Wt} {s u n : Nat} {bs : List Nat} (hl : Lw w g) (hg : Sg w s u bs) (hlen : w.1.length ≤ 590000) (hN : bs.length ≤ 400) (h8 : ∀ c ∈ bs, c < 128) {a : Nat} (ha : a + 20 ≤ 400) (ht : GT g W S (chF bs) a) (k2 : Nat → Int32 → Dm Unit) : ∀ (d k F : Nat) (P : Wt), k + d = 20 → d < F → (∀ m, m < 5 → P m = nI (wrd (chF bs) a k m)) → ∃ w' g' P', (DL_say_L17 k2 F s (nI a) w.1.length (nI k)).1 (nq w (.inl 5) (fun _ => none) P) = (k2 s (nI a + 20)).1 w' ∧ Lw w' g' ∧ GT g' W S (chF bs) (a + 20) ∧ Kp CL (nq w (.inl 5) (fun _ => none) P') w' ∧ w'.1 = (nq w (.inl 5) (fun _ => none) P').1 := by
  intro d
  induction d with
  | zero =>
    intro k F P hk hF hP
    obtain ⟨F, rfl⟩ : ∃ F', F = F' + 1 := ⟨F - 1, by omega⟩
    have e : k = 20 := by omega
    subst e
    obtain ⟨e0, e1, e2, e3, e4⟩ := wrd_20 (chF bs) a
    have hl5 : Lw (nq w (.inl 5) (fun _ => none) P) g := Lw_kp hl (Kp_nq (fun _ => False) w (.inl 5) (fun _ => none) P) (fun _ _ z => z)
    obtain ⟨r, g', f1, f2⟩ := ge_feed (fun j => Nat.lt_trans (chF_lt h8 j) (by decide)) ha ht
    obtain ⟨w1, a1, a2, a3, a4, a5⟩ := b_cl (A_feed _ _ _ _ _) (fun {u v u'} h => frX11_feed_0 _ _ _ _ _ u h) (fun c hc => by simp; omega) hl5 f1
    refine ⟨w1, g', P, ?_, a1, f2, a4, a2⟩
    show (DL_say_b17 _ _ _ _ _ _).1 _ = _
    unfold DL_say_b17
    rw [i_t (by decide), b_rd (ia_rq 0 0 (by decide) (by decide) (by decide)), b_rd (ia_rq 1 1 (by decide) (by decide) (by decide)), b_rd (ia_rq 2 2 (by decide) (by decide) (by decide)), b_rd (ia_rq 3 3 (by decide) (by decide) (by decide)), b_rd (ia_rq 4 4 (by decide) (by decide) (by decide)), hP 0 (by omega), hP 1 (by omega), hP 2 (by omega), hP 3 (by omega), hP 4 (by omega), e0, e1, e2, e3, e4]
    exact a5 Unit _
  | succ d ih =>
    intro k F P hk hF hP
    obtain ⟨F, rfl⟩ : ∃ F', F = F' + 1 := ⟨F - 1, by omega⟩
    have hk20 : k < 20 := by omega
    have hg5 : Sg (nq w (.inl 5) (fun _ => none) P) s u bs := Sg_kp hg (Kp_nq (fun _ => False) w (.inl 5) (fun _ => none) P) (fun _ _ z => z) (fun _ _ z => z) hlen
    have hP' : ∀ m, m < 5 → (upd P (k / 4) (nI (wrd (chF bs) a k (k / 4) * 256 + chF bs (a + k)))) m = nI (wrd (chF bs) a (k + 1) m) := fun m hm => by
      show _ = nI (if m = k / 4 then wrd (chF bs) a k m * 256 + chF bs (a + k) else wrd (chF bs) a k m)
      by_cases c : m = k / 4
      · rw [c, up_eq, if_pos rfl]
      · rw [up_ne c, if_neg c]
        exact hP m hm
    obtain ⟨w', g', P', q1, q2⟩ := ih (k + 1) F _ (by omega) (by omega) hP'
    refine ⟨w', g', P', ?_, q2⟩
    have b62 : ∀ c, c = chF bs (a + k) → (DL_say_b62 (DL_say_L17 k2 F) s (nI a) w.1.length (nI k) w.1.length (nI (k / 4)) (nI (wrd (chF bs) a k (k / 4)) <<< ((8 : Int32) &&& 31)) (nI c)).1 (nq w (.inl 5) (fun _ => none) P) = (k2 s (nI a + 20)).1 w' := fun c hc => by
      unfold DL_say_b62
      have c8 := chF_lt h8 (a + k)
      rw [hc, sh8_or (by omega), ia_nq rfl (k / 4) (nI (k / 4)) _ rfl (by omega) (by decide), ← nI_succ]
      exact q1
    show (DL_say_b17 _ _ _ _ _ _).1 _ = _
    unfold DL_say_b17
    rw [i_f (by rw [show (20 : Int32) = nI 20 by decide, nn_le (by decide) (by omega)]; omega), b_lf (dv4 k hk20), b_lf (dv4 k hk20), b_rd (ia_rq (k / 4) (nI (k / 4)) rfl (by omega) (by decide)), hP (k / 4) (by omega), b_rd hg5.1, b_ok (r_len hg5), nI_add]
    by_cases c : bs.length ≤ a + k
    · rw [i_t (by rw [nn_le (by omega) (by omega)]; exact c)]
      refine b62 32 ?_
      unfold chF
      rw [if_neg (by omega)]
    · rw [i_f (by rw [nn_le (by omega) (by omega)]; exact c), b_rd hg5.1, b_ok (r_chr hg5 (j := a + k) (by omega) (by omega))]
      refine b62 (bs.getD (a + k) 0) ?_
      unfold chF
      rw [if_pos (by omega)]
theorem r_sayL {W : Wt} {S : List Wt} {s u : Nat} {bs : List Nat} (hN : bs.length ≤ 400) (h8 : ∀ c ∈ bs, c < 128) (hs : 146 ≤ s) (hu : 146 ≤ u) : ∀ (d i F n : Nat) (w : Wd) (g : Mem), bs.length ≤ 20 * i + 20 * d → (bs.length = 0 → i = 0) → i + d ≤ 20 → d < F → Lw w g → Sg w s u bs → GT g W S (chF bs) (20 * i) → Rm w (n + d) → ∃ w' g', (DL_say_L2 F s (nI (20 * i))).1 w = some ((), w') ∧ Lw w' g' ∧ GT g' W S (chF bs) bs.length ∧ Kp CL w w' ∧ Rm w' n := by
  intro d
  induction d with
  | zero =>
    intro i F n w g h1 h0 h2 hF hl hg ht hR
    obtain ⟨F, rfl⟩ : ∃ F', F = F' + 1 := ⟨F - 1, by omega⟩
    show ∃ w' g', (DL_say_b2 _ _ _).1 w = _ ∧ _
    unfold DL_say_b2
    rw [b_rd hg.1, b_ok (r_len hg), i_t (by rw [nn_le (by omega) (by omega)]; omega), b_rd hg.1, b_ok (r_len hg)]
    by_cases c : bs.length = 0
    · rw [i_t (by rw [c]; decide), u_rt]
      have hi := h0 c
      subst hi
      rw [c]
      exact ⟨w, g, rfl, hl, ht, Kp_rf _ _, hR⟩
    · obtain ⟨g', f1, f2⟩ := ge_end (m := bs.length) (by omega) ht
      obtain ⟨w1, a1, a2, a3, a4, a5⟩ := b_cl (A_end _) (fun {u v u'} h => frX11_end_0 _ u h) (fun c hc => by simp; omega) hl f1
      rw [i_f (by rw [show (0 : Int32) = nI 0 by decide, nn_le (by omega) (by omega)]; omega), b_rd hg.1, b_ok (r_len hg)]
      refine ⟨w1, g', ?_, a1, f2, a4, Rm_e hR a2⟩
      refine (a5 Unit _).trans ?_
      rw [u_rt]
  | succ d ih =>
    intro i F n w g h1 h0 h2 hF hl hg ht hR
    obtain ⟨F, rfl⟩ : ∃ F', F = F' + 1 := ⟨F - 1, by omega⟩
    have hlen : w.1.length ≤ 590000 := by have := hR.1; omega
    show ∃ w' g', (DL_say_b2 _ _ _).1 w = _ ∧ _
    unfold DL_say_b2
    rw [b_rd hg.1, b_ok (r_len hg)]
    by_cases c1 : bs.length ≤ 20 * i
    · rw [i_t (by rw [nn_le (by omega) (by omega)]; omega), b_rd hg.1, b_ok (r_len hg)]
      by_cases c : bs.length = 0
      · rw [i_t (by rw [c]; decide), u_rt]
        have hi := h0 c
        subst hi
        rw [c]
        exact ⟨w, g, rfl, hl, ht, Kp_rf _ _, Rm_le hR (by omega)⟩
      · obtain ⟨g', f1, f2⟩ := ge_end (m := bs.length) (by omega) ht
        obtain ⟨w1, a1, a2, a3, a4, a5⟩ := b_cl (A_end _) (fun {u v u'} h => frX11_end_0 _ u h) (fun c hc => by simp; omega) hl f1
        rw [i_f (by rw [show (0 : Int32) = nI 0 by decide, nn_le (by omega) (by omega)]; omega), b_rd hg.1, b_ok (r_len hg)]
        refine ⟨w1, g', ?_, a1, f2, a4, Rm_le (Rm_e hR a2) (by omega)⟩
        refine (a5 Unit _).trans ?_
        rw [u_rt]
    · rw [i_f (by rw [nn_le (by omega) (by omega)]; exact c1), b_nw (show nwI 5 w = _ from nwI_n (n := 5) (by decide) w) (n := n + d) (c := 1) hR (by decide) (by decide)]
      obtain ⟨w1, g1, P1, q1, q2, q3, q4, q5⟩ := r_say17 (n := n) hl hg hlen hN h8 (a := 20 * i) (by omega) ht (DL_say_L2 F) 20 0 FU (fun _ => 0) (by omega) (by show _ < 10000; omega) (fun m hm => rfl)
      have kn := Kp_nq (fun c => c < 146) w (.inl 5) (fun _ => none) P1
      have K1 : Kp CL w w1 := Kp_tr kn q4 (fun _ _ z => z)
      have hg1 : Sg w1 s u bs := Sg_kp hg K1 (fun _ _ z => by have : s < 146 := z; omega) (fun _ _ z => by have : u < 146 := z; omega) hlen
      have R1 : Rm w1 (n + d) := Rm_e (Rm_nq1 hR (by omega)) q5
      obtain ⟨w', g', r1, r2, r3, r4, r5⟩ := ih (i + 1) F n w1 g1 (by omega) (by omega) (by omega) (by omega) q2 hg1 (by rw [show 20 * (i + 1) = 20 * i + 20 by omega]; exact q3) R1
      refine ⟨w', g', ?_, r2, r3, K_tr K1 r4, r5⟩
      have q1' : (DL_say_L17 (DL_say_L2 F) FU s (nI (20 * i)) w.1.length 0).1 (nq w (.inl 5) (fun _ => none) (fun _ => 0)) = _ := q1
      rw [q1', show (20 : Int32) = nI 20 by decide, nI_add, show 20 * i + 20 = 20 * (i + 1) by omega]
      exact r1
theorem r_say {w : Wd} {g : Mem} {W : Wt} {S : List Wt} {s u n : Nat} {bs : List Nat} (hl : Lw w g) (hG : GS g W S) (hg : Sg w s u bs) (hN : bs.length ≤ 400) (h8 : ∀ c ∈ bs, c < 128) (hs : 146 ≤ s) (hu : 146 ≤ u) (hR : Rm w (n + 20)) : ∃ w' g', (DL_say s).1 w = some ((), w') ∧ Lw w' g' ∧ GT g' W S (chF bs) bs.length ∧ Kp CL w w' ∧ Rm w' n :=
  r_sayL hN h8 hs hu 20 0 FU n w g (by omega) (fun _ => rfl) (by omega) (by show _ < 10000; omega) hl hg (GT_0 hG _) hR
