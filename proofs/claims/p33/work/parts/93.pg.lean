/-! a line of the book -/
theorem ro_ne {r : Rf} {a k : Nat} {o : Option Nat} {c j : Nat} (h : ¬ (c = a ∧ j = k)) : roset r a k o c j = r c j := if_neg h
theorem ro_eq (r : Rf) (a k : Nat) (o : Option Nat) : roset r a k o a k = o := if_pos ⟨rfl, rfl⟩
theorem rr_ne {r : Rf} {n : Nat} {ρ : Nat → Option Nat} {c : Nat} (h : c ≠ n) : rrow r n ρ c = r c := if_neg h
theorem wr_eq (w : Wd) (q : Nat) (P : Wt) : (wr w q P).2.2 q = P := ms_eq _ _ _
theorem nq_lt {w : Wd} {s : Shp} {ρ : Nat → Option Nat} {P : Wt} {c : Nat} (hc : c < w.1.length) : (nq w s ρ P).1[c]? = w.1[c]? ∧ (nq w s ρ P).2.1 c = w.2.1 c ∧ (nq w s ρ P).2.2 c = w.2.2 c := by
  have k := Kp_agr (Kp_nq (fun _ => False) w s ρ P) hc (fun z => z)
  exact k
def noteW (w : Wd) (a al i : Nat) (P Q : Wt) : Wd := (w.1 ++ [.inl 4], roset (rrow w.2.1 w.1.length (fun _ => none)) al i (some w.1.length), mset (mset w.2.2 a P) w.1.length Q)
theorem WA_note {w : Wd} {a : Nat} {L : Lay} {W W' : Wt} (h : WA w a L W) (hT : OkT W) {i : Nat} (hi : i < 150) (e3 : W 3 = nI i) {P Q : Wt} (lo : ∀ k, k ≠ 3 → k < 300 → W' k = W k) (hs : same78 W W') (e3' : W' 3 = nI (i + 1)) (hl : ∀ j k, j < i → k < 4 → W' (300 + 4 * j + k) = W (300 + 4 * j + k)) (hQ : ∀ k, k < 4 → Q k = W' (300 + 4 * i + k)) (hP : P 7 = nI (i + 1) ∧ ∀ j, j ≠ 7 → P j = w.2.2 a j) : WA (noteW w a (L.1 17) i P Q) a (L.1, L.2.1, (fun j => if j = i then w.1.length else L.2.2.1 j), L.2.2.2) W' := by
  have h12 := (OkT_n hT).2
  have h16 := (OkT_on hT).2
  have en := s78_n hs
  have lA := WA_len h
  have lt : ∀ {c}, RS a L W c → c < w.1.length := fun hc => RS_lt h hc
  obtain ⟨h1, h2, h3, h4, h5, h6, h7, h8⟩ := h
  obtain ⟨r1, r2, r3, r4, r5, r6⟩ := id h3
  have sh : ∀ {c}, c < w.1.length → (noteW w a (L.1 17) i P Q).1[c]? = w.1[c]? := fun hc => List.getElem?_append_left hc
  have me : ∀ {c}, c < w.1.length → c ≠ a → (noteW w a (L.1 17) i P Q).2.2 c = w.2.2 c := fun hc hd => by
    show mset (mset w.2.2 a P) w.1.length Q _ = _
    rw [ms_ne (by omega), ms_ne hd]
  have ma : (noteW w a (L.1 17) i P Q).2.2 a = P := by
    show mset (mset w.2.2 a P) w.1.length Q a = _
    rw [ms_ne (by omega), ms_eq]
  have mq : (noteW w a (L.1 17) i P Q).2.2 w.1.length = Q := ms_eq _ _ _
  have rf : ∀ {c j}, c < w.1.length → ¬ (c = L.1 17 ∧ j = i) → (noteW w a (L.1 17) i P Q).2.1 c j = w.2.1 c j := fun hc hd => by
    show roset _ _ _ _ _ _ = _
    rw [ro_ne hd, rr_ne (by omega)]
  have rq : (noteW w a (L.1 17) i P Q).2.1 (L.1 17) i = some w.1.length := if_pos ⟨rfl, rfl⟩
  have shq : (noteW w a (L.1 17) i P Q).1[w.1.length]? = some (.inl 4) := nq_s w _ (fun _ => none) Q
  have l13 := lt (RS_j (a := a) (L := L) (W := W) (j := 13) (by omega) (by omega))
  have l14 := lt (RS_j (a := a) (L := L) (W := W) (j := 14) (by omega) (by omega))
  have l15 := lt (RS_j (a := a) (L := L) (W := W) (j := 15) (by omega) (by omega))
  have l16 := lt (RS_j (a := a) (L := L) (W := W) (j := 16) (by omega) (by omega))
  have l17 := lt (RS_j (a := a) (L := L) (W := W) (j := 17) (by omega) (by omega))
  have l18 := lt (RS_j (a := a) (L := L) (W := W) (j := 18) (by omega) (by omega))
  have d : ∀ {c : Nat} {s : Shp}, w.1[c]? = some s → s ≠ .inr (.inl 12) → c ≠ a := fun hc hd => ne_sh hc h2.1 hd
  have n87 : W' 87 = W 87 := lo 87 (by omega) (by omega)
  have n3 : nt (W 3) = i := by rw [e3, nt_nI (by omega)]
  have n3' : nt (W' 3) = i + 1 := by rw [e3', nt_nI (by omega)]
  refine ⟨?_, ?_, ?_, ?_, ?_, ?_, ?_, ?_⟩
  · unfold WAi
    obtain ⟨p7, p⟩ := hP
    obtain ⟨k0, k1, k2, k3, k4, k5, k6, k7, k8, k9, k10, k11⟩ := h1
    rw [ma, p 0 (by omega), p 1 (by omega), p 2 (by omega), p 3 (by omega), p 4 (by omega), p 5 (by omega), p 6 (by omega), p7, p 8 (by omega), p 9 (by omega), p 10 (by omega), p 11 (by omega), sHills_W hs, lo 0 (by omega) (by omega), lo 1 (by omega) (by omega), lo 2 (by omega) (by omega), lo 79 (by omega) (by omega), lo 80 (by omega) (by omega), lo 81 (by omega) (by omega), lo 78 (by omega) (by omega), lo 85 (by omega) (by omega), n87]
    exact ⟨k0, k1, k2, k3, k4, k5, k6, e3'.symm, k8, k9, k10, k11⟩
  · refine ⟨by rw [sh lA]; exact h2.1, fun j j1 j2 => ?_, ?_⟩
    · rw [rf lA (fun z => (ne_sh r5 h2.1 (by decide)) z.1.symm)]
      exact h2.2.1 j j1 j2
    · rw [rf lA (fun z => (ne_sh r5 h2.1 (by decide)) z.1.symm)]
      exact h2.2.2
  · unfold WAs
    rw [n87, sh l13, sh l14, sh l15, sh l16, sh l17, sh l18]
    exact h3
  · unfold WAv
    rw [me l13 (d r1 (by decide)), me l14 (d r2 (by decide)), me l15 (d r3 (by decide))]
    exact ⟨fun c hc => by rw [lo (82 + c) (by omega) (by omega)]; exact h4.1 c hc, fun j hj => by rw [sTold_W hs hT]; exact h4.2.1 j hj, fun f hf => by rw [sWt1_W hs hT]; exact h4.2.2 f hf⟩
  · refine ⟨fun j hj => ?_, fun i j hi hj => h5.2 i j (by omega) (by omega)⟩
    rw [en] at hj
    have q := h5.1 j hj
    have lj := lt (RS_m (a := a) (L := L) hj)
    unfold WA1 at q ⊢
    rw [rf l16 (fun z => ne_sh r4 r5 (by decide) z.1), sh lj, me lj (d q.2.1 (by decide)), lo (90 + j) (by omega) (by omega), lo (102 + j) (by omega) (by omega), lo (114 + j) (by omega) (by omega), lo (4 + j) (by omega) (by omega), lo (16 + j) (by omega) (by omega), lo (28 + j) (by omega) (by omega), lo (40 + j) (by omega) (by omega), lo (52 + j) (by omega) (by omega), lo (64 + j) (by omega) (by omega)]
    exact q
  · intro j hj
    rw [n3'] at hj
    by_cases c : j = i
    · subst c
      refine ⟨by rw [rq]; show _ = some (if j = j then _ else _); rw [if_pos rfl], ?_, fun k hk => ?_⟩
      · show (noteW w a (L.1 17) j P Q).1[if j = j then w.1.length else L.2.2.1 j]? = _
        rw [if_pos rfl]
        exact shq
      · show (noteW w a (L.1 17) j P Q).2.2 (if j = j then w.1.length else L.2.2.1 j) k = _
        rw [if_pos rfl, mq]
        exact hQ k hk
    · have q := h6 j (by omega)
      have lj := lt (RS_l (a := a) (L := L) (show j < nt (W 3) by omega))
      show (noteW w a (L.1 17) i P Q).2.1 (L.1 17) j = some (if j = i then _ else _) ∧ (noteW w a (L.1 17) i P Q).1[if j = i then w.1.length else L.2.2.1 j]? = _ ∧ ∀ k, k < 4 → (noteW w a (L.1 17) i P Q).2.2 (if j = i then w.1.length else L.2.2.1 j) k = _
      rw [if_neg c, rf l17 (fun z => c z.2), sh lj, me lj (d q.2.1 (by decide))]
      exact ⟨q.1, q.2.1, fun k hk => by rw [hl j k (by omega) hk]; exact q.2.2 k hk⟩
  · intro j hj
    rw [n87] at hj
    have q := h7 j hj
    have lj := lt (RS_o (a := a) (L := L) hj)
    rw [rf l18 (fun z => by
      have := (ne_sh (w := w) (c := L.1 18) (c' := L.1 17) (s := .inr (.inr (2, nt (W 87)))) (s' := .inr (.inr (2, 150))) r6 r5 (fun z => by
        have := congrArg (fun s : Shp => match s with | .inr (.inr (_, n)) => n | _ => 0) z
        have : nt (W 87) = 150 := this
        omega))
      exact this z.1), sh lj, me lj (d q.2.1 (by decide)), lo (222 + 3 * j) (by omega) (by omega), lo (222 + 3 * j + 1) (by omega) (by omega), lo (222 + 3 * j + 2) (by omega) (by omega)]
    exact q
  · unfold WAd at h8 ⊢
    show (match L.2.2.2.2 with | none => Lq none W' | some q => (noteW w a (L.1 17) i P Q).1[q]? = some (.inl 7) ∧ Lq (some ((noteW w a (L.1 17) i P Q).2.2 q)) W')
    cases eq : L.2.2.2.2 with
    | none =>
      rw [eq] at h8
      exact Lq_W hs h8
    | some q =>
      rw [eq] at h8
      have lj := lt (RS_d (a := a) (W := W) eq)
      show _ ∧ _
      rw [sh lj, me lj (d h8.1 (by decide))]
      exact ⟨h8.1, Lq_W hs h8.2⟩
theorem Go_note {w : Wd} {a : Nat} {L : Lay} {W : Wt} (h : Wv w a L W) {i : Nat} (hi : i < 150) (e3 : W 3 = nI i) {P Q : Wt} (what m num : Int32) (hQ : ∀ k, k < 4 → Q k = (dNote 1 what m num W) (300 + 4 * i + k)) (hP : P 7 = nI (i + 1) ∧ ∀ j, j ≠ 7 → P j = w.2.2 a j) : Go w a L W (noteW w a (L.1 17) i P Q) (L.1, L.2.1, (fun j => if j = i then w.1.length else L.2.2.1 j), L.2.2.2) (dNote 1 what m num W) := by
  obtain ⟨hA, ho, hW, hb⟩ := h
  have e : dNote 1 what m num W = upd (upd (upd (upd (upd W (300 + 4 * i) (W 0)) (300 + 4 * i + 1) what) (300 + 4 * i + 2) m) (300 + 4 * i + 3) num) 3 (W 3 + 1) := by
    unfold dNote
    rw [if_neg z1, if_neg (by rw [e3, show (150 : Int32) = nI 150 by decide, nn_eq (by omega) (by omega)]; omega), e3, nt_nI (by omega)]
  have e3' : dNote 1 what m num W 3 = nI (i + 1) := by rw [e, up_eq, e3, nI_1]
  have n3 : nt (W 3) = i := by rw [e3, nt_nI (by omega)]
  have n3' : nt (dNote 1 what m num W 3) = i + 1 := by rw [e3', nt_nI (by omega)]
  have lo := fun k (h1 : k ≠ 3) (h2 : k < 300) => dNote_lo (tr := 1) (what := what) (m := m) (num := num) hW.2.1 (k := k) ⟨h1, h2⟩
  have hs := dNote_s (tr := 1) (what := what) (m := m) (num := num) hW.2.1
  have h16 := OKs_len ho
  have hl : w.1.length ≤ (noteW w a (L.1 17) i P Q).1.length := by
    show _ ≤ (w.1 ++ [Sum.inl 4]).length
    rw [List.length_append]
    omega
  have lA := WA_len hA
  have l17 := RS_lt hA (RS_j (a := a) (L := L) (W := W) (j := 17) (by omega) (by omega))
  have k : Kp (MW a L (nmen W)) w (noteW w a (L.1 17) i P Q) := by
    refine ⟨⟨_, rfl⟩, fun c hc hs => ⟨?_, ?_⟩⟩
    · funext j
      show roset _ _ _ _ _ _ = _
      rw [ro_ne (fun z => hs (Or.inr (Or.inr (Or.inl z.1)))), rr_ne (by omega)]
    · show mset (mset w.2.2 a P) w.1.length Q _ = _
      rw [ms_ne (by omega), ms_ne (fun z => hs (Or.inl z))]
  refine ⟨⟨WA_note hA hW.1 hi e3 lo hs e3' (fun j k hj hk => ?_) hQ hP, Kp_OKs k ho (fun c hc => Or.inl (fun z => ?_)), WO_note hW, fun c hc => ?_⟩, k, ⟨rfl, rfl, rfl⟩, fun j hj => ?_, s78_n hs, lo 87 (by omega) (by omega)⟩
  · rw [e, up_ne (by omega), up_ne (by omega), up_ne (by omega), up_ne (by omega), up_ne (by omega)]
  · have := hb c (MW_RS z)
    omega
  · rcases hc with rfl | ⟨j, j1, j2, rfl⟩ | ⟨j, hj, rfl⟩ | ⟨j, hj, rfl⟩ | ⟨j, hj, rfl⟩ | hq
    · exact hb _ RS_a
    · exact hb _ (RS_j j1 j2)
    · exact hb _ (RS_m (by rw [← s78_n hs]; exact hj))
    · show 146 ≤ if j = i then w.1.length else L.2.2.1 j
      rw [n3'] at hj
      by_cases c : j = i
      · rw [if_pos c]; exact h16
      · rw [if_neg c]; exact hb _ (RS_l (by omega))
    · exact hb _ (RS_o (by rw [← lo 87 (by omega) (by omega)]; exact hj))
    · exact hb _ (RS_d hq)
  · show (j < nt (W 3) ∧ (if j = i then w.1.length else L.2.2.1 j) = L.2.2.1 j) ∨ w.1.length ≤ (if j = i then w.1.length else L.2.2.1 j)
    rw [n3'] at hj
    by_cases c : j = i
    · rw [if_pos c]; exact Or.inr (Nat.le_refl _)
    · rw [if_neg c]; exact Or.inl ⟨by omega, rfl⟩
theorem Rm_wr {w : Wd} {n q : Nat} {P : Wt} (h : Rm w n) : Rm (wr w q P) n := h
theorem r_notes {w : Wd} {a : Nat} {L : Lay} {W : Wt} {n : Nat} (h : Wv w a L W) (hR : Rm w (n + 1)) (what m num : Int32) : ∃ w' L', (DX12_notes a what m num 1).1 w = some ((), w') ∧ Go w a L W w' L' (dNote 1 what m num W) ∧ Rm w' n := by
  unfold DX12_notes
  obtain ⟨hA, ho, hW, hb⟩ := id h
  obtain ⟨i, hi, e3⟩ := OkD_ln hW.2.1
  rw [i_f z1, b_rd (g_7 hA)]
  by_cases c : i = 150
  · subst c
    refine ⟨w, L, ?_, ?_, Rm_le hR (by omega)⟩
    · rw [i_t (by rw [e3]; decide), u_rt]
    · have e : dNote 1 what m num W = W := by
        unfold dNote
        rw [if_neg z1, if_pos (by rw [e3]; decide)]
      rw [e]
      exact Go_rf h
  · have e : dNote 1 what m num W = upd (upd (upd (upd (upd W (300 + 4 * i) (W 0)) (300 + 4 * i + 1) what) (300 + 4 * i + 2) m) (300 + 4 * i + 3) num) 3 (W 3 + 1) := by
      unfold dNote
      rw [if_neg z1, if_neg (by rw [e3, show (150 : Int32) = nI 150 by decide, nn_eq (by omega) (by omega)]; omega), e3, nt_nI (by omega)]
    have v0 : dNote 1 what m num W (300 + 4 * i + 0) = W 0 := by rw [e, up_ne (by omega), up_ne (by omega), up_ne (by omega), up_ne (by omega)]; exact up_eq _ _ _
    have v1 : dNote 1 what m num W (300 + 4 * i + 1) = what := by rw [e, up_ne (by omega), up_ne (by omega), up_ne (by omega)]; exact up_eq _ _ _
    have v2 : dNote 1 what m num W (300 + 4 * i + 2) = m := by rw [e, up_ne (by omega), up_ne (by omega)]; exact up_eq _ _ _
    have v3 : dNote 1 what m num W (300 + 4 * i + 3) = num := by rw [e, up_ne (by omega)]; exact up_eq _ _ _
    have lA := WA_len hA
    have l17 := RS_lt hA (RS_j (a := a) (L := L) (W := W) (j := 17) (by omega) (by omega))
    have sA := (WA_r hA).1
    have s17 := (WA_s hA).2.2.2.2.1
    have k1 : ∀ P : Wt, gfI a 12 1 (nq (wr w a (upd (w.2.2 a) 7 (W 3 + 1))) (.inl 4) (fun _ => none) P) = some (W 0) := fun P => by
      unfold gfI
      have z := nq_lt (w := wr w a (upd (w.2.2 a) 7 (W 3 + 1))) (s := .inl 4) (ρ := fun _ => none) (P := P) (c := a) lA
      rw [if_pos (z.1.trans sA), z.2.2, wr_eq]
      exact congrArg some (WA_i hA).2.1
    rw [i_f (by rw [e3, show (150 : Int32) = nI 150 by decide, nn_le (by omega) (by omega)]; omega), b_rd (g_R hA 17 (by decide) (by decide)), b_rd (g_7 hA), b_fld0 sA 7, b_nw (show nwI 4 _ = _ from nwI_n (n := 4) (by decide) _) (Rm_wr hR) (by decide) (by decide), b_rd (k1 _), ia_nq rfl 0 0 _ (by decide) (by decide) (by decide), ia_nq rfl 1 1 _ (by decide) (by decide) (by decide), ia_nq rfl 2 2 _ (by decide) (by decide) (by decide), ia_nq rfl 3 3 _ (by decide) (by decide) (by decide)]
    have g := Go_note h (i := i) (by omega) e3 (P := upd (w.2.2 a) 7 (W 3 + 1)) (Q := upd (upd (upd (upd (fun _ => 0) 0 (W 0)) 1 what) 2 m) 3 num) what m num (fun k hk => by
      rcases (by omega : k = 0 ∨ k = 1 ∨ k = 2 ∨ k = 3) with rfl | rfl | rfl | rfl
      · rw [v0]; rfl
      · rw [v1]; rfl
      · rw [v2]; rfl
      · rw [v3]; rfl) ⟨by rw [up_eq, e3, nI_1], fun j hj => up_ne hj⟩
    refine ⟨_, _, ?_, g, ?_⟩
    · refine (b_pt (q := ((noteW w a (L.1 17) i (upd (w.2.2 a) 7 (W 3 + 1)) (upd (upd (upd (upd (fun _ => 0) 0 (W 0)) 1 what) 2 m) 3 num)).2)) ?_).trans rfl
      unfold aast
      have z := nq_lt (w := wr w a (upd (w.2.2 a) 7 (W 3 + 1))) (s := .inl 4) (ρ := fun _ => none) (P := upd (upd (upd (upd (fun _ => 0) 0 (W 0)) 1 what) 2 m) 3 num) (c := L.1 17) l17
      have z2 := nq_s (wr w a (upd (w.2.2 a) 7 (W 3 + 1))) (.inl 4) (fun _ => none) (upd (upd (upd (upd (fun _ => 0) 0 (W 0)) 1 what) 2 m) 3 num)
      have s17' : (wr w a (upd (w.2.2 a) 7 (W 3 + 1))).1[L.1 17]? = some (.inr (.inr (2, 150))) := s17
      rw [z.1, s17', z2]
      show (if _ ∨ _ then none else some (_, _)) = _
      rw [if_neg (by rw [e3]; exact nI_in (by omega) (by decide)), e3, nI_clamp (by omega)]
      rfl
    · exact Rm_nq (w := wr w a (upd (w.2.2 a) 7 (W 3 + 1))) (s := .inl 4) (ρ := fun _ => none) (P := fun _ => 0) (n := n) (c := 1) hR (by decide) (by decide)
