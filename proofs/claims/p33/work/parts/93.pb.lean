theorem r_bc {w : Wd} (ho : OKs w) {W : Wt} (hD : OkD W) {m : Nat} (hm : m < 12) : (dclR (fun _ => FJ6_bitCount_0f7a4 (W (16 + m)))).1 w = some (nI (pc (W (16 + m))), w) := dclR_ok ho (bc_kn hD hm)
theorem dv_ok {x y : Int32} (h : ¬ y = 0) : dvI x y = some (x / y) := if_neg h
theorem rm_ok {x y : Int32} (h : ¬ y = 0) : rmI x y = some (x - x / y * y) := if_neg h
theorem g_dk {w : Wd} {q : Nat} (hs : w.1[q]? = some (.inl 7)) (j : Nat) (i : Int32) (e : i = nI j) (h : j < 7) : iald q i w = some (w.2.2 q j) := ia_k hs j i e h (by decide)
theorem r_says57 {w : Wd} {a : Nat} {L : Lay} {W : Wt} (h : WA w a L W) (ho : OKs w) (hW : WO W) {m : Nat} (hm : m < nmen W) {wd : Nat} (hwd : wd < 4) (l5 t0 : Int32) : (DX12_says_b57 a (nI wd) (L.2.1 m) l5 t0).1 w = some (sayN W wd m, w) := by
  unfold DX12_says_b57 sayN
  have hm12 : m < 12 := Nat.lt_of_lt_of_le hm (OkT_n hW.1).2
  rw [b_rd (g_m4 h hm), b_ok (r_bc ho hW.2.1 hm12)]
  rcases (by omega : wd = 0 ∨ wd = 1 ∨ wd = 2 ∨ wd = 3) with rfl | rfl | rfl | rfl
  · rw [i_t (by decide), b_rd (g_m1 h hm), b_ok (r_held _ _ _ _), u_rt]
    rfl
  · rw [i_f (by decide), i_t (by decide), b_rd (g_m2 h hm), u_rt]
    rfl
  · rw [i_f (by decide), i_f (by decide), i_t (by decide), u_rt]
    rfl
  · rw [i_f (by decide), i_f (by decide), i_f (by decide), u_rt]
    rfl
theorem r_says57a {w : Wd} {a : Nat} {L : Lay} {W : Wt} (h : WA w a L W) (ho : OKs w) (hW : WO W) {m : Nat} (hm : m < nmen W) {wd : Nat} (hwd : wd < 4) {q : Nat} (hq : w.1[q]? = some (.inl 7)) {l5 t0 : Int32} (h5 : l5 = if W (40 + m) = 1 then W (52 + m) else 0) (h0 : t0 = if hbt W m then 1 else 0) : (DX12_says_b57a a (nI wd) (L.2.1 m) q l5 t0).1 w = some (sayS (w.2.2 q) W wd m, w) := by
  unfold DX12_says_b57a sayS
  have hm12 : m < 12 := Nat.lt_of_lt_of_le hm (OkT_n hW.1).2
  rw [b_rd (g_m4 h hm), b_ok (r_bc ho hW.2.1 hm12)]
  have e170 : (DX12_says_b170 (L.2.1 m) q).1 w = some (hld (W (102 + m) / 9 - w.2.2 q 1) 0 120, w) := by
    unfold DX12_says_b170
    rw [b_rd (g_m1 h hm), b_lf (dv_ok (by decide)), b_rd (g_dk hq 1 1 (by decide) (by decide)), b_ok (r_held _ _ _ _), u_rt]
  have e149 : (DX12_says_b149 (L.2.1 m) q).1 w = some (hld ((W (102 + m) - w.2.2 q 0) + W (114 + m)) 0 120, w) := by
    unfold DX12_says_b149
    rw [b_rd (g_m1 h hm), b_rd (g_dk hq 0 0 (by decide) (by decide)), b_rd (g_m2 h hm), b_ok (r_held _ _ _ _), u_rt]
  have e209 : (DX12_says_b209 (L.2.1 m)).1 w = some (hld (W (114 + m) / 2) 0 9, w) := by
    unfold DX12_says_b209
    rw [b_rd (g_m2 h hm), b_lf (dv_ok (by decide)), b_ok (r_held _ _ _ _), u_rt]
  rcases (by omega : wd = 0 ∨ wd = 1 ∨ wd = 2 ∨ wd = 3) with rfl | rfl | rfl | rfl
  · rw [i_t (by decide), b_rd (g_m1 h hm), b_rd (g_dk hq 0 0 (by decide) (by decide)), if_pos rfl]
    by_cases c1 : W (102 + m) ≤ w.2.2 q 0
    · rw [i_t c1, e170, if_pos (Or.inl c1)]
    · rw [i_f c1]
      by_cases c2 : 3 < nI (pc (W (16 + m)))
      · rw [i_t c2, e170, if_pos (Or.inr (Or.inl c2))]
      · rw [i_f c2, b_rd (g_m0 h hm)]
        by_cases c3 : W (90 + m) = 1
        · rw [i_t c3, b_rd (g_4 h)]
          by_cases c4 : 5 < W 80
          · rw [i_t c4, e170, if_pos (Or.inr (Or.inr ⟨c3, c4⟩))]
          · rw [i_f c4, e149, if_neg (fun z => z.elim c1 (fun z => z.elim c2 (fun z => c4 z.2)))]
        · rw [i_f c3, e149, if_neg (fun z => z.elim c1 (fun z => z.elim c2 (fun z => c3 z.1)))]
  · rw [i_f (by decide), i_t (by decide), if_neg (show ¬ (1 : Nat) = 0 by decide), if_pos (show (1 : Nat) = 1 from rfl), h0]
    by_cases c1 : hbt W m
    · rw [if_pos c1, i_f (by decide), e209, if_neg (fun z => z.2 c1)]
    · rw [if_neg c1, i_t rfl, b_rd (g_4 h), b_rd (g_dk hq 2 2 (by decide) (by decide))]
      by_cases c2 : W 80 ≤ w.2.2 q 2
      · rw [i_t c2, b_rd (g_m2 h hm), b_rd (g_dk hq 3 3 (by decide) (by decide)), b_ok (r_held _ _ _ _), u_rt, if_pos ⟨c2, c1⟩]
      · rw [i_f c2, e209, if_neg (fun z => c2 z.1)]
  · rw [i_f (by decide), i_f (by decide), i_t (by decide), if_neg (show ¬ (2 : Nat) = 0 by decide), if_neg (show ¬ (2 : Nat) = 1 by decide), if_pos (show (2 : Nat) = 2 from rfl), b_rd (g_m3 h hm), b_rd (g_dk hq 4 4 (by decide) (by decide))]
    by_cases c1 : w.2.2 q 4 ≤ W (4 + m)
    · rw [i_t c1, u_rt, if_pos (Or.inl c1)]
    · rw [i_f c1, b_rd (g_1 h), b_lf (rm_ok (by decide))]
      by_cases c2 : W 0 - W 0 / 2 * 2 = 0
      · rw [i_t c2, b_rd (g_dk hq 5 5 (by decide) (by decide)), b_ok (r_held _ _ _ _), u_rt, if_neg (fun z => z.elim c1 (fun z => z c2))]
      · rw [i_f c2, u_rt, if_pos (Or.inr c2)]
  · rw [i_f (by decide), i_f (by decide), i_f (by decide), if_neg (show ¬ (3 : Nat) = 0 by decide), if_neg (show ¬ (3 : Nat) = 1 by decide), if_neg (show ¬ (3 : Nat) = 2 by decide), b_rd (g_dk hq 6 6 (by decide) (by decide)), b_ok (r_held _ _ _ _), u_rt, h5]
theorem r_says0 {w : Wd} {a : Nat} {L : Lay} {W : Wt} (h : WA w a L W) (ho : OKs w) (hW : WO W) {m : Nat} (hm : m < nmen W) {wd : Nat} (hwd : wd < 4) : (DX12_says a (nI wd) (nI m)).1 w = some (dAsk W wd m, w) := by
  unfold DX12_says
  rw [b_rd (g_R h 16 (by decide) (by decide)), b_rd (g_man h hW.1 hm), b_rd (g_O h)]
  have hd := WA_d h
  unfold WAd at hd
  cases e : L.2.2.2.2 with
  | none =>
    rw [e] at hd
    rw [u_on, b_rd (g_m6 h hm), ← hd W (fun _ _ => rfl) hW wd m hwd hm]
    by_cases c : W (40 + m) = 1
    · rw [i_t c, b_rd (g_m7 h hm c)]
      unfold DX12_says_b29
      rw [b_rd (g_m6 h hm), i_t c, b_rd (g_8 h)]
      by_cases c2 : ((sHills W >>> (W (52 + m) &&& 31)) &&& 1) = 1
      · rw [i_t c2, r_says57 h ho hW hm hwd]; rfl
      · rw [i_f c2, r_says57 h ho hW hm hwd]; rfl
    · rw [i_f c]
      unfold DX12_says_b29
      rw [b_rd (g_m6 h hm), i_f c, r_says57 h ho hW hm hwd]; rfl
  | some q =>
    rw [e] at hd
    rw [u_os, b_rd (g_m6 h hm), ← hd.2 W (fun _ _ => rfl) hW wd m hwd hm]
    by_cases c : W (40 + m) = 1
    · rw [i_t c, b_rd (g_m7 h hm c)]
      unfold DX12_says_b29a
      rw [b_rd (g_m6 h hm), i_t c, b_rd (g_8 h)]
      by_cases c2 : ((sHills W >>> (W (52 + m) &&& 31)) &&& 1) = 1
      · rw [i_t c2, r_says57a h ho hW hm hwd hd.1 (by rw [if_pos c]) (by rw [if_pos ⟨c, c2⟩])]; rfl
      · rw [i_f c2, r_says57a h ho hW hm hwd hd.1 (by rw [if_pos c]) (by rw [if_neg (fun z => c2 z.2)])]; rfl
    · rw [i_f c]
      unfold DX12_says_b29a
      rw [b_rd (g_m6 h hm), i_f c, r_says57a h ho hW hm hwd hd.1 (by rw [if_neg c]) (by rw [if_neg (fun z => c z.1)])]; rfl
theorem r_say0 {w : Wd} {a : Nat} {L : Lay} {W : Wt} (h : WA w a L W) (ho : OKs w) (hW : WO W) {m : Nat} (hm : m < nmen W) : (DX12_says a 0 (nI m)).1 w = some (dAsk W 0 m, w) := by
  have q := r_says0 h ho hW hm (show 0 < 4 by decide)
  rwa [show nI 0 = 0 by decide] at q
theorem r_say1 {w : Wd} {a : Nat} {L : Lay} {W : Wt} (h : WA w a L W) (ho : OKs w) (hW : WO W) {m : Nat} (hm : m < nmen W) : (DX12_says a 1 (nI m)).1 w = some (dAsk W 1 m, w) := by
  have q := r_says0 h ho hW hm (show 1 < 4 by decide)
  rwa [show nI 1 = 1 by decide] at q
theorem r_say2 {w : Wd} {a : Nat} {L : Lay} {W : Wt} (h : WA w a L W) (ho : OKs w) (hW : WO W) {m : Nat} (hm : m < nmen W) : (DX12_says a 2 (nI m)).1 w = some (dAsk W 2 m, w) := by
  have q := r_says0 h ho hW hm (show 2 < 4 by decide)
  rwa [show nI 2 = 2 by decide] at q
theorem r_say3 {w : Wd} {a : Nat} {L : Lay} {W : Wt} (h : WA w a L W) (ho : OKs w) (hW : WO W) {m : Nat} (hm : m < nmen W) : (DX12_says a 3 (nI m)).1 w = some (dAsk W 3 m, w) := by
  have q := r_says0 h ho hW hm (show 3 < 4 by decide)
  rwa [show nI 3 = 3 by decide] at q
theorem r_call {w : Wd} {a : Nat} {L : Lay} {W : Wt} (h : WA w a L W) (ho : OKs w) (hW : WO W) {m : Nat} (hm : m < nmen W) : (DX12_call a (nI m)).1 w = some (dCall 0 W m, w) := by
  unfold DX12_call dCall
  rw [b_rd (g_R h 16 (by decide) (by decide)), b_rd (g_man h hW.1 hm), b_rd (g_m1 h hm), b_rd (g_11 h)]
  by_cases c : (0 : Int32) ≤ W (102 + m)
  · rw [i_t c, if_pos c, b_rd (g_C h), b_ok (r_say0 h ho hW hm), u_rt]
  · rw [i_f c, if_neg c, u_rt]
theorem or0 (x : Int32) : x ||| 0 = x := tb_ext (fun k _ => by rw [tb_or, tb_0, Bool.or_false])
theorem le_n {W : Wt} (hT : OkT W) {i : Nat} (hi : i ≤ nmen W) : (W 78 ≤ nI i) = (nmen W ≤ i) := by
  have q := (OkT_n hT).2
  rw [(OkT_n hT).1, nn_le (by omega) (by omega)]
theorem r_fieldL {w : Wd} {a : Nat} {L : Lay} {W : Wt} (h : WA w a L W) (hT : OkT W) (c : Int32) : ∀ (k i F : Nat), i + k = nmen W → k < F → (DX12_field_L4 F a c (fo i (fun m s => s + if W (90 + m) = c ∧ W (40 + m) = 1 then 1 else 0) 0) (nI i)).1 w = some (sIn W c, w) := by
  intro k
  induction k with
  | zero =>
    intro i F hi hF
    obtain ⟨F, rfl⟩ : ∃ F', F = F' + 1 := ⟨F - 1, by omega⟩
    show (DX12_field_b4 _ _ _ _ _).1 w = _
    unfold DX12_field_b4
    rw [b_rd (g_6 h), i_t (by rw [le_n hT (by omega)]; omega), u_rt]
    unfold sIn
    rw [show i = nmen W by omega]
  | succ k ih =>
    intro i F hi hF
    obtain ⟨F, rfl⟩ : ∃ F', F = F' + 1 := ⟨F - 1, by omega⟩
    show (DX12_field_b4 _ _ _ _ _).1 w = _
    unfold DX12_field_b4
    rw [b_rd (g_6 h), i_f (by rw [le_n hT (by omega)]; omega), b_rd (g_C h), b_ok (r_is h hT (by omega) c 1)]
    have q := ih (i + 1) F (by omega) (by omega)
    rw [fo_s, nI_succ] at q
    by_cases c1 : W (90 + i) = c ∧ W (40 + i) = 1
    · rw [if_pos c1] at q ⊢
      rw [i_f (by decide)]
      exact q
    · rw [if_neg c1] at q ⊢
      rw [i_t rfl]
      rw [Int32.add_zero] at q
      exact q
theorem r_field {w : Wd} {a : Nat} {L : Lay} {W : Wt} (h : WA w a L W) (hT : OkT W) (c : Int32) : (DX12_field a c).1 w = some (sIn W c, w) := by
  have q := r_fieldL h hT c (nmen W) 0 FU (by omega) (by have := (OkT_n hT).2; show _ < 10000; omega)
  exact q
theorem r_knowsL {w : Wd} {a : Nat} {L : Lay} {W : Wt} (h : WA w a L W) (hT : OkT W) (c : Int32) : ∀ (k i F : Nat), i + k = nmen W → k < F → (DX12_knows_L4 F a c (fo i (fun m s => s ||| if W (90 + m) = c then W (16 + m) else 0) 0) (nI i)).1 w = some (sKn W c, w) := by
  intro k
  induction k with
  | zero =>
    intro i F hi hF
    obtain ⟨F, rfl⟩ : ∃ F', F = F' + 1 := ⟨F - 1, by omega⟩
    show (DX12_knows_b4 _ _ _ _ _).1 w = _
    unfold DX12_knows_b4
    rw [b_rd (g_6 h), i_t (by rw [le_n hT (by omega)]; omega), u_rt]
    unfold sKn
    rw [show i = nmen W by omega]
  | succ k ih =>
    intro i F hi hF
    obtain ⟨F, rfl⟩ : ∃ F', F = F' + 1 := ⟨F - 1, by omega⟩
    show (DX12_knows_b4 _ _ _ _ _).1 w = _
    unfold DX12_knows_b4
    rw [b_rd (g_6 h), i_f (by rw [le_n hT (by omega)]; omega), b_rd (g_R h 16 (by decide) (by decide)), b_rd (g_man h hT (by omega)), b_rd (g_m0 h (by omega))]
    have q := ih (i + 1) F (by omega) (by omega)
    rw [fo_s, nI_succ] at q
    by_cases c1 : W (90 + i) = c
    · rw [if_pos c1] at q
      rw [i_t c1, b_rd (g_R h 16 (by decide) (by decide)), b_rd (g_man h hT (by omega)), b_rd (g_m4 h (by omega))]
      exact q
    · rw [if_neg c1, or0] at q
      rw [i_f c1]
      exact q
theorem r_knows {w : Wd} {a : Nat} {L : Lay} {W : Wt} (h : WA w a L W) (hT : OkT W) (c : Int32) : (DX12_knows a c).1 w = some (sKn W c, w) := by
  have q := r_knowsL h hT c (nmen W) 0 FU (by omega) (by have := (OkT_n hT).2; show _ < 10000; omega)
  exact q
theorem g_we {w : Wd} {a : Nat} {L : Lay} {W : Wt} (h : WA w a L W) {f : Nat} (hf : f < 8) : iald (L.1 15) (nI f) w = some (sWt1 W (nI f)) := by
  rw [ia_k (WA_s h).2.2.1 f (nI f) rfl hf (by decide), (WA_v h).2.2 f hf]
theorem r_weighsL {w : Wd} {a : Nat} {L : Lay} {W : Wt} (h : WA w a L W) (z : Int32) : ∀ (k i F : Nat), i + k = 8 → k < F → (DX12_weighs_L4 F a z (fo i (fun f s => s + if tb z f = true then sWt1 W (nI f) else 0) 0) (nI i)).1 w = some (sWt W z, w) := by
  intro k
  induction k with
  | zero =>
    intro i F hi hF
    obtain ⟨F, rfl⟩ : ∃ F', F = F' + 1 := ⟨F - 1, by omega⟩
    show (DX12_weighs_b4 _ _ _ _ _).1 w = _
    unfold DX12_weighs_b4
    have hi : i = 8 := by omega
    subst hi
    rw [i_t (by decide), u_rt]
    rfl
  | succ k ih =>
    intro i F hi hF
    obtain ⟨F, rfl⟩ : ∃ F', F = F' + 1 := ⟨F - 1, by omega⟩
    show (DX12_weighs_b4 _ _ _ _ _).1 w = _
    unfold DX12_weighs_b4
    have q := ih (i + 1) F (by omega) (by omega)
    rw [fo_s, nI_succ] at q
    rw [i_f (by rw [show (8 : Int32) = nI 8 by decide, nn_le (by decide) (by omega)]; omega)]
    by_cases c1 : tb z i = true
    · rw [if_pos c1] at q
      rw [i_t (by rw [bit_1 z (by omega)]; exact c1), b_rd (g_R h 15 (by decide) (by decide)), b_rd (g_we h (by omega))]
      exact q
    · rw [if_neg c1, Int32.add_zero] at q
      rw [i_f (by rw [bit_1 z (by omega)]; exact c1)]
      exact q
theorem r_weighs {w : Wd} {a : Nat} {L : Lay} {W : Wt} (h : WA w a L W) (z : Int32) : (DX12_weighs a z).1 w = some (sWt W z, w) := by
  have q := r_weighsL h z 8 0 FU (by omega) (by show _ < 10000; omega)
  exact q
theorem g_or {w : Wd} {a : Nat} {L : Lay} {W : Wt} (h : WA w a L W) (hT : OkT W) {i : Nat} (hi : i < nt (W 87)) : aald (L.1 18) (nI i) w = some (L.2.2.2.1 i) :=
  aa_k (WA_s h).2.2.2.2.2 i hi (by have := (OkT_on hT).2; omega) ((WA_o h) i hi).1
theorem r_restsL {w : Wd} {a : Nat} {L : Lay} {W : Wt} (h : WA w a L W) (hT : OkT W) (c : Int32) : ∀ (n F : Nat), n ≤ nt (W 87) → n < F → (DX12_rests_L8 F a c (nI n - 1)).1 w = some (fo n (fun i s => if W (222 + 3 * i) = W 0 ∧ W (222 + 3 * i + 2) = c then (if W (222 + 3 * i + 1) = 11 then 1 else 0) else s) 0, w) := by
  intro n
  induction n with
  | zero =>
    intro F hn hF
    obtain ⟨F, rfl⟩ : ∃ F', F = F' + 1 := ⟨F - 1, by omega⟩
    show (DX12_rests_b8 _ _ _ _).1 w = _
    unfold DX12_rests_b8
    rw [i_t (by decide), u_rt]
    rfl
  | succ n ih =>
    intro F hn hF
    obtain ⟨F, rfl⟩ : ∃ F', F = F' + 1 := ⟨F - 1, by omega⟩
    show (DX12_rests_b8 _ _ _ _).1 w = _
    unfold DX12_rests_b8
    have h16 := (OkT_on hT).2
    have e : nI (n + 1) - 1 = nI n := by rw [nI_succ, Int32.add_sub_cancel]
    obtain ⟨q1, q2, q3, q4, q5⟩ := (WA_o h) n (by omega)
    have hr := g_or h hT (i := n) (by omega)
    have k0 : iald (L.2.2.2.1 n) 0 w = some (W (222 + 3 * n)) := by rw [ia_k q2 0 0 (by decide) (by decide) (by decide), q3]
    have k1 : iald (L.2.2.2.1 n) 1 w = some (if W (222 + 3 * n + 1) = 11 then 1 else 0) := by rw [ia_k q2 1 1 (by decide) (by decide) (by decide), q4]
    have k2 : iald (L.2.2.2.1 n) 2 w = some (W (222 + 3 * n + 2)) := by rw [ia_k q2 2 2 (by decide) (by decide) (by decide), q5]
    have q := ih F (by omega) (by omega)
    rw [e, i_f (by rw [show (0 : Int32) = nI 0 by decide, nn_lt (by omega) (by decide)]; omega), b_rd (g_R h 18 (by decide) (by decide)), b_rd hr, b_rd k0, b_rd (g_1 h), fo_s]
    have e2 : nI n + (-1) = nI n - 1 := by rw [Int32.sub_eq_add_neg]
    by_cases c1 : W (222 + 3 * n) = W 0
    · rw [i_t c1, b_rd (g_R h 18 (by decide) (by decide)), b_rd hr, b_rd k2]
      by_cases c2 : W (222 + 3 * n + 2) = c
      · rw [i_t c2, b_rd (g_R h 18 (by decide) (by decide)), b_rd hr, b_rd k1]
        rw [if_pos (show W (222 + 3 * n) = W 0 ∧ W (222 + 3 * n + 2) = c from ⟨c1, c2⟩)]
        by_cases c3 : W (222 + 3 * n + 1) = 11
        · rw [i_t (by rw [if_pos c3]), u_rt, if_pos c3]
        · rw [i_f (by rw [if_neg c3]; decide), u_rt, if_neg c3]
      · rw [i_f c2, if_neg (fun z => c2 z.2)]
        unfold DX12_rests_b57
        rw [e2]
        exact q
    · rw [i_f c1, if_neg (fun z => c1 z.1)]
      unfold DX12_rests_b57
      rw [e2]
      exact q
theorem r_rests {w : Wd} {a : Nat} {L : Lay} {W : Wt} (h : WA w a L W) (hT : OkT W) (c : Int32) : (DX12_rests a c).1 w = some (sRest W c, w) := by
  unfold DX12_rests
  have e : alen (L.1 18) w = some (nI (nt (W 87))) := by
    unfold alen
    rw [(WA_s h).2.2.2.2.2]
    rfl
  have h16 := (OkT_on hT).2
  rw [b_rd (g_R h 18 (by decide) (by decide)), b_rd e, r_restsL h hT c _ FU (Nat.le_refl _) (by show _ < 10000; omega)]
  rfl
theorem r_standsL {w : Wd} {a : Nat} {L : Lay} {W : Wt} (h : WA w a L W) (hT : OkT W) (c x : Int32) : ∀ (k i F : Nat), i + k = nmen W → k < F → (∀ m, m < i → ¬ (W (90 + m) = c ∧ W (40 + m) = 1 ∧ W (52 + m) = x)) → (DX12_stands_L2 F a c x (nI i)).1 w = some (if sHeld W c x = true then 1 else 0, w) := by
  intro k
  induction k with
  | zero =>
    intro i F hi hF hno
    obtain ⟨F, rfl⟩ : ∃ F', F = F' + 1 := ⟨F - 1, by omega⟩
    show (DX12_stands_b2 _ _ _ _ _).1 w = _
    unfold DX12_stands_b2
    rw [b_rd (g_6 h), i_t (by rw [le_n hT (by omega)]; omega), u_rt, if_neg]
    rw [sHeld_iff]
    rintro ⟨m, hm, q⟩
    exact hno m (by omega) q
  | succ k ih =>
    intro i F hi hF hno
    obtain ⟨F, rfl⟩ : ∃ F', F = F' + 1 := ⟨F - 1, by omega⟩
    show (DX12_stands_b2 _ _ _ _ _).1 w = _
    unfold DX12_stands_b2
    have q := fun hq => ih (i + 1) F (by omega) (by omega) hq
    rw [nI_succ] at q
    rw [b_rd (g_6 h), i_f (by rw [le_n hT (by omega)]; omega), b_rd (g_C h), b_ok (r_is h hT (by omega) c 1)]
    by_cases c1 : W (90 + i) = c ∧ W (40 + i) = 1
    · rw [if_pos c1, i_f (by decide), b_rd (g_R h 16 (by decide) (by decide)), b_rd (g_man h hT (by omega)), b_rd (g_m7 h (by omega) c1.2)]
      by_cases c2 : W (52 + i) = x
      · rw [i_t c2, u_rt, if_pos]
        rw [sHeld_iff]
        exact ⟨i, by omega, c1.1, c1.2, c2⟩
      · rw [i_f c2]
        refine q (fun m hm z => ?_)
        rcases (by omega : m < i ∨ m = i) with h1 | rfl
        · exact hno m h1 z
        · exact c2 z.2.2
    · rw [if_neg c1, i_t rfl]
      refine q (fun m hm z => ?_)
      rcases (by omega : m < i ∨ m = i) with h1 | rfl
      · exact hno m h1 z
      · exact c1 ⟨z.1, z.2.1⟩
theorem r_stands {w : Wd} {a : Nat} {L : Lay} {W : Wt} (h : WA w a L W) (hT : OkT W) (c x : Int32) : (DX12_stands a c x).1 w = some (if sHeld W c x = true then 1 else 0, w) := by
  have q := r_standsL h hT c x (nmen W) 0 FU (by omega) (by have := (OkT_n hT).2; show _ < 10000; omega) (fun m hm => by omega)
  exact q
