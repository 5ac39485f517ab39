/-! a man is told -/
theorem TI_cl {w0 w w1 : Wd} {a : Nat} {g g' : Mem} {ρ : Nat → Option Nat} {P : Wt} (h : TI w0 w a g ρ P) (hl : Lw w1 g') (k : Kp CL w w1) : TI w0 w1 a g' ρ P := by
  obtain ⟨h1, h2, h3, h4, h5⟩ := h
  exact ⟨Kp_tr h1 k (fun c _ z => Or.inl z), Kn_kp h2 k (by show ¬ a < 146; omega), hl, h4, h5⟩
theorem upd_upd (W : Wt) (k : Nat) (x y : Int32) : upd (upd W k x) k y = upd W k y := by
  funext i
  by_cases c : i = k
  · rw [c, up_eq, up_eq]
  · rw [up_ne c, up_ne c, up_ne c]
theorem and8 (x : Int32) : ∃ j, j < 256 ∧ (x &&& 255) = nI j := by
  refine ⟨x.toBitVec.toNat % 256, Nat.mod_lt _ (by decide), ?_⟩
  apply tb_ext
  intro k hk
  rw [tb_and, tb_big, show (256 : Nat) = 2 ^ 8 by decide, Nat.testBit_mod_two_pow, tb_255 k hk, decide_eq_true hk]
  show (x.toBitVec.getLsbD k && decide (k < 8)) = (true && (decide (k < 8) && x.toBitVec.toNat.testBit k))
  rw [Bool.true_and, Bool.and_comm]
  rfl
theorem GS_ok {w : Wd} {g : Mem} {W : Wt} {S : List Wt} (hl : Lw w g) (h : GS g W S) : WO W := by
  have q := SP_a hl.2
  rw [h.1] at q
  exact q
theorem tch_loop {w0 : Wd} {a q k : Nat} {ρ : Nat → Option Nat} {P Q Wm : Wt} {SL : Nat} (xs : Nat → Int32) (k281 : Int32 → Nat → Int32 → Int32 → Int32 → Dm (Option Nat)) (y0 l7 : Int32) {z : Int32} (hz : ∃ j, j < 256 ∧ z = nI j) (hQ : Q 4 = z) (hm : nmen Wm = k + 1) (hk : k < 12) (hq : 146 ≤ q) : ∀ (d f F : Nat) (w : Wd) (g : Mem) (S : List Wt) (y : Int32), f + d = 8 → d < F → TI w0 w a g ρ P → Kn w q (.inl 9) (fun _ => none) Q → GS g (upd Wm (16 + k) y) S → (∀ i, i < 32 → tb y i = (tb z i && decide (i < f))) → ∃ w' g' S' F', (DL_war_L467 SL xs k281 F 0 a y0 l7 (nI k) q (nI f)).1 w = (DL_war_b467 SL xs k281 (DL_war_L467 SL xs k281 F') 0 a y0 l7 (nI k) q (nI 8)).1 w' ∧ TI w0 w' a g' ρ P ∧ Kn w' q (.inl 9) (fun _ => none) Q ∧ GS g' (upd Wm (16 + k) z) S' ∧ w'.1 = w.1 ∧ Kp CL w w' := by
  intro d
  induction d with
  | zero =>
    intro f F w g S y hf hF hI hK hG hy
    obtain ⟨F, rfl⟩ : ∃ F', F = F' + 1 := ⟨F - 1, by omega⟩
    have e : f = 8 := by omega
    subst e
    have ey : y = z := tb_ext (fun i hi => by
      rw [hy i hi]
      obtain ⟨j, hj, rfl⟩ := hz
      by_cases c : i < 8
      · rw [decide_eq_true c, Bool.and_true]
      · rw [decide_eq_false c, Bool.and_false, tb_big, Nat.testBit_lt_two_pow (Nat.lt_of_lt_of_le (show j < 2 ^ 8 by omega) (Nat.pow_le_pow_right (by omega) (by omega))), Bool.and_false])
    rw [ey] at hG
    exact ⟨w, g, S, F, rfl, hI, hK, hG, rfl, Kp_rf _ _⟩
  | succ d ih =>
    intro f F w g S y hf hF hI hK hG hy
    obtain ⟨F, rfl⟩ : ∃ F', F = F' + 1 := ⟨F - 1, by omega⟩
    have hT := (GS_ok hI.2.2.1 hG).1
    have hn : nmen (upd Wm (16 + k) y) = k + 1 := by
      unfold nmen
      rw [up_ne (by omega)]
      exact hm
    have r4 : iald q 4 w = some z := by rw [g_ki hK 4 4 (by decide) (by decide) (by decide), hQ]
    show ∃ w' g' S' F', (DL_war_b467 SL xs k281 (DL_war_L467 SL xs k281 F) 0 a y0 l7 (nI k) q (nI f)).1 w = _ ∧ _
    unfold DL_war_b467
    rw [i_f (by rw [show (8 : Int32) = nI 8 by decide, nn_le (by decide) (by omega)]; omega), b_rd r4]
    by_cases c : tb z f = true
    · have hno : ¬ tb (upd Wm (16 + k) y (16 + k)) f = true := by
        rw [up_eq, hy f (by omega), decide_eq_false (by omega), Bool.and_false]
        decide
      obtain ⟨g1, e1, G1⟩ := ge_teach hG hT (m := k) (i := f) (by rw [hn]; omega) (by omega) hno
      rw [up_eq, upd_upd] at G1
      obtain ⟨w1, a1, a2, a3, a4, a5⟩ := b_cl (A_teach _ _) (fun {u v u'} h => frX11_teach_0 _ _ u h) (fun c hc => by simp; omega) hI.2.2.1 e1
      have hK1 := Kn_kp hK a4 (by show ¬ q < 146; omega)
      have hy1 : ∀ i, i < 32 → tb (y ||| ((1 : Int32) <<< (nI f &&& 31))) i = (tb z i && decide (i < f + 1)) := fun i hi => by
        rw [show nI f &&& 31 = nI f by have key : ∀ f, f < 8 → (nI f &&& 31 : Int32) = nI f := by decide
                                       exact key f (by omega), tb_or, tb_1s (by omega) hi, hy i hi]
        by_cases c1 : i = f
        · subst c1
          rw [decide_eq_true rfl, decide_eq_false (by omega), decide_eq_true (by omega), c]
          rfl
        · rw [decide_eq_false c1, Bool.or_false]
          congr 1
          exact decide_eq_decide.mpr (by omega)
      obtain ⟨w', g', S', F', q1, q2, q3, q4, q5, q6⟩ := ih (f + 1) F w1 g1 _ _ (by omega) (by omega) (TI_cl hI a1 a4) hK1 G1 hy1
      refine ⟨w', g', S', F', ?_, q2, q3, q4, q5.trans a2, K_tr a4 q6⟩
      rw [i_t (by rw [bit_1 z (by omega)]; exact c)]
      refine (a5 _ _).trans ?_
      rw [i_f (by decide)]
      unfold DL_war_b500
      rw [← nI_succ]
      exact q1
    · have hy1 : ∀ i, i < 32 → tb y i = (tb z i && decide (i < f + 1)) := fun i hi => by
        rw [hy i hi]
        by_cases c1 : i = f
        · subst c1
          have c2 : tb z i = false := by
            cases e : tb z i
            · rfl
            · exact absurd e c
          rw [c2, Bool.false_and, Bool.false_and]
        · congr 1
          exact decide_eq_decide.mpr (by omega)
      obtain ⟨w', g', S', F', q1, q2⟩ := ih (f + 1) F w g _ _ (by omega) (by omega) hI hK hG hy1
      refine ⟨w', g', S', F', ?_, q2⟩
      rw [i_f (by rw [bit_1 z (by omega)]; exact c)]
      unfold DL_war_b500
      rw [← nI_succ]
      exact q1
/-- a man's row -/
def mQ (V : Int32) : Wt := upd (upd (upd (upd (upd (upd (upd (upd (upd (fun _ => 0) 0 ((V >>> ((3 : Int32) &&& 31)) &&& 1)) 1 (nI (btN (V >>> ((4 : Int32) &&& 31)) 0 120))) 2 (nI (btN (V >>> ((6 : Int32) &&& 31)) 1 9))) 3 (nI (btN (V >>> ((5 : Int32) &&& 31)) 0 99))) 4 ((V >>> ((2 : Int32) &&& 31)) &&& 255)) 5 (nI (btN (V >>> ((7 : Int32) &&& 31)) 0 300))) 6 0) 7 0) 8 0
/-- the row with a man more -/
def mW (W : Wt) (k : Nat) (V : Int32) : Wt := upd (upd (upd (mkW W k ((V >>> ((3 : Int32) &&& 31)) &&& 1) (nI (btN (V >>> ((4 : Int32) &&& 31)) 0 120)) (nI (btN (V >>> ((6 : Int32) &&& 31)) 1 9))) (16 + k) ((V >>> ((2 : Int32) &&& 31)) &&& 255)) (4 + k) (nI (btN (V >>> ((5 : Int32) &&& 31)) 0 99))) (28 + k) (nI (btN (V >>> ((7 : Int32) &&& 31)) 0 300))
theorem mW_78 (W : Wt) {k : Nat} (hk : k < 12) (V : Int32) : mW W k V 78 = nI (k + 1) := by
  unfold mW
  rw [up_ne (by omega), up_ne (by omega), up_ne (by omega), mkW_at, if_pos rfl, nI_1]
theorem mW_lo (W : Wt) {k : Nat} (hk : k < 12) (V : Int32) {z : Nat} (h : z ≠ 78 ∧ z ≠ 4 + k ∧ z ≠ 16 + k ∧ z ≠ 28 + k ∧ z ≠ 40 + k ∧ z ≠ 52 + k ∧ z ≠ 64 + k ∧ z ≠ 90 + k ∧ z ≠ 102 + k ∧ z ≠ 114 + k) : mW W k V z = W z := by
  obtain ⟨h1, h2, h3, h4, h5, h6, h7, h8, h9, h10⟩ := h
  unfold mW
  rw [up_ne h4, up_ne h2, up_ne h3, mkW_at, if_neg h1, if_neg h7, if_neg h6, if_neg h5, if_neg h4, if_neg h3, if_neg h2, if_neg h10, if_neg h9, if_neg h8]
theorem mW_k (W : Wt) {k : Nat} (hk : k < 12) (V : Int32) : mQ V 0 = mW W k V (90 + k) ∧ mQ V 1 = mW W k V (102 + k) ∧ mQ V 2 = mW W k V (114 + k) ∧ mQ V 3 = mW W k V (4 + k) ∧ mQ V 4 = mW W k V (16 + k) ∧ mQ V 5 = mW W k V (28 + k) ∧ mQ V 6 = mW W k V (40 + k) ∧ mW W k V (40 + k) = 0 := by
  unfold mW
  refine ⟨?_, ?_, ?_, ?_, ?_, ?_, ?_, ?_⟩
  · rw [up_ne (by omega), up_ne (by omega), up_ne (by omega), mkW_at, if_neg (by omega), if_neg (by omega), if_neg (by omega), if_neg (by omega), if_neg (by omega), if_neg (by omega), if_neg (by omega), if_neg (by omega), if_neg (by omega), if_pos rfl]
    rfl
  · rw [up_ne (by omega), up_ne (by omega), up_ne (by omega), mkW_at, if_neg (by omega), if_neg (by omega), if_neg (by omega), if_neg (by omega), if_neg (by omega), if_neg (by omega), if_neg (by omega), if_neg (by omega), if_pos rfl]
    rfl
  · rw [up_ne (by omega), up_ne (by omega), up_ne (by omega), mkW_at, if_neg (by omega), if_neg (by omega), if_neg (by omega), if_neg (by omega), if_neg (by omega), if_neg (by omega), if_neg (by omega), if_pos rfl]
    rfl
  · rw [up_ne (by omega), up_eq]
    rfl
  · rw [up_ne (by omega), up_ne (by omega), up_eq]
    rfl
  · rw [up_eq]
    rfl
  · rw [up_ne (by omega), up_ne (by omega), up_ne (by omega), mkW_at, if_neg (by omega), if_neg (by omega), if_neg (by omega), if_pos rfl]
    rfl
  · rw [up_ne (by omega), up_ne (by omega), up_ne (by omega), mkW_at, if_neg (by omega), if_neg (by omega), if_neg (by omega), if_pos rfl]
/-- War and row, a man more -/
theorem WA_man {w w' : Wd} {a q k : Nat} {L : Lay} {W : Wt} (V : Int32) (hv : Wv w a L W) (hk : nmen W = k) (hk12 : k < 12) (h87 : nt (W 87) = 0) (ho : OKs w') (hW' : WO (mW W k V)) (K : Kp (fun c => c < 146 ∨ c = a ∨ c = L.1 16) w w') (hA' : Kn w' a (.inr (.inl 12)) (w.2.1 a) (upd (w.2.2 a) 6 (nI (k + 1)))) (h16' : Kn w' (L.1 16) (.inr (.inr (2, 12))) (oupd (w.2.1 (L.1 16)) k (some q)) (w.2.2 (L.1 16))) (hq : Kn w' q (.inl 9) (fun _ => none) (mQ V)) (hq2 : w.1.length ≤ q) : Wv w' a (L.1, (fun m => if m = k then q else L.2.1 m), L.2.2) (mW W k V) := by
  obtain ⟨hA, ho0, hW, hb⟩ := hv
  have lw0 := OKs_len ho0
  obtain ⟨s13, s14, s15, s16, s17, s18⟩ := WA_s hA
  have hlo : ∀ z, z ≠ 78 → (z < 4 ∨ (78 < z ∧ z < 90) ∨ 126 ≤ z) → mW W k V z = W z := fun z h1 h2 => mW_lo W hk12 V (by omega)
  have lo3 := hlo 3 (by omega) (by omega)
  have lo87 := hlo 87 (by omega) (by omega)
  have en : nmen (mW W k V) = k + 1 := by
    unfold nmen
    rw [mW_78 W hk12 V, nt_nI (by omega)]
  have agA : ∀ {c : Nat} {s : Shp}, RS a L W c → w.1[c]? = some s → s ≠ .inr (.inl 12) → s ≠ .inr (.inr (2, 12)) → agr w w' c := fun {c s} hc hs hd hd2 => Kp_agr K (sh_len hs) (fun z => by
    rcases z with z | z | z
    · have := hb c hc; omega
    · exact absurd z (ne_sh hs (WA_r hA).1 hd)
    · exact absurd z (ne_sh hs s16 hd2))
  have ag13 := agA (RS_j (L := L) (show 13 ≤ 13 by omega) (by omega)) s13 (by simp) (by simp)
  have ag14 := agA (RS_j (L := L) (show 13 ≤ 14 by omega) (by omega)) s14 (by simp) (by simp)
  have ag15 := agA (RS_j (L := L) (show 13 ≤ 15 by omega) (by omega)) s15 (by simp) (by simp)
  have ag17 := agA (RS_j (L := L) (show 13 ≤ 17 by omega) (by omega)) s17 (by simp) (by simp)
  have ag18 := agA (RS_j (L := L) (show 13 ≤ 18 by omega) (by omega)) s18 (by simp) (by rw [h87]; simp)
  have es : sTold (mW W k V) = sTold W := by
    funext m
    have h := (OkT_tn hW.1).2
    refine fo_n (by rw [hlo 85 (by omega) (by omega)]) (fun i z hi => ?_)
    rw [hlo _ (by omega) (by omega), hlo _ (by omega) (by omega)]
  have ew : sWt1 (mW W k V) = sWt1 W := by
    funext m
    have h := (OkT_wn hW.1).2
    refine fo_n (by rw [hlo 86 (by omega) (by omega)]) (fun i z hi => ?_)
    rw [hlo _ (by omega) (by omega), hlo _ (by omega) (by omega)]
  have eh : sHills (mW W k V) = sHills W := by
    refine fo_n rfl (fun i z hi => ?_)
    rw [hlo _ (by omega) (by omega)]
  obtain ⟨i0, i1, i2, i3, i4, i5, i6, i7, i8, i9, i10, i11⟩ := WA_i hA
  refine ⟨⟨?_, ?_, ?_, ?_, ?_, ?_, ?_, ?_⟩, ho, hW', ?_⟩
  · unfold WAi
    rw [hA'.2.2, up_ne (by decide), up_ne (by decide), up_ne (by decide), up_ne (by decide), up_ne (by decide), up_ne (by decide), up_eq, up_ne (by decide), up_ne (by decide), up_ne (by decide), up_ne (by decide), up_ne (by decide), mW_78 W hk12 V, eh, lo3, lo87, hlo 0 (by omega) (by omega), hlo 1 (by omega) (by omega), hlo 2 (by omega) (by omega), hlo 79 (by omega) (by omega), hlo 80 (by omega) (by omega), hlo 81 (by omega) (by omega), hlo 85 (by omega) (by omega)]
    exact ⟨i0, i1, i2, i3, i4, i5, rfl, i7, i8, i9, i10, i11⟩
  · exact ⟨hA'.1, fun j j1 j2 => by rw [hA'.2.1]; exact (WA_r hA).2.1 j j1 j2, by rw [hA'.2.1]; exact (WA_r hA).2.2⟩
  · show w'.1[L.1 13]? = _ ∧ w'.1[L.1 14]? = _ ∧ w'.1[L.1 15]? = _ ∧ w'.1[L.1 16]? = _ ∧ w'.1[L.1 17]? = _ ∧ w'.1[L.1 18]? = some (.inr (.inr (2, nt (mW W k V 87))))
    rw [ag13.1, ag14.1, ag15.1, h16'.1, ag17.1, ag18.1, lo87]
    exact ⟨s13, s14, s15, rfl, s17, s18⟩
  · show (∀ c, c < 2 → w'.2.2 (L.1 13) c = mW W k V (82 + c)) ∧ (∀ m, m < 12 → w'.2.2 (L.1 14) m = sTold (mW W k V) (nI m)) ∧ ∀ f, f < 8 → w'.2.2 (L.1 15) f = sWt1 (mW W k V) (nI f)
    rw [ag13.2.2, ag14.2.2, ag15.2.2, es, ew]
    exact ⟨fun c hc => by rw [hlo (82 + c) (by omega) (by omega)]; exact (WA_v hA).1 c hc, (WA_v hA).2.1, (WA_v hA).2.2⟩
  · refine ⟨fun m hm => ?_, fun m j hm hj e => ?_⟩
    · rw [en] at hm
      by_cases c : m = k
      · subst c
        obtain ⟨m0, m1, m2, m3, m4, m5, m6, m7⟩ := mW_k W hk12 V
        show w'.2.1 (L.1 16) m = some (if m = m then q else L.2.1 m) ∧ w'.1[if m = m then q else L.2.1 m]? = _ ∧ w'.2.2 (if m = m then q else L.2.1 m) 0 = _ ∧ w'.2.2 (if m = m then q else L.2.1 m) 1 = _ ∧ w'.2.2 (if m = m then q else L.2.1 m) 2 = _ ∧ w'.2.2 (if m = m then q else L.2.1 m) 3 = _ ∧ w'.2.2 (if m = m then q else L.2.1 m) 4 = _ ∧ w'.2.2 (if m = m then q else L.2.1 m) 5 = _ ∧ w'.2.2 (if m = m then q else L.2.1 m) 6 = _ ∧ (_ → w'.2.2 (if m = m then q else L.2.1 m) 7 = _) ∧ (_ → w'.2.2 (if m = m then q else L.2.1 m) 8 = _)
        rw [if_pos rfl, h16'.2.1, ou_eq, hq.2.2]
        exact ⟨rfl, hq.1, m0, m1, m2, m3, m4, m5, m6, fun z => by rw [m7] at z; exact absurd z (by decide), fun z => by rw [m7] at z; exact absurd z (by decide)⟩
      · have hmk : m < k := by omega
        have z := (WA_m hA).1 m (by omega)
        have agm := agA (RS_m (a := a) (L := L) (W := W) (m := m) (by omega)) z.2.1 (by simp) (by simp)
        show w'.2.1 (L.1 16) m = some (if m = k then q else L.2.1 m) ∧ w'.1[if m = k then q else L.2.1 m]? = _ ∧ w'.2.2 (if m = k then q else L.2.1 m) 0 = _ ∧ w'.2.2 (if m = k then q else L.2.1 m) 1 = _ ∧ w'.2.2 (if m = k then q else L.2.1 m) 2 = _ ∧ w'.2.2 (if m = k then q else L.2.1 m) 3 = _ ∧ w'.2.2 (if m = k then q else L.2.1 m) 4 = _ ∧ w'.2.2 (if m = k then q else L.2.1 m) 5 = _ ∧ w'.2.2 (if m = k then q else L.2.1 m) 6 = _ ∧ (_ → w'.2.2 (if m = k then q else L.2.1 m) 7 = _) ∧ (_ → w'.2.2 (if m = k then q else L.2.1 m) 8 = _)
        rw [if_neg c, h16'.2.1, ou_ne c, agm.1, agm.2.2, mW_lo W hk12 V (z := 90 + m) (by omega), mW_lo W hk12 V (z := 102 + m) (by omega), mW_lo W hk12 V (z := 114 + m) (by omega), mW_lo W hk12 V (z := 4 + m) (by omega), mW_lo W hk12 V (z := 16 + m) (by omega), mW_lo W hk12 V (z := 28 + m) (by omega), mW_lo W hk12 V (z := 40 + m) (by omega), mW_lo W hk12 V (z := 52 + m) (by omega), mW_lo W hk12 V (z := 64 + m) (by omega)]
        exact z
    · rw [en] at hm hj
      have e : (if m = k then q else L.2.1 m) = (if j = k then q else L.2.1 j) := e
      have lt : ∀ {m : Nat}, m < k → L.2.1 m < w.1.length := fun {m} h => sh_len ((WA_m hA).1 m (by omega)).2.1
      by_cases c1 : m = k
      · by_cases c2 : j = k
        · omega
        · rw [if_pos c1, if_neg c2] at e
          have := lt (m := j) (by omega)
          omega
      · by_cases c2 : j = k
        · rw [if_neg c1, if_pos c2] at e
          have := lt (m := m) (by omega)
          omega
        · rw [if_neg c1, if_neg c2] at e
          exact (WA_m hA).2 m j (by omega) (by omega) e
  · intro i hi
    rw [lo3] at hi
    have z := (WA_l hA) i hi
    have agl := agA (RS_l (a := a) (L := L) hi) z.2.1 (by simp) (by simp)
    show w'.2.1 (L.1 17) i = some (L.2.2.1 i) ∧ w'.1[L.2.2.1 i]? = _ ∧ ∀ k', k' < 4 → w'.2.2 (L.2.2.1 i) k' = _
    rw [ag17.2.1, agl.1, agl.2.2]
    refine ⟨z.1, z.2.1, fun k' hk' => ?_⟩
    rw [hlo (300 + 4 * i + k') (by omega) (by omega)]
    exact z.2.2 k' hk'
  · intro i hi
    rw [lo87, h87] at hi
    omega
  · have hLq : ∀ {d : Option (Nat → Int32)}, Lq d W → Lq d (mW W k V) := fun hq V' e hV wd m hwd hm => hq V' (fun j hj => by
      rw [e j hj]
      exact hlo j (by omega) (by omega)) hV wd m hwd hm
    have h8 := WA_d hA
    unfold WAd at h8 ⊢
    show (match L.2.2.2.2 with | none => _ | some q => _)
    cases eq : L.2.2.2.2 with
    | none =>
      rw [eq] at h8
      exact hLq h8
    | some q =>
      rw [eq] at h8
      have agq := agA (RS_d (a := a) (W := W) eq) h8.1 (by simp) (by simp)
      show w'.1[q]? = _ ∧ Lq (some (w'.2.2 q)) (mW W k V)
      rw [agq.1, agq.2.2]
      exact ⟨h8.1, hLq h8.2⟩
  · intro c hc
    rcases hc with rfl | ⟨j, j1, j2, rfl⟩ | ⟨m, hm, rfl⟩ | ⟨i, hi, rfl⟩ | ⟨i, hi, rfl⟩ | hq
    · exact hb _ RS_a
    · exact hb _ (RS_j j1 j2)
    · rw [en] at hm
      show 146 ≤ (if m = k then q else L.2.1 m)
      by_cases c1 : m = k
      · rw [if_pos c1]; omega
      · rw [if_neg c1]; exact hb _ (RS_m (by omega))
    · exact hb _ (RS_l (by rw [lo3] at hi; exact hi))
    · rw [lo87, h87] at hi
      omega
    · exact hb _ (RS_d hq)
