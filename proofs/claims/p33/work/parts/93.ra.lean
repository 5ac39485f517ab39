/-! setting, in the law and in the system -/
theorem hl_inv {R : Wt} {h : Int32} (h16 : ∀ c, c < 16 → R (126 + c) = if tb h c = true then 1 else 0) : ∀ i, 16 ≤ i → i < 32 → tb (sHills R) i = false := by
  have key : ∀ c, c < 16 → ∀ i, 16 ≤ i → i < 32 → (tb ((if tb h c = true then (1 : Int32) else 0) <<< (nI c &&& 31)) i = false) := fun c hc i h1 hi => by
    rw [show nI c &&& 31 = nI c by have key : ∀ f, f < 16 → (nI f &&& 31 : Int32) = nI f := by decide
                                   exact key c hc]
    cases e : tb h c with
    | true => rw [if_pos rfl, tb_1s (by omega) hi, decide_eq_false (by omega)]
    | false =>
      rw [if_neg (by decide)]
      have k0 : ∀ c, c < 16 → (0 : Int32) <<< nI c = 0 := by decide
      rw [k0 c hc, tb_0]
  have inv : ∀ n, n ≤ 16 → ∀ i, 16 ≤ i → i < 32 → tb (fo n (fun c s => s ||| (R (126 + c) <<< (nI c &&& 31))) 0) i = false := by
    intro n
    induction n with
    | zero =>
      intro _ i _ _
      rw [fo_0, tb_0]
    | succ n ih =>
      intro hn i h1 hi
      rw [fo_s, tb_or, ih (by omega) i h1 hi, h16 n (by omega), key n (by omega) i h1 hi]
      rfl
  exact fun i h1 h2 => inv 16 (Nat.le_refl _) i h1 h2
theorem hl_16 {R : Wt} (hT : OkT R) (c : Nat) (hc : c < 16) : R (126 + c) = if tb (sHills R) c = true then 1 else 0 := by
  have q := hills_tb hT hc
  rcases OkT_hi hT c hc with z | z
  · rw [if_neg (by rw [q, z]; decide), z]
  · rw [if_pos (by rw [q]; exact z), z]
theorem hl_set {W : Wt} (hT : OkT W) {c v : Nat} (hc : c < 16) (hv : v ≤ 1) : sHills (upd W (126 + c) (nI v)) = ((sHills W &&& (((1 : Int32) <<< (nI c &&& 31)) ^^^ (-1))) ||| (nI v <<< (nI c &&& 31))) := by
  have ec : nI c &&& 31 = nI c := by
    have key : ∀ f, f < 16 → (nI f &&& 31 : Int32) = nI f := by decide
    exact key c hc
  rw [ec]
  have kv : ∀ i, i < 32 → tb (nI v <<< nI c) i = (decide (i = c) && decide (v = 1)) := fun i hi => by
    rcases (by omega : v = 0 ∨ v = 1) with rfl | rfl
    · have k0 : ∀ c, c < 16 → nI 0 <<< nI c = 0 := by decide
      rw [k0 c hc, tb_0]
      cases decide (i = c) <;> rfl
    · show tb ((1 : Int32) <<< nI c) i = _
      rw [tb_1s (by omega) hi]
      cases decide (i = c) <;> rfl
  refine sHills_b (fun i hi => ?_) (fun k h1 h2 => ?_)
  · rw [tb_or, tb_and, tb_xor, tb_1s (by omega) (by omega), tb_m1 (by omega), kv i (by omega)]
    by_cases z : i = c
    · subst z
      rw [up_eq, decide_eq_true rfl]
      rcases (by omega : v = 0 ∨ v = 1) with rfl | rfl
      · simp
        rfl
      · simp
        rfl
    · rw [up_ne (by omega), decide_eq_false z, hl_16 hT i hi]
      cases tb (sHills W) i <;> rfl
  · rw [tb_or, tb_and, hl_inv (hl_16 hT) k h1 h2, kv k h2, decide_eq_false (by omega)]
    rfl
/-- the most that may be set -/
def mstV : Wt := upd (upd (upd (upd (upd (upd (upd (upd (fun _ => 0) 0 99) 1 9) 2 99) 3 9) 4 1) 5 99) 6 999) 7 (-1)
theorem can_no {W : Wt} {what who v : Nat} (h : what < 8) (hv : v < 10000) (hm : mstV what < nI v) : ¬ cSet W what who v := by
  intro hc
  unfold cSet at hc
  rcases hc with ⟨rfl, z⟩ | ⟨rfl, z⟩ | ⟨rfl, z⟩ | ⟨rfl, -, z⟩ | ⟨rfl, -, z⟩ | ⟨rfl, -, z⟩ | ⟨rfl, -, z⟩
  · have e : mstV 0 = nI 99 := by decide
    rw [e, nn_lt (by omega) (by omega)] at hm
    omega
  · have e : mstV 1 = nI 9 := by decide
    rw [e, nn_lt (by omega) (by omega)] at hm
    omega
  · have e : mstV 2 = nI 99 := by decide
    rw [e, nn_lt (by omega) (by omega)] at hm
    omega
  · have e : mstV 3 = nI 9 := by decide
    rw [e, nn_lt (by omega) (by omega)] at hm
    omega
  · have e : mstV 4 = nI 1 := by decide
    rw [e, nn_lt (by omega) (by omega)] at hm
    omega
  · have e : mstV 5 = nI 99 := by decide
    rw [e, nn_lt (by omega) (by omega)] at hm
    omega
  · have e : mstV 6 = nI 999 := by decide
    rw [e, nn_lt (by omega) (by omega)] at hm
    omega
theorem can_le {what v : Nat} (h : what < 8) (hv : v < 10000) (hm : ¬ mstV what < nI v) : what ≠ 7 ∧ (what = 0 → v ≤ 99) ∧ (what = 1 → v ≤ 9) ∧ (what = 2 → v ≤ 99) ∧ (what = 3 → v ≤ 9) ∧ (what = 4 → v ≤ 1) ∧ (what = 5 → v ≤ 99) ∧ (what = 6 → v ≤ 999) := by
  have key : ∀ m, m < 10000 → mstV what = nI m → v ≤ m := fun m hm' e => by
    rw [e, nn_lt (by omega) (by omega)] at hm
    omega
  refine ⟨fun z => ?_, fun z => ?_, fun z => ?_, fun z => ?_, fun z => ?_, fun z => ?_, fun z => ?_, fun z => ?_⟩ <;> subst z
  · have e : mstV 7 = -1 := by decide
    rw [e] at hm
    refine hm ?_
    have e2 : (-1 : Int32) < nI 0 := by decide
    have e3 : nI 0 ≤ nI v := by rw [nn_le (by omega) (by omega)]; omega
    exact Int32.lt_of_lt_of_le e2 e3
  · exact key 99 (by omega) (by decide)
  · exact key 9 (by omega) (by decide)
  · exact key 99 (by omega) (by decide)
  · exact key 9 (by omega) (by decide)
  · exact key 1 (by omega) (by decide)
  · exact key 99 (by omega) (by decide)
  · exact key 999 (by omega) (by decide)
/-- the War is set as the row is -/
theorem Wv_set {w : Wd} {a l3 SL : Nat} {L : Lay} {W : Wt} (xs : Nat → Int32) (K : Nat → Nat → Int32 → Int32 → Dm Int32) (l5 : Int32) (l10 : Nat) (h : Wv w a L W) (hA : ArW w l3 []) {what who v : Nat} (hw : who < 100) (hv : v < 10000) (ok : cSet W what who v) (hW' : WO (upd W (plc what who) (nI v))) : ∃ w', (if nI what = 0 then (dbind (dput (pfI a 12 3 (nI v))) fun _ => DL_law_b916 SL xs K a l3 l5 l10 0 (nI what) (nI who) (nI v)) else (DL_law_b916 SL xs K a l3 l5 l10 0 (nI what) (nI who) (nI v))).1 w = (DL_law_b1082 SL xs K a l3 0 l5 l10 0).1 w' ∧ Wv w' a L (upd W (plc what who) (nI v)) ∧ ArW w' l3 [] ∧ (∀ g, Lw w g → Lw w' g) ∧ w'.1 = w.1 := by
  obtain ⟨hA0, ho, hW, hb⟩ := id h
  have hT := hW.1
  obtain ⟨hn, h12⟩ := OkT_n hT
  have lw := OKs_len ho
  have ha : 146 ≤ a := hb a RS_a
  have Ka : Kn w a (.inr (.inl 12)) (w.2.1 a) (w.2.2 a) := ⟨(WA_r hA0).1, rfl, rfl⟩
  have s13 := (WA_s hA0).1
  obtain ⟨i0, i1, i2, i3, i4, i5, i6, i7, i8, i9, i10, i11⟩ := WA_i hA0
  have nal : a ≠ l3 := ne_sh Ka.1 hA.1 (by simp)
  -- a number of the War's own
  have num : ∀ (j : Nat) (R : Wt) (y : Int32), R = upd W (plc what who) (nI v) → (j = 3 ∨ j = 4 ∨ j = 5 ∨ j = 8) → (∀ z, ¬ (79 ≤ z ∧ z ≤ 83) → ¬ (126 ≤ z ∧ z < 142) → R z = W z) → (upd (w.2.2 a) j y 3 = R 79 ∧ upd (w.2.2 a) j y 4 = R 80 ∧ upd (w.2.2 a) j y 5 = R 81 ∧ upd (w.2.2 a) j y 8 = sHills R) → (∀ c, c < 2 → R (82 + c) = W (82 + c)) → Wv (wr w a (upd (w.2.2 a) j y)) a L (upd W (plc what who) (nI v)) ∧ ArW (wr w a (upd (w.2.2 a) j y)) l3 [] ∧ (∀ g, Lw w g → Lw (wr w a (upd (w.2.2 a) j y)) g) ∧ (wr w a (upd (w.2.2 a) j y)).1 = w.1 := by
    intro j R y eR hj lo hP hQ
    have k := Kp_wr w a (upd (w.2.2 a) j y)
    have hoz := Kp_OKs k ho (fun c hc => Or.inl (by show ¬ c = a; omega))
    have n13 : L.1 13 ≠ a := ne_sh s13 Ka.1 (by simp)
    refine ⟨?_, AR_kp hA k (fun z => nal z.symm), fun g hl => Lw_kp hl k (fun c hc => by show ¬ c = a; omega), rfl⟩
    rw [← eR]
    rw [← eR] at hW'
    refine WA_set h hoz hW' (Kp_mono k (fun c _ z => Or.inr (Or.inl z))) (Kn_wr Ka _) ⟨s13, (ms_ne n13 : (wr w a (upd (w.2.2 a) j y)).2.2 (L.1 13) = w.2.2 (L.1 13))⟩ lo ⟨hP.1, hP.2.1, hP.2.2.1, hP.2.2.2, fun i h1 h2 h3 h4 => up_ne (by omega)⟩ (fun c hc => by rw [hQ c hc]; exact (WA_v hA0).1 c hc)
  -- a number of a man's
  have man : ∀ (m : Nat) (w' : Wd), m < nmen W → Go w a L W w' L (upd W (plc what who) (nI v)) → w'.1 = w.1 → Wv w' a L (upd W (plc what who) (nI v)) ∧ ArW w' l3 [] ∧ (∀ g, Lw w g → Lw w' g) ∧ w'.1 = w.1 := fun m w' hm hg e => ⟨hg.1, AR_kp hA hg.2.1 (fun z => RS_l3 hA0 hA.1 (MW_RS z) rfl), fun g hl => Lw_kp hl hg.2.1 (fun c hc z => by have := hb c (MW_RS z); omega), e⟩
  unfold cSet at ok
  rcases ok with ⟨rfl, z⟩ | ⟨rfl, z⟩ | ⟨rfl, z⟩ | ⟨rfl, z0, z⟩ | ⟨rfl, z0, z⟩ | ⟨rfl, z0, z⟩ | ⟨rfl, z0, z⟩
  · have q := num 3 _ (nI v) rfl (by omega) (fun z h1 h2 => up_ne (by show z ≠ 79; omega)) ⟨by rw [up_eq]; exact (up_eq _ _ _).symm, by rw [up_ne (by decide), i4]; exact (up_ne (show 80 ≠ plc 0 who from (by decide : (80 : Nat) ≠ 79))).symm, by rw [up_ne (by decide), i5]; exact (up_ne (show 81 ≠ plc 0 who from (by decide : (81 : Nat) ≠ 79))).symm, by rw [up_ne (by decide), i8]; exact (fo_n rfl (fun i s hi => by rw [show upd W (plc 0 who) (nI v) (126 + i) = W (126 + i) from up_ne (by show 126 + i ≠ 79; omega)])).symm⟩ (fun c hc => up_ne (by show 82 + c ≠ 79; omega))
    refine ⟨_, ?_, q⟩
    rw [i_t (by decide), b_fld0 Ka.1]
    unfold DL_law_b916
    rw [i_f (by decide)]
    unfold DL_law_b928
    rw [i_f (by decide)]
    unfold DL_law_b940
    rw [i_f (by decide)]
    unfold DL_law_b955
    rw [i_f (by decide)]
    unfold DL_law_b982
    rw [i_t (by decide)]
    rfl
  · have q := num 4 _ (nI v) rfl (by omega) (fun z h1 h2 => up_ne (by show z ≠ 80; omega)) ⟨by rw [up_ne (by decide), i3]; exact (up_ne (show 79 ≠ plc 1 who from (by decide : (79 : Nat) ≠ 80))).symm, by rw [up_eq]; exact (up_eq _ _ _).symm, by rw [up_ne (by decide), i5]; exact (up_ne (show 81 ≠ plc 1 who from (by decide : (81 : Nat) ≠ 80))).symm, by rw [up_ne (by decide), i8]; exact (fo_n rfl (fun i s hi => by rw [show upd W (plc 1 who) (nI v) (126 + i) = W (126 + i) from up_ne (by show 126 + i ≠ 80; omega)])).symm⟩ (fun c hc => up_ne (by show 82 + c ≠ 80; omega))
    refine ⟨_, ?_, q⟩
    rw [i_f (by decide)]
    unfold DL_law_b916
    rw [i_t (by decide), b_fld0 Ka.1]
    unfold DL_law_b928
    rw [i_f (by decide)]
    unfold DL_law_b940
    rw [i_f (by decide)]
    unfold DL_law_b955
    rw [i_f (by decide)]
    unfold DL_law_b982
    rw [i_t (by decide)]
    rfl
  · have q := num 5 _ (nI v) rfl (by omega) (fun z h1 h2 => up_ne (by show z ≠ 81; omega)) ⟨by rw [up_ne (by decide), i3]; exact (up_ne (show 79 ≠ plc 2 who from (by decide : (79 : Nat) ≠ 81))).symm, by rw [up_ne (by decide), i4]; exact (up_ne (show 80 ≠ plc 2 who from (by decide : (80 : Nat) ≠ 81))).symm, by rw [up_eq]; exact (up_eq _ _ _).symm, by rw [up_ne (by decide), i8]; exact (fo_n rfl (fun i s hi => by rw [show upd W (plc 2 who) (nI v) (126 + i) = W (126 + i) from up_ne (by show 126 + i ≠ 81; omega)])).symm⟩ (fun c hc => up_ne (by show 82 + c ≠ 81; omega))
    refine ⟨_, ?_, q⟩
    rw [i_f (by decide)]
    unfold DL_law_b916
    rw [i_f (by decide)]
    unfold DL_law_b928
    rw [i_t (by decide), b_fld0 Ka.1]
    unfold DL_law_b940
    rw [i_f (by decide)]
    unfold DL_law_b955
    rw [i_f (by decide)]
    unfold DL_law_b982
    rw [i_t (by decide)]
    rfl
  · have k := Kp_wr w (L.1 13) (upd (w.2.2 (L.1 13)) who (nI v))
    have b13 : 146 ≤ L.1 13 := hb _ (RS_j (by omega) (by omega))
    have hoz := Kp_OKs k ho (fun c hc => Or.inl (by show ¬ c = L.1 13; omega))
    have n13 : a ≠ L.1 13 := ne_sh Ka.1 s13 (by simp)
    have eP : plc 3 who = 82 + who := rfl
    have n13l : l3 ≠ L.1 13 := ne_sh hA.1 s13 (by simp)
    refine ⟨wr w (L.1 13) (upd (w.2.2 (L.1 13)) who (nI v)), ?_, ?_, AR_kp hA k n13l, fun g hl => Lw_kp hl k (fun c hc => by show ¬ c = L.1 13; omega), rfl⟩
    · rw [i_f (by decide)]
      unfold DL_law_b916
      rw [i_f (by decide)]
      unfold DL_law_b928
      rw [i_f (by decide)]
      unfold DL_law_b940
      rw [i_t (by decide), b_rd (g_R hA0 13 (by decide) (by decide)), b_row0 s13 who (nI who) _ rfl z0 (by decide)]
      unfold DL_law_b955
      rw [i_f (by decide)]
      unfold DL_law_b982
      rw [i_t (by decide)]
      rfl
    · refine WA_set h hoz hW' (Kp_mono k (fun c _ z => Or.inr (Or.inr z))) (Kn_kp Ka k n13) ⟨s13, (ms_eq _ _ _ : (wr w (L.1 13) (upd (w.2.2 (L.1 13)) who (nI v))).2.2 (L.1 13) = upd (w.2.2 (L.1 13)) who (nI v))⟩ (fun z h1 h2 => up_ne (by rw [eP]; omega)) ⟨by rw [eP, up_ne (by omega)]; exact i3, by rw [eP, up_ne (by omega)]; exact i4, by rw [eP, up_ne (by omega)]; exact i5, by rw [i8]; exact (fo_n rfl (fun i s hi => by rw [show upd W (plc 3 who) (nI v) (126 + i) = W (126 + i) from up_ne (by show 126 + i ≠ 82 + who; omega)])).symm, fun j _ _ _ _ => rfl⟩ (fun c hc => ?_)
      rw [eP]
      by_cases c1 : c = who
      · rw [c1, up_eq, up_eq]
      · rw [up_ne c1, up_ne (by omega)]
        exact (WA_v hA0).1 c hc
  · have eP : plc 4 who = 126 + who := rfl
    have q := num 8 _ ((sHills W &&& (((1 : Int32) <<< (nI who &&& 31)) ^^^ (-1))) ||| (nI v <<< (nI who &&& 31))) rfl (by omega) (fun z h1 h2 => up_ne (by rw [eP]; omega)) ⟨by rw [up_ne (by decide), i3]; exact (up_ne (by rw [eP]; omega)).symm, by rw [up_ne (by decide), i4]; exact (up_ne (by rw [eP]; omega)).symm, by rw [up_ne (by decide), i5]; exact (up_ne (by rw [eP]; omega)).symm, by rw [up_eq, eP]; exact (hl_set hT z0 z).symm⟩ (fun c hc => up_ne (by rw [eP]; omega))
    refine ⟨_, ?_, q⟩
    rw [i_f (by decide)]
    unfold DL_law_b916
    rw [i_f (by decide)]
    unfold DL_law_b928
    rw [i_f (by decide)]
    unfold DL_law_b940
    rw [i_f (by decide)]
    unfold DL_law_b955
    rw [i_t (by decide), b_rd (g_8 hA0), b_fld0 Ka.1]
    unfold DL_law_b982
    rw [i_t (by decide)]
    rfl
  · have hg := Go_br h (m := who) (x := nI v) z0 hW'
    refine ⟨_, ?_, man who _ z0 hg rfl⟩
    rw [i_f (by decide)]
    unfold DL_law_b916
    rw [i_f (by decide)]
    unfold DL_law_b928
    rw [i_f (by decide)]
    unfold DL_law_b940
    rw [i_f (by decide)]
    unfold DL_law_b955
    rw [i_f (by decide)]
    unfold DL_law_b982
    rw [i_f (by decide), b_rd (g_R hA0 16 (by decide) (by decide)), b_rd (g_man hA0 hT z0), i_t (by decide)]
    unfold DL_law_b1006
    rw [b_row0 (row_of hA0 z0) 3 3 _ (by decide) (by decide) (by decide)]
    rfl
  · have hg := Go_cn h (m := who) (x := nI v) z0 hW'
    refine ⟨_, ?_, man who _ z0 hg rfl⟩
    rw [i_f (by decide)]
    unfold DL_law_b916
    rw [i_f (by decide)]
    unfold DL_law_b928
    rw [i_f (by decide)]
    unfold DL_law_b940
    rw [i_f (by decide)]
    unfold DL_law_b955
    rw [i_f (by decide)]
    unfold DL_law_b982
    rw [i_f (by decide), b_rd (g_R hA0 16 (by decide) (by decide)), b_rd (g_man hA0 hT z0), i_f (by decide)]
    unfold DL_law_b1006
    rw [b_row0 (row_of hA0 z0) 5 5 _ (by decide) (by decide) (by decide)]
    rfl
