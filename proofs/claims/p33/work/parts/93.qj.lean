/-! the tellings' text: built, said, read -/
noncomputable def R47 (l1 : Nat) (l2 : Int32) : Dm Int32 := dbind (DL_between (l2 >>> ((5 : Int32) &&& 31)) 0 9) fun x7 => dbind (dnew (nwO 14)) fun x8 => dbind (dread (isC x8 14)) fun x9 => dbind (DJ4_init_da8c8 x8) fun _ => dbind (dnew (nwI 8)) fun x11 => dbind (dput (iast x11 0 1)) fun _ => dbind (dput (iast x11 1 1)) fun _ => dbind (dput (iast x11 2 1)) fun _ => dbind (dput (iast x11 3 1)) fun _ => dbind (dput (iast x11 4 1)) fun _ => dbind (dput (iast x11 5 1)) fun _ => dbind (dput (iast x11 6 1)) fun _ => dbind (dput (iast x11 7 1)) fun _ => dbind (dput (pfO l1 12 15 (some x11))) fun _ => DL_texts_L336 FU l1 l2 x7 x8 0
noncomputable def R336 (l1 : Nat) (l2 : Int32) : Dm Int32 := dbind (DL_between (l2 >>> ((6 : Int32) &&& 31)) 0 9) fun x7 => dbind (dnew (nwO 14)) fun x8 => dbind (dread (isC x8 14)) fun x9 => dbind (DJ4_init_da8c8 x8) fun _ => dbind (dnew (nwA 2 x7)) fun x11 => dbind (dput (pfO l1 12 18 (some x11))) fun _ => dbind (dput (pfI l1 12 10 x7)) fun _ => DL_texts_L492 FU l1 l2 x7 x8 0
theorem zero_or' (x : Int32) : (0 : Int32) ||| x = x := tb_ext (fun k _ => by rw [tb_or, tb_0, Bool.false_or])
theorem b01 (x : Int32) : (x &&& 1) = 0 ∨ (x &&& 1) = 1 := by
  have h : ∀ k, k < 32 → tb (x &&& 1) k = (tb x 0 && decide (k = 0)) := fun k hk => by
    have e : ∀ k, k < 32 → tb (1 : Int32) k = decide (k = 0) := by decide
    rw [tb_and, e k hk]
    by_cases c : k = 0
    · subst c; rfl
    · rw [decide_eq_false c, Bool.and_false, Bool.and_false]
  have e0 : ∀ k, k < 32 → tb (0 : Int32) k = false := by decide
  have e1 : ∀ k, k < 32 → tb (1 : Int32) k = decide (k = 0) := by decide
  cases q : tb x 0 with
  | false => exact Or.inl (tb_ext (fun k hk => by rw [h k hk, q, e0 k hk, Bool.false_and]))
  | true => exact Or.inr (tb_ext (fun k hk => by rw [h k hk, q, e1 k hk, Bool.true_and]))
theorem b_ki {β : Type} {k : Unit → Dm β} {w : Wd} {q n : Nat} {ρ : Nat → Option Nat} {P : Wt} (h : Kn w q (.inl n) ρ P) (j : Nat) (i x : Int32) (ei : i = nI j) (hj : j < n) (hn : n < 2147483648) : (dbind (dput (iast q i x)) k).1 w = (k ()).1 (wr w q (upd P j x)) := by
  rw [b_row0 h.1 j i x ei hj hn, h.2.2]
theorem g_ki {w : Wd} {q n : Nat} {ρ : Nat → Option Nat} {P : Wt} (h : Kn w q (.inl n) ρ P) (j : Nat) (i : Int32) (ei : i = nI j) (hj : j < n) (hn : n < 2147483648) : iald q i w = some (P j) := by
  rw [ia_k h.1 j i ei hj hn, h.2.2]
theorem g_fi {w : Wd} {q ci : Nat} {ρ : Nat → Option Nat} {P : Wt} (h : Kn w q (.inr (.inl ci)) ρ P) (j : Nat) : gfI q ci j w = some (P j) := by
  rw [gfI_s h.1, h.2.2]
/-- what stays while texts are put together -/
def TI (w0 w : Wd) (a : Nat) (g : Mem) (ρ : Nat → Option Nat) (P : Wt) : Prop := Kp (fun c => c < 146 ∨ c = a) w0 w ∧ Kn w a (.inr (.inl 12)) ρ P ∧ Lw w g ∧ 146 ≤ a ∧ a < w0.1.length
theorem TI_kp {S : Nat → Prop} {w0 w w' : Wd} {a : Nat} {g : Mem} {ρ : Nat → Option Nat} {P : Wt} (h : TI w0 w a g ρ P) (k : Kp S w w') (hS : ∀ c, c < w0.1.length → ¬ S c) : TI w0 w' a g ρ P := by
  obtain ⟨h1, h2, h3, h4, h5⟩ := h
  exact ⟨Kp_tr h1 k (fun c hc z => absurd z (hS c hc)), Kn_kp h2 k (hS a h5), Lw_kp h3 k (fun c hc => hS c (by omega)), h4, h5⟩
theorem TI_0 {w : Wd} {a : Nat} {g : Mem} {ρ : Nat → Option Nat} {P : Wt} (h : Kn w a (.inr (.inl 12)) ρ P) (hl : Lw w g) (ha : 146 ≤ a) : TI w w a g ρ P := ⟨Kp_rf _ _, h, hl, ha, Kn_lt h⟩
theorem TI_wr {w0 w : Wd} {a : Nat} {g : Mem} {ρ : Nat → Option Nat} {P : Wt} (h : TI w0 w a g ρ P) (Q : Wt) : TI w0 (wr w a Q) a g ρ Q := by
  obtain ⟨h1, h2, h3, h4, h5⟩ := h
  have k := Kp_wr w a Q
  exact ⟨Kp_tr h1 k (fun c _ z => Or.inr z), Kn_wr h2 Q, Lw_kp h3 k (fun c hc z => by have : c = a := z; omega), h4, h5⟩
theorem TI_wo {w0 w : Wd} {a : Nat} {g : Mem} {ρ : Nat → Option Nat} {P : Wt} (h : TI w0 w a g ρ P) (ρ' : Nat → Option Nat) : TI w0 (wo w a ρ') a g ρ' P := by
  obtain ⟨h1, h2, h3, h4, h5⟩ := h
  have k := Kp_wo w a ρ'
  exact ⟨Kp_tr h1 k (fun c _ z => Or.inr z), Kn_wo h2 ρ', Lw_kp h3 k (fun c hc z => by have : c = a := z; omega), h4, h5⟩
theorem Bu_x {w : Wd} {b v : Nat} {bs : List Nat} (h : Bu w b v bs) {c n : Nat} (hc : w.1[c]? = some (.inl n)) : c ≠ b ∧ c ≠ v := by
  obtain ⟨h1, h2, ⟨cap, h3, -⟩, -⟩ := h
  exact ⟨ne_sh hc h1 (by simp), ne_sh hc h3 (by simp)⟩
/-- a text is said and read -/
theorem say_txt1 {w : Wd} {g : Mem} {W : Wt} {S : List Wt} {l4 v n : Nat} {bs : List Nat} {p r : Int32} (hB : Bu w l4 v bs) (hl : Lw w g) (hG : GS g W S) (hN : bs.length ≤ 400) (h8 : ∀ c ∈ bs, c < 128) (hR : Rm w (n + 97)) (Q : Mem → Prop) (hg : ∀ g1, GT g1 W S (chF bs) bs.length → ∃ g', FX12_text_146 p g1 = some (r, g') ∧ Q g') : ∃ w' g', (∀ (β : Type) (K : Int32 → Dm β), (dbind (dread (isC l4 14)) fun _ => dbind (DJ4_toString_0e30d l4) fun x3 => dbind (DL_say x3) fun _ => dbind (dclW (fun u => FX11_text_0 p u)) fun x5 => K x5).1 w = (K r).1 w') ∧ Lw w' g' ∧ Q g' ∧ Kp (fun c => c < 146) w w' ∧ Rm w' n := by
  obtain ⟨w1, e1, s1, k1, r1, l1⟩ := r_str (n := n + 20) hB hR
  have hl0 := OKs_len hl.1
  obtain ⟨w2, g2, e2, l2, t2, k2, r2⟩ := r_say (n := n) (Lw_kp hl k1 (fun _ _ z => z)) hG s1 hN h8 (by omega) (by omega) r1
  obtain ⟨g3, e3, q3⟩ := hg g2 t2
  obtain ⟨w4, a1, a2, a3, a4, a5⟩ := b_cl (A_text p) (fun {u v u'} h => frX11_text_0 p u h) (fun c hc => by simp; omega) l2 e3
  refine ⟨w4, g3, fun β K => ?_, a1, q3, Kp_tr (Kp_F k1) (Kp_tr k2 a4 (fun _ _ z => z)) (fun _ _ z => z), Rm_e r2 a2⟩
  rw [b_rd (isC_s hB.1), b_ok e1, b_ok e2, a5]
def lnT (x : Int32) (men k : Nat) : Nat × Nat × Option Nat :=
  (btN ((x * (nI k + 3)) + (239 * nI k)) 0 (men - 1), (btN ((x * (nI k + 3)) + (239 * nI k)) 0 (men - 1) + btN (((x * (nI k + 3)) + (239 * nI k)) >>> ((4 : Int32) &&& 31)) 1 (men - 1)) % men, if ((((x * (nI k + 3)) + (239 * nI k)) >>> ((9 : Int32) &&& 31)) &&& 1) = 1 then some ((btN ((x * (nI k + 3)) + (239 * nI k)) 0 (men - 1) + btN (((x * (nI k + 3)) + (239 * nI k)) >>> ((6 : Int32) &&& 31)) 1 (men - 1)) % men) else none)
theorem md_ne {m d men : Nat} (hm : m < men) (h1 : 1 ≤ d) (h2 : d ≤ men - 1) : (m + d) % men < men ∧ (m + d) % men ≠ m := by
  refine ⟨Nat.mod_lt _ (by omega), ?_⟩
  by_cases c : m + d < men
  · rw [Nat.mod_eq_of_lt c]; omega
  · rw [Nat.mod_eq_sub_mod (by omega), Nat.mod_eq_of_lt (by omega)]; omega
theorem lnT_ok (x : Int32) {men : Nat} (h2 : 2 ≤ men) (k : Nat) : (lnT x men k).1 < men ∧ ((lnT x men k).2.1 < men ∧ (lnT x men k).2.1 ≠ (lnT x men k).1) ∧ ∀ o, (lnT x men k).2.2 = some o → o < men ∧ o ≠ (lnT x men k).1 := by
  have b0 := btN_r ((x * (nI k + 3)) + (239 * nI k)) (show 0 ≤ men - 1 by omega)
  have b1 := btN_r (((x * (nI k + 3)) + (239 * nI k)) >>> ((4 : Int32) &&& 31)) (show 1 ≤ men - 1 by omega)
  have b2 := btN_r (((x * (nI k + 3)) + (239 * nI k)) >>> ((6 : Int32) &&& 31)) (show 1 ≤ men - 1 by omega)
  refine ⟨?_, ?_, fun o ho => ?_⟩
  · show btN _ 0 (men - 1) < men
    omega
  · exact md_ne (by omega) b1.1 b1.2
  · have ho : (if ((((x * (nI k + 3)) + (239 * nI k)) >>> ((9 : Int32) &&& 31)) &&& 1) = 1 then some ((btN ((x * (nI k + 3)) + (239 * nI k)) 0 (men - 1) + btN (((x * (nI k + 3)) + (239 * nI k)) >>> ((6 : Int32) &&& 31)) 1 (men - 1)) % men) else none) = some o := ho
    by_cases c : ((((x * (nI k + 3)) + (239 * nI k)) >>> ((9 : Int32) &&& 31)) &&& 1) = 1
    · rw [if_pos c] at ho
      rw [← Option.some.inj ho]
      exact md_ne (by omega) b2.1 b2.2
    · rw [if_neg c] at ho
      cases ho
/-- who is told, after k lines -/
def tlW (ln : Nat → Nat × Nat × Option Nat) (k m : Nat) : Int32 := fo k (fun i s => if (ln i).1 = m then s ||| tlM (ln i) else s) 0
def tlO (o : Option Nat) : Int32 := match o with
  | none => 0
  | some x => (1 : Int32) <<< (nI x &&& 31)
theorem tlW_s {ln : Nat → Nat × Nat × Option Nat} {k m a : Nat} {t : Int32} {o : Option Nat} (e : ln k = (m, a, o)) (ht : t = tlO o) : upd (tlW ln k) m (tlW ln k m ||| (((1 : Int32) <<< (nI a &&& 31)) ||| t)) = tlW ln (k + 1) := by
  funext j
  show _ = fo (k + 1) _ _
  rw [fo_s, e]
  have et : (((1 : Int32) <<< (nI a &&& 31)) ||| t) = tlM (m, a, o) := by
    subst ht
    cases o with
    | none => show _ ||| (0 : Int32) = (0 : Int32) ||| _; rw [zero_or', or0]
    | some x => show _ ||| ((1 : Int32) <<< (nI x &&& 31)) = ((0 : Int32) ||| _) ||| _; rw [zero_or']
  rw [et]
  by_cases c : j = m
  · rw [c, up_eq, if_pos rfl]
    rfl
  · rw [up_ne c, if_neg (fun z => c z.symm)]
    rfl
abbrev tlJ (x : Int32) (men k : Nat) : List Nat := jn (fun i => tlT (lnT x men i)) k
theorem tlJ_len (x : Int32) {men : Nat} (h2 : 2 ≤ men) (h12 : men ≤ 12) (k : Nat) : (tlJ x men k).length ≤ 22 * k := jn_le (fun l => by
  obtain ⟨o1, o2, o3⟩ := lnT_ok x h2 l
  exact tlT_len (by omega) (by omega) (fun o ho => by have := (o3 o ho).1; omega)) k
theorem tl_loop {w0 : Wd} {a tc men N n0 : Nat} {g : Mem} {ρ : Nat → Option Nat} {P : Wt} (x : Int32) (h12 : men ≤ 12) (h2 : 2 ≤ men ∨ N = 0) (P6 : P 6 = nI men) (hρ : ρ 14 = some tc) (htc : w0.1.length ≤ tc) (hN : N ≤ 9) (l4 : Nat) (hl4 : w0.1.length ≤ l4) : ∀ (d k F : Nat) (w : Wd) (v : Nat), k + d = N → d < F → TI w0 w a g ρ P → Kn w tc (.inl 12) (fun _ => none) (tlW (lnT x men) k) → Bu w l4 v (tlJ x men k) → w0.1.length ≤ v → Rm w (n0 + 710 * d) → ∃ w' v' F', (DL_texts_L47 F a x (nI N) l4 (nI k)).1 w = (DL_texts_b47 (DL_texts_L47 F') a x (nI N) l4 (nI N)).1 w' ∧ TI w0 w' a g ρ P ∧ Kn w' tc (.inl 12) (fun _ => none) (tlW (lnT x men) N) ∧ Bu w' l4 v' (tlJ x men N) ∧ w0.1.length ≤ v' ∧ Rm w' n0 := by
  intro d
  induction d with
  | zero =>
    intro k F w v hk hF hI hK hB hv hR
    obtain ⟨F, rfl⟩ : ∃ F', F = F' + 1 := ⟨F - 1, by omega⟩
    have e : k = N := by omega
    subst e
    exact ⟨w, v, F, rfl, hI, hK, hB, hv, hR⟩
  | succ d ih =>
    intro k F w v hk hF hI hK hB hv hR
    obtain ⟨F, rfl⟩ : ∃ F', F = F' + 1 := ⟨F - 1, by omega⟩
    have h2 : 2 ≤ men := by omega
    obtain ⟨o1, o2, o3⟩ := lnT_ok x h2 k
    have hlen := tlJ_len x h2 h12 k
    have gm : gfI a 12 6 w = some (nI men) := by rw [g_fi hI.2.1, P6]
    have em : nI men - 1 = nI (men - 1) := by rw [show (1 : Int32) = nI 1 by decide, nI_sub (by omega)]
    obtain ⟨V, hV⟩ : ∃ V, V = ((x * (nI k + 3)) + (239 * nI k)) := ⟨_, rfl⟩
    have eln : lnT x men k = (btN V 0 (men - 1), (btN V 0 (men - 1) + btN (V >>> ((4 : Int32) &&& 31)) 1 (men - 1)) % men, if ((V >>> ((9 : Int32) &&& 31)) &&& 1) = 1 then some ((btN V 0 (men - 1) + btN (V >>> ((6 : Int32) &&& 31)) 1 (men - 1)) % men) else none) := by rw [hV]; rfl
    have b1 := btN_r (V >>> ((4 : Int32) &&& 31)) (show 1 ≤ men - 1 by omega)
    have b2 := btN_r (V >>> ((6 : Int32) &&& 31)) (show 1 ≤ men - 1 by omega)
    have b0 := btN_r V (show 0 ≤ men - 1 by omega)
    -- what is read and drawn
    have pre : (DL_texts_b47 (DL_texts_L47 F) a x (nI N) l4 (nI k)).1 w = (if ((V >>> ((9 : Int32) &&& 31)) &&& 1) = 1 then DL_texts_b147 (DL_texts_L47 F) a x (nI N) l4 (nI k) (nI (btN V 0 (men - 1))) (nI ((btN V 0 (men - 1) + btN (V >>> ((4 : Int32) &&& 31)) 1 (men - 1)) % men)) (nI ((btN V 0 (men - 1) + btN (V >>> ((6 : Int32) &&& 31)) 1 (men - 1)) % men)) 1 else DL_texts_b147 (DL_texts_L47 F) a x (nI N) l4 (nI k) (nI (btN V 0 (men - 1))) (nI ((btN V 0 (men - 1) + btN (V >>> ((4 : Int32) &&& 31)) 1 (men - 1)) % men)) (nI ((btN V 0 (men - 1) + btN (V >>> ((6 : Int32) &&& 31)) 1 (men - 1)) % men)) 0).1 w := by
      unfold DL_texts_b47
      rw [i_f (by rw [nn_le (by omega) (by omega)]; omega), ← hV, b_rd gm, em, b_bt _ 0 (men - 1) (by omega) (by omega) _ _ (by decide) rfl, b_rd gm, em, b_bt _ 1 (men - 1) (by omega) (by omega) _ _ (by decide) rfl, b_rd gm, nI_add, b_lf (rm_nn (by omega) (by omega) (by omega)), b_rd gm, em, b_bt _ 1 (men - 1) (by omega) (by omega) _ _ (by decide) rfl, b_rd gm, nI_add, b_lf (rm_nn (by omega) (by omega) (by omega))]
    -- the line, the array
    have fin : ∀ (w1 : Wd) (v1 : Nat) (o : Option Nat) (t : Int32), lnT x men k = (btN V 0 (men - 1), (btN V 0 (men - 1) + btN (V >>> ((4 : Int32) &&& 31)) 1 (men - 1)) % men, o) → t = tlO o → Bu w1 l4 v1 (tlJ x men (k + 1)) → Kp (fun c => c = l4 ∨ c = v) w w1 → (v1 = v ∨ w.1.length ≤ v1) → Rm w1 (n0 + 710 * d) → ∃ w' v' F', (dbind (dread (gfR a 12 14)) fun x9 => dbind (dread (iald x9 (nI (btN V 0 (men - 1))))) fun x10 => DL_texts_b243 (DL_texts_L47 F) a x (nI N) l4 (nI k) x9 (nI (btN V 0 (men - 1))) x10 ((1 : Int32) <<< (nI ((btN V 0 (men - 1) + btN (V >>> ((4 : Int32) &&& 31)) 1 (men - 1)) % men) &&& 31)) t).1 w1 = (DL_texts_b47 (DL_texts_L47 F') a x (nI N) l4 (nI N)).1 w' ∧ TI w0 w' a g ρ P ∧ Kn w' tc (.inl 12) (fun _ => none) (tlW (lnT x men) N) ∧ Bu w' l4 v' (tlJ x men N) ∧ w0.1.length ≤ v' ∧ Rm w' n0 := by
      intro w1 v1 o t el et hB1 hk1 hv1 hR1
      have hI1 : TI w0 w1 a g ρ P := TI_kp hI hk1 (fun c hc z => by rcases z with z | z <;> omega)
      have xB := Bu_x hB hK.1
      have hK1 := Kn_kp hK hk1 (fun z => by rcases z with z | z; exact xB.1 z; exact xB.2 z)
      have g14 : gfR a 12 14 w1 = some tc := by rw [gfR_k hI1.2.1, hρ]
      have kw := Kp_wr w1 tc (upd (tlW (lnT x men) k) (btN V 0 (men - 1)) (tlW (lnT x men) k (btN V 0 (men - 1)) ||| (((1 : Int32) <<< (nI ((btN V 0 (men - 1) + btN (V >>> ((4 : Int32) &&& 31)) 1 (men - 1)) % men) &&& 31)) ||| t)))
      have hK2 := Kn_wr hK1 (upd (tlW (lnT x men) k) (btN V 0 (men - 1)) (tlW (lnT x men) k (btN V 0 (men - 1)) ||| (((1 : Int32) <<< (nI ((btN V 0 (men - 1) + btN (V >>> ((4 : Int32) &&& 31)) 1 (men - 1)) % men) &&& 31)) ||| t)))
      have hB2 := Bu_x hB1 hK1.1
      rw [tlW_s el et] at hK2 kw
      obtain ⟨w', v', F', q1, q2⟩ := ih (k + 1) F _ v1 (by omega) (by omega) (TI_kp hI1 kw (fun c hc z => by have : c = tc := z; omega)) hK2 (Bu_kp hB1 kw (fun z => hB2.1 z.symm) (fun z => hB2.2 z.symm)) (by have := Kp_len hI.1; omega) (Rm_wr hR1)
      refine ⟨w', v', F', ?_, q2⟩
      rw [b_rd g14, b_rd (g_ki hK1 (btN V 0 (men - 1)) _ rfl (by omega) (by decide))]
      unfold DL_texts_b243
      rw [b_ki hK1 (btN V 0 (men - 1)) _ _ rfl (by omega) (by decide), tlW_s el et, ← nI_succ]
      exact q1
    show ∃ w' v' F', (DL_texts_b47 (DL_texts_L47 F) a x (nI N) l4 (nI k)).1 w = _ ∧ _
    rw [pre]
    have hR' : Rm w ((n0 + 710 * d) + 710) := by rw [show n0 + 710 * d + 710 = n0 + 710 * (d + 1) by omega]; exact hR
    have h2m : (btN V 0 (men - 1) + btN (V >>> ((4 : Int32) &&& 31)) 1 (men - 1)) % men < men := Nat.mod_lt _ (by omega)
    have h3m : (btN V 0 (men - 1) + btN (V >>> ((6 : Int32) &&& 31)) 1 (men - 1)) % men < men := Nat.mod_lt _ (by omega)
    by_cases c : ((V >>> ((9 : Int32) &&& 31)) &&& 1) = 1
    · rw [if_pos c] at eln
      rw [i_t c]
      obtain ⟨w1, v1, e1, f1, k1, g1, r1⟩ := ln_tell1 (m := btN V 0 (men - 1)) (a := (btN V 0 (men - 1) + btN (V >>> ((4 : Int32) &&& 31)) 1 (men - 1)) % men) (x := (btN V 0 (men - 1) + btN (V >>> ((6 : Int32) &&& 31)) 1 (men - 1)) % men) hB hR' (by omega) (by omega) (by omega) (by omega) (DL_texts_L47 F) a x (nI N) (nI k)
      rw [e1]
      refine fin w1 v1 _ _ eln rfl ?_ k1 g1 r1
      show Bu w1 l4 v1 (jn (fun i => tlT (lnT x men i)) k ++ tlT (lnT x men k))
      rw [eln]
      exact f1
    · rw [if_neg c] at eln
      rw [i_f c]
      obtain ⟨w1, v1, e1, f1, k1, g1, r1⟩ := ln_tell0 (m := btN V 0 (men - 1)) (a := (btN V 0 (men - 1) + btN (V >>> ((4 : Int32) &&& 31)) 1 (men - 1)) % men) hB hR' (by omega) (by omega) (by omega) (DL_texts_L47 F) a x (nI N) (nI k) (nI ((btN V 0 (men - 1) + btN (V >>> ((6 : Int32) &&& 31)) 1 (men - 1)) % men))
      rw [e1]
      refine fin w1 v1 _ _ eln rfl ?_ k1 g1 r1
      show Bu w1 l4 v1 (jn (fun i => tlT (lnT x men i)) k ++ tlT (lnT x men k))
      rw [eln]
      exact f1
theorem rst_jr {f : Nat → List Nat} {F : Nat → List Nat → List Nat} (h : ∀ s r, F s r = f s ++ r) (N : Nat) : ∀ d s, rst F N d s = jr f s d
  | 0, _ => rfl
  | d + 1, s => by
    show F s (rst F N d (s + 1)) = f s ++ jr f (s + 1) d
    rw [h, rst_jr h N d (s + 1)]
theorem rst_jn {f : Nat → List Nat} {F : Nat → List Nat → List Nat} (h : ∀ s r, F s r = f s ++ r) (N : Nat) : jn f N = rst F N N 0 := by
  rw [rst_jr h]
  have q := jr_jn f N 0
  rw [Nat.zero_add] at q
  exact q
theorem r_tells1 {w : Wd} {a men N n : Nat} {g : Mem} {W : Wt} {S : List Wt} {ρ : Nat → Option Nat} {P : Wt} (x : Int32) (h : Kn w a (.inr (.inl 12)) ρ P) (hl : Lw w g) (hG : GS g W S) (hT : OkT W) (ha : 146 ≤ a) (hmen : men = nmen W) (P6 : P 6 = nI men) (hN : N ≤ 9) (h2 : 2 ≤ men ∨ N = 0) (hR : Rm w (n + 6500)) : ∃ w' g' W1 tc, (DL_texts_b21 a x (nI N)).1 w = (R47 a x).1 w' ∧ Kp (fun c => c < 146 ∨ c = a) w w' ∧ Kn w' a (.inr (.inl 12)) (oupd ρ 14 (some tc)) (upd P 9 (nI N)) ∧ Kn w' tc (.inl 12) (fun _ => none) (tlW (lnT x men) N) ∧ w.1.length ≤ tc ∧ Lw w' g' ∧ GS g' W1 [] ∧ W1 85 = nI N ∧ (∀ y, y < 2 * N → W1 (158 + y) = tlw (lnT x men) y) ∧ (∀ z, z ≠ 85 → (z < 158 ∨ 190 ≤ z) → W1 z = W z) ∧ Rm w' n := by
  have h12 := (OkT_n hT).2
  rw [← hmen] at h12
  have hI0 := TI_0 h hl ha
  obtain ⟨w1, e1, f1, k1, r1, l1⟩ := r_new (n := n + 6497) hR
  have hI1 := TI_kp hI0 k1 (fun _ _ z => z)
  have kq := Kp_nq (fun _ => False) w1 (.inl 12) (fun _ => none) (fun _ => 0)
  have nq' := Kn_nq w1 (.inl 12) (fun _ => none) (fun _ => 0)
  have r2 : Rm (nq w1 (.inl 12) (fun _ => none) (fun _ => 0)) (n + 6496) := Rm_nq1 (n := n + 6496) r1 (by decide)
  obtain ⟨w2, hw2⟩ : ∃ w2, w2 = nq w1 (.inl 12) (fun _ => none) (fun _ => 0) := ⟨_, rfl⟩
  rw [← hw2] at kq nq' r2
  have hI2 := TI_kp hI1 kq (fun _ _ z => z)
  have hI3 := TI_wo hI2 (oupd ρ 14 (some w1.1.length))
  have hI4 := TI_wr hI3 (upd P 9 (nI N))
  have al : a < w.1.length := Kn_lt h
  have k34 : Kp (fun c => c = a) w2 (wr (wo w2 a (oupd ρ 14 (some w1.1.length))) a (upd P 9 (nI N))) := Kp_tr (Kp_wo w2 a _) (Kp_wr _ a _) (fun _ _ z => z)
  have hK4 := Kn_kp nq' k34 (by omega)
  have hB4 : Bu (wr (wo w2 a (oupd ρ 14 (some w1.1.length))) a (upd P 9 (nI N))) w.1.length (w.1.length + 1) [] := Bu_kp (Bu_kp f1 kq (fun z => z) (fun z => z)) k34 (by omega) (by omega)
  obtain ⟨w5, v5, F5, e5, i5, kn5, b5, g5, r5⟩ := tl_loop (n0 := n + 97) x h12 h2 (show upd P 9 (nI N) 6 = nI men by rw [up_ne (by decide)]; exact P6) (show oupd ρ 14 (some w1.1.length) 14 = some w1.1.length from ou_eq _ _ _) (show w.1.length ≤ w1.1.length by omega) hN w.1.length (Nat.le_refl _) N 0 FU _ (w.1.length + 1) (by omega) (by show _ < 10000; omega) hI4 hK4 hB4 (by omega) (Rm_le (Rm_wr (Rm_wo r2)) (by omega))
  have hok : ∀ l, l < N → (lnT x men l).1 < nmen W ∧ ((lnT x men l).2.1 < nmen W ∧ (lnT x men l).2.1 ≠ (lnT x men l).1) ∧ ∀ o, (lnT x men l).2.2 = some o → o < nmen W ∧ o ≠ (lnT x men l).1 := fun l hl => by
    rw [← hmen]
    exact lnT_ok x (by omega) l
  have hbs : (tlJ x men N).length ≤ 400 ∧ ∀ c ∈ tlJ x men N, c < 128 := by
    by_cases c : N = 0
    · subst c
      exact ⟨Nat.zero_le _, fun c hc => by cases hc⟩
    · have h2' : 2 ≤ men := by omega
      refine ⟨by have := tlJ_len x h2' h12 N; omega, jn_c (P := fun c => c < 128) (fun l => ?_) N⟩
      obtain ⟨o1, o2, o3⟩ := lnT_ok x h2' l
      exact tlT_c (by omega) (by omega) (fun o ho => by have := (o3 o ho).1; omega)
  obtain ⟨w6, g6, e6, l6, ⟨W1, q1, q2, q3, q4⟩, k6, r6⟩ := say_txt1 (n := n) (p := 1) (r := nI N) b5 i5.2.2.1 hG hbs.1 hbs.2 r5 (fun g' => ∃ W1, GS g' W1 [] ∧ W1 85 = nI N ∧ (∀ y, y < 2 * N → W1 (158 + y) = tlw (lnT x men) y) ∧ ∀ z, z ≠ 85 → (z < 158 ∨ 190 ≤ z) → W1 z = W z) (fun g1 h1 => by
    obtain ⟨g', W', z1, z2, z3, z4, z5⟩ := ge_text1 h1 hT (by omega) (rst_jn (fun s r => tlT_B (lnT x men s) r) N) hok
    exact ⟨g', z1, W', z2, z3, z4, z5⟩)
  have htc : 146 ≤ w1.1.length := by omega
  refine ⟨w6, g6, W1, w1.1.length, ?_, Kp_tr i5.1 k6 (fun _ _ z => Or.inl z), Kn_kp i5.2.1 k6 (by omega), Kn_kp kn5 k6 (by omega), by omega, l6, q1, q2, q3, q4, r6⟩
  unfold DL_texts_b21
  refine (e1 _ _).trans ?_
  refine (b_nw (show nwI 12 w1 = _ from nwI_n (n := 12) (by decide) w1) (n := n + 6496) (c := 1) r1 (by decide) (by decide)).trans ?_
  rw [← hw2, b_po hI2.2.1, b_fi hI3.2.1]
  refine e5.trans ?_
  unfold DL_texts_b47
  rw [i_t (Int32.le_refl _)]
  refine (e6 _ _).trans ?_
  rw [i_t rfl]
  rfl
