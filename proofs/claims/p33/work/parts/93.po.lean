/-! a copy -/
theorem wo_wo (w : Wd) (q : Nat) (ρ ρ' : Nat → Option Nat) : wo (wo w q ρ) q ρ' = wo w q ρ' := by
  unfold wo
  have e : rrow (rrow w.2.1 q ρ) q ρ' = rrow w.2.1 q ρ' := by
    funext b
    unfold rrow
    split <;> rfl
  show (w.1, rrow (rrow w.2.1 q ρ) q ρ', w.2.2) = _
  rw [e]
theorem b_p2 {β : Type} {k : Unit → Dm β} {w : Wd} {q ci : Nat} {ρ ρ0 : Nat → Option Nat} {P : Wt} (h : Kn w q (.inr (.inl ci)) ρ0 P) (j : Nat) (o : Option Nat) : (dbind (dput (pfO q ci j o)) k).1 (wo w q ρ) = (k ()).1 (wo w q (oupd ρ j o)) := by
  rw [b_po (Kn_wo h ρ) j o, wo_wo]
theorem nwCI_n {w : Wd} {a n : Nat} (h : w.1[a]? = some (.inl n)) : nwCI a w = some (.inl n, fun _ => none, w.2.2 a) := by
  unfold nwCI
  rw [h]
theorem isI_n {w : Wd} {a n : Nat} (h : w.1[a]? = some (.inl n)) : isI a w = some () := by
  unfold isI
  rw [h]
theorem gfR_k {w : Wd} {q ci j : Nat} {ρ : Nat → Option Nat} {P : Wt} (h : Kn w q (.inr (.inl ci)) ρ P) : gfR q ci j w = ρ j := by
  unfold gfR
  rw [if_pos h.1, h.2.1]
def cP (W : Wt) : Wt := upd (upd (upd (upd (upd (upd (upd (upd (upd (upd (upd iP 0 (W 2)) 1 (W 0)) 2 (W 1)) 3 (W 79)) 4 (W 80)) 5 (W 81)) 6 (W 78)) 7 (W 3)) 8 (sHills W)) 9 (W 85)) 10 (W 87)
def cR (q : Nat) (L : Lay) : Nat → Option Nat := oupd (oupd (oupd (oupd (oupd (iR (q + 1)) 13 (some (q + 7))) 14 (some (L.1 14))) 15 (some (L.1 15))) 18 (some (L.1 18))) 19 L.2.2.2.2
def cL (q : Nat) (L : Lay) : Lay := (fun j => if j = 13 then q + 7 else if j = 16 then q + 4 else if j = 17 then q + 5 else L.1 j, fun m => q + 8 + m, L.2.2.1, L.2.2.2)
def mR (M k : Nat) : Nat → Option Nat := fun i => if i < k then some (M + i) else none
def lR (f : Nat → Nat) (k : Nat) : Nat → Option Nat := fun i => if i < k then some (f i) else none
theorem mR_s (M k : Nat) : oupd (mR M k) k (some (M + k)) = mR M (k + 1) := by
  funext i
  unfold oupd mR
  by_cases c : i = k
  · subst c
    rw [if_pos rfl, if_pos (by omega)]
  · rw [if_neg c]
    by_cases d : i < k
    · rw [if_pos d, if_pos (by omega)]
    · rw [if_neg d, if_neg (by omega)]
theorem lR_s (f : Nat → Nat) (k : Nat) : oupd (lR f k) k (some (f k)) = lR f (k + 1) := by
  funext i
  unfold oupd lR
  by_cases c : i = k
  · subst c
    rw [if_pos rfl, if_pos (by omega)]
  · rw [if_neg c]
    by_cases d : i < k
    · rw [if_pos d, if_pos (by omega)]
    · rw [if_neg d, if_neg (by omega)]
/-- how far a copy is: men k, lines i -/
def Cpy (w0 w : Wd) (L : Lay) (W : Wt) (k i : Nat) : Prop := Kp (fun c => w0.1.length ≤ c) w0 w ∧ Kn w w0.1.length (.inr (.inl 12)) (cR w0.1.length L) (cP W) ∧ Kn w (w0.1.length + 4) (.inr (.inr (2, 12))) (mR (w0.1.length + 8) k) (fun _ => 0) ∧ Kn w (w0.1.length + 5) (.inr (.inr (2, 150))) (lR L.2.2.1 i) (fun _ => 0) ∧ Kn w (w0.1.length + 7) (.inl 2) (fun _ => none) (w0.2.2 (L.1 13)) ∧ (∀ m, m < k → Kn w (w0.1.length + 8 + m) (.inl 9) (fun _ => none) (w0.2.2 (L.2.1 m))) ∧ w.1.length = w0.1.length + 8 + k
theorem Cpy_WA {w0 w : Wd} {a : Nat} {L : Lay} {W : Wt} {k i : Nat} (h : Cpy w0 w L W k i) (hA : WA w0 a L W) : WA w a L W := Kp_WA h.1 hA (fun c hc z => by have := RS_lt hA hc; omega)
theorem r_copyL {w0 : Wd} {a : Nat} {L : Lay} {W : Wt} (hA : WA w0 a L W) (hW : WO W) (n : Nat) : ∀ (d i F : Nat) (w : Wd), i + d = nt (W 3) → d < F → Cpy w0 w L W (nmen W) i → Rm w n → ∃ w', (DX12_copy_L178 F a w0.1.length (nI i)).1 w = some (w0.1.length, w') ∧ Cpy w0 w' L W (nmen W) (nt (W 3)) ∧ Rm w' n := by
  obtain ⟨n3, hL3, eL3⟩ := OkD_ln hW.2.1
  have hn : nt (W 3) ≤ 150 := by rw [eL3, nt_nI (by omega)]; exact hL3
  have en : W 3 = nI (nt (W 3)) := by rw [eL3, nt_nI (by omega)]
  intro d
  induction d with
  | zero =>
    intro i F w hi hF hC hR
    obtain ⟨F, rfl⟩ : ∃ F', F = F' + 1 := ⟨F - 1, by omega⟩
    have e : i = nt (W 3) := by omega
    subst e
    refine ⟨w, ?_, hC, hR⟩
    show (DX12_copy_b178 _ _ _ _).1 w = _
    unfold DX12_copy_b178
    rw [b_rd (g_7 (Cpy_WA hC hA)), i_t (by rw [← en]; exact Int32.le_refl _), u_rt]
  | succ d ih =>
    intro i F w hi hF hC hR
    obtain ⟨F, rfl⟩ : ∃ F', F = F' + 1 := ⟨F - 1, by omega⟩
    have A := Cpy_WA hC hA
    obtain ⟨k1, k2, k3, k4, k5, k6, k7⟩ := id hC
    obtain ⟨l1, l2, l3⟩ := (WA_l A) i (by omega)
    have hw := Kp_wo w (w0.1.length + 5) (lR L.2.2.1 (i + 1))
    have ne : ∀ c, c ≠ w0.1.length + 5 → ¬ c = w0.1.length + 5 := fun c h => h
    have C2 : Cpy w0 (wo w (w0.1.length + 5) (lR L.2.2.1 (i + 1))) L W (nmen W) (i + 1) := by
      refine ⟨Kp_tr k1 hw (fun c _ hc => by omega), Kn_kp k2 hw (by omega), Kn_kp k3 hw (by omega), Kn_wo k4 _, Kn_kp k5 hw (by omega), fun m hm => Kn_kp (k6 m hm) hw (by omega), k7⟩
    obtain ⟨w', q1, q2, q3⟩ := ih (i + 1) F _ (by omega) (by omega) C2 (Rm_wo hR)
    refine ⟨w', ?_, q2, q3⟩
    show (DX12_copy_b178 _ _ _ _).1 w = _
    unfold DX12_copy_b178
    rw [b_rd (g_7 A), i_f (by rw [en, nn_le (by omega) (by omega)]; omega), b_rd (show gfR w0.1.length 12 17 w = some (w0.1.length + 5) from (gfR_k k2).trans rfl), b_rd (g_R A 17 (by decide) (by decide)), b_rd (aa_k (WA_s A).2.2.2.2.1 i (by omega) (by decide) l1), b_ps k4 (Or.inr ⟨rfl, l2⟩) i _ rfl (by omega) (by decide), lR_s, ← nI_succ]
    exact q1
theorem r_copyM {w0 : Wd} {a : Nat} {L : Lay} {W : Wt} (hA : WA w0 a L W) (hW : WO W) (n : Nat) : ∀ (d k F : Nat) (w : Wd), k + d = nmen W → d < F → Cpy w0 w L W k 0 → Rm w (n + d) → ∃ w', (DX12_copy_L144 F a w0.1.length (nI k)).1 w = some (w0.1.length, w') ∧ Cpy w0 w' L W (nmen W) (nt (W 3)) ∧ Rm w' n := by
  have hT := hW.1
  have h12 := (OkT_n hT).2
  obtain ⟨n3, hL3, eL3⟩ := OkD_ln hW.2.1
  have hn : nt (W 3) ≤ 150 := by rw [eL3, nt_nI (by omega)]; exact hL3
  intro d
  induction d with
  | zero =>
    intro k F w hk hF hC hR
    obtain ⟨F, rfl⟩ : ∃ F', F = F' + 1 := ⟨F - 1, by omega⟩
    have e : k = nmen W := by omega
    subst e
    obtain ⟨w', q1, q2, q3⟩ := r_copyL hA hW n (nt (W 3)) 0 FU w (by omega) (by show _ < 10000; omega) hC hR
    refine ⟨w', ?_, q2, q3⟩
    show (DX12_copy_b144 _ _ _ _).1 w = _
    unfold DX12_copy_b144
    rw [b_rd (g_6 (Cpy_WA hC hA)), i_t (by rw [le_n hT (by omega)]; omega)]
    exact q1
  | succ d ih =>
    intro k F w hk hF hC hR
    obtain ⟨F, rfl⟩ : ∃ F', F = F' + 1 := ⟨F - 1, by omega⟩
    have A := Cpy_WA hC hA
    have hm : k < nmen W := by omega
    obtain ⟨k1, k2, k3, k4, k5, k6, k7⟩ := id hC
    have hrow := row_of A hm
    have lrow := RS_lt hA (RS_m (a := a) (L := L) hm)
    have er : w.2.2 (L.2.1 k) = w0.2.2 (L.2.1 k) := (k1.2 (L.2.1 k) lrow (by omega)).2
    have h1 := Kp_nq (fun _ => False) w (.inl 9) (fun _ => none) (w0.2.2 (L.2.1 k))
    have h2 := Kp_wo (nq w (.inl 9) (fun _ => none) (w0.2.2 (L.2.1 k))) (w0.1.length + 4) (mR (w0.1.length + 8) (k + 1))
    have k3' := Kn_kp k3 h1 (fun z => z)
    have C2 : Cpy w0 (wo (nq w (.inl 9) (fun _ => none) (w0.2.2 (L.2.1 k))) (w0.1.length + 4) (mR (w0.1.length + 8) (k + 1))) L W (k + 1) 0 := by
      refine ⟨Kp_tr k1 (Kp_tr (Kp_nq (fun c => c = w0.1.length + 4) w (.inl 9) (fun _ => none) (w0.2.2 (L.2.1 k))) h2 (fun _ _ z => z)) (fun c _ hc => by omega), Kn_kp (Kn_kp k2 h1 (fun z => z)) h2 (by omega), Kn_wo k3' _, Kn_kp (Kn_kp k4 h1 (fun z => z)) h2 (by omega), Kn_kp (Kn_kp k5 h1 (fun z => z)) h2 (by omega), fun m hm' => ?_, ?_⟩
      · by_cases c : m = k
        · subst c
          have z := Kn_nq w (.inl 9) (fun _ => none) (w0.2.2 (L.2.1 m))
          rw [k7] at z
          exact Kn_kp z h2 (by omega)
        · exact Kn_kp (Kn_kp (k6 m (by omega)) h1 (fun z => z)) h2 (by omega)
      · show (nq w (.inl 9) (fun _ => none) (w0.2.2 (L.2.1 k))).1.length = _
        rw [len_nq, k7]
        omega
    have hR1 : Rm (nq w (.inl 9) (fun _ => none) (w0.2.2 (L.2.1 k))) (n + d) := Rm_nq (n := n + d) (c := 1) hR (by decide) (by decide)
    obtain ⟨w', q1, q2, q3⟩ := ih (k + 1) F _ (by omega) (by omega) C2 (Rm_wo hR1)
    refine ⟨w', ?_, q2, q3⟩
    show (DX12_copy_b144 _ _ _ _).1 w = _
    unfold DX12_copy_b144
    have s9 : (nq w (.inl 9) (fun _ => none) (w0.2.2 (L.2.1 k))).1[w.1.length]? = some (.inl 9) := nq_s _ _ _ _
    have en := nwCI_n hrow
    rw [er] at en
    rw [b_rd (g_6 A), i_f (by rw [le_n hT (by omega)]; omega), b_rd (show gfR w0.1.length 12 16 w = some (w0.1.length + 4) from (gfR_k k2).trans rfl), b_rd (g_R A 16 (by decide) (by decide)), b_rd (g_man A hT hm), b_nw en (n := n + d) (c := 1) hR (by decide) (by decide), b_rd (isI_n s9), b_ps k3' (Or.inr ⟨rfl, s9⟩) k _ rfl (by omega) (by decide), ← nI_succ]
    have em := mR_s (w0.1.length + 8) k
    rw [← k7] at em
    rw [k7] at em
    have ek : w.1.length = w0.1.length + 8 + k := k7
    rw [ek, mR_s]
    exact q1
/-- what a copy shares with its source -/
def Sh (L : Lay) (W : Wt) (c : Nat) : Prop := c = L.1 14 ∨ c = L.1 15 ∨ c = L.1 18 ∨ (∃ i, i < nt (W 3) ∧ c = L.2.2.1 i) ∨ (∃ i, i < nt (W 87) ∧ c = L.2.2.2.1 i) ∨ L.2.2.2.2 = some c
theorem Sh_RS {a : Nat} {L : Lay} {W : Wt} {c : Nat} (h : Sh L W c) : RS a L W c := by
  rcases h with rfl | rfl | rfl | ⟨i, hi, rfl⟩ | ⟨i, hi, rfl⟩ | h
  · exact RS_j (by decide) (by decide)
  · exact RS_j (by decide) (by decide)
  · exact RS_j (by decide) (by decide)
  · exact RS_l hi
  · exact RS_o hi
  · exact RS_d h
theorem Sh_sh {w : Wd} {a : Nat} {L : Lay} {W : Wt} (h : WA w a L W) (hT : OkT W) {c : Nat} (hc : Sh L W c) : (∃ k, w.1[c]? = some (.inl k) ∧ (k = 12 ∨ k = 8 ∨ k = 4 ∨ k = 3 ∨ k = 7)) ∨ (∃ k, w.1[c]? = some (.inr (.inr (2, k))) ∧ k ≤ 16) := by
  obtain ⟨r1, r2, r3, r4, r5, r6⟩ := WA_s h
  rcases hc with rfl | rfl | rfl | ⟨i, hi, rfl⟩ | ⟨i, hi, rfl⟩ | hq
  · exact Or.inl ⟨12, r2, by omega⟩
  · exact Or.inl ⟨8, r3, by omega⟩
  · exact Or.inr ⟨nt (W 87), r6, (OkT_on hT).2⟩
  · exact Or.inl ⟨4, ((WA_l h) i hi).2.1, by omega⟩
  · exact Or.inl ⟨3, ((WA_o h) i hi).2.1, by omega⟩
  · have h8 := WA_d h
    unfold WAd at h8
    rw [hq] at h8
    exact Or.inl ⟨7, h8.1, by omega⟩
theorem MW_sh {w : Wd} {a : Nat} {L : Lay} {W : Wt} (h : WA w a L W) {c : Nat} (hc : MW a L (nmen W) c) : w.1[c]? = some (.inr (.inl 12)) ∨ w.1[c]? = some (.inl 2) ∨ w.1[c]? = some (.inr (.inr (2, 150))) ∨ w.1[c]? = some (.inl 9) := by
  obtain ⟨r1, r2, r3, r4, r5, r6⟩ := WA_s h
  rcases hc with rfl | rfl | rfl | ⟨m, hm, rfl⟩
  · exact Or.inl (WA_r h).1
  · exact Or.inr (Or.inl r1)
  · exact Or.inr (Or.inr (Or.inl r5))
  · exact Or.inr (Or.inr (Or.inr (row_of h hm)))
theorem Sh_MW {w : Wd} {a : Nat} {L : Lay} {W : Wt} (h : WA w a L W) (hT : OkT W) {c : Nat} (hc : Sh L W c) : ¬ MW a L (nmen W) c := by
  intro hm
  have q := MW_sh h hm
  rcases Sh_sh h hT hc with ⟨k, e, hk⟩ | ⟨k, e, hk⟩
  · rw [e] at q
    rcases q with q | q | q | q
    · cases q
    · cases q; omega
    · cases q
    · cases q; omega
  · rw [e] at q
    rcases q with q | q | q | q
    · cases q
    · cases q
    · cases q; omega
    · cases q
theorem r_copy {w : Wd} {a : Nat} {L : Lay} {W : Wt} {n : Nat} (h : Wv w a L W) (hR : Rm w (n + 40)) : ∃ w' a' L', (DX12_copy a).1 w = some (a', w') ∧ Wv w' a' L' W ∧ Kp (fun _ => False) w w' ∧ Rm w' n ∧ (∀ c, MW a' L' (nmen W) c → w.1.length ≤ c) ∧ (∀ c, RS a' L' W c → w.1.length ≤ c ∨ Sh L W c) ∧ w'.1[a']? = some (.inr (.inl 12)) := by
  obtain ⟨hA, ho, hW, hb⟩ := id h
  have hT := hW.1
  have h12 := (OkT_n hT).2
  have ho146 := OKs_len ho
  have hlt : ∀ {c}, RS a L W c → c < w.1.length := fun hc => RS_lt hA hc
  -- the object
  have k0 := Kp_nq (fun c => w.1.length ≤ c) w (.inr (.inl 12)) (fun _ => none) (fun _ => 0)
  have kn0 := Kn_nq w (.inr (.inl 12)) (fun _ => none) (fun _ => 0)
  have l0 := len_nq w (.inr (.inl 12)) (fun _ => none) (fun _ => 0)
  have hR0 : Rm (nq w (.inr (.inl 12)) (fun _ => none) (fun _ => 0)) (n + 38) := Rm_nq (n := n + 38) (c := 2) hR (by decide) (by decide)
  obtain ⟨w1, i1, i2, i3, i4, i5, i6, i7, i8, i9, i10, i11⟩ := r_init kn0 (n := n + 20) hR0
  rw [l0] at i2 i3 i4 i5 i6 i7 i8 i11
  have K1 : Kp (fun c => w.1.length ≤ c) w w1 := Kp_tr k0 i9 (fun c hc z => by omega)
  -- the numbers
  have K2 : Kp (fun c => w.1.length ≤ c) w (wr w1 w.1.length (cP W)) := Kp_tr K1 (Kp_wr w1 w.1.length (cP W)) (fun c _ z => by omega)
  have Aq : ∀ P, WA (wr w1 w.1.length P) a L W := fun P => Kp_WA (Kp_tr K1 (Kp_wr w1 w.1.length P) (S := fun c => w.1.length ≤ c) (fun c _ z => by omega)) hA (fun c hc z => by have := hlt hc; omega)
  have A1 : WA w1 a L W := Kp_WA K1 hA (fun c hc z => by have := hlt hc; omega)
  have s1 := i2.1
  -- want
  have hw0 : w.1[L.1 13]? = some (.inl 2) := (WA_s hA).1
  have l13 := hlt (RS_j (a := a) (L := L) (W := W) (j := 13) (by decide) (by decide))
  have e13 : (wr w1 w.1.length (cP W)).2.2 (L.1 13) = w.2.2 (L.1 13) := (K2.2 (L.1 13) l13 (by omega)).2
  have en : nwCI (L.1 13) (wr w1 w.1.length (cP W)) = some (.inl 2, fun _ => none, w.2.2 (L.1 13)) := by
    rw [nwCI_n (n := 2) (WA_s (Aq (cP W))).1, e13]
  have kq : Kn (wr w1 w.1.length (cP W)) w.1.length (.inr (.inl 12)) (iR (w.1.length + 1)) (cP W) := Kn_wr i2 _
  have hR1 : Rm (wr w1 w.1.length (cP W)) (n + 20) := i10
  have lw1 : (wr w1 w.1.length (cP W)).1.length = w.1.length + 7 := i11
  have ka := Kp_nq (fun _ => False) (wr w1 w.1.length (cP W)) (.inl 2) (fun _ => none) (w.2.2 (L.1 13))
  have kq2 := Kn_kp kq ka (fun z => z)
  have kn7 := Kn_nq (wr w1 w.1.length (cP W)) (.inl 2) (fun _ => none) (w.2.2 (L.1 13))
  have hR2 : Rm (nq (wr w1 w.1.length (cP W)) (.inl 2) (fun _ => none) (w.2.2 (L.1 13))) (n + 19) := Rm_nq (n := n + 19) (c := 1) hR1 (by decide) (by decide)
  rw [lw1] at kn7
  have hlen3 := len_nq (wr w1 w.1.length (cP W)) (.inl 2) (fun _ => none) (w.2.2 (L.1 13))
  rw [lw1] at hlen3
  have K3 : Kp (fun c => w.1.length ≤ c) w (nq (wr w1 w.1.length (cP W)) (.inl 2) (fun _ => none) (w.2.2 (L.1 13))) := Kp_tr K2 ka (fun c _ z => z.elim)
  have i5' := Kn_kp (Kn_kp i6 (Kp_wr w1 w.1.length (cP W)) (by omega)) ka (fun z => z)
  have i6' := Kn_kp (Kn_kp i7 (Kp_wr w1 w.1.length (cP W)) (by omega)) ka (fun z => z)
  have s7 := kn7.1
  have Cfin : ∀ w3 : Wd, w3 = nq (wr w1 w.1.length (cP W)) (.inl 2) (fun _ => none) (w.2.2 (L.1 13)) → Cpy w (wo w3 w.1.length (cR w.1.length L)) L W 0 0 := fun w3 e3 => by
    subst e3
    have kw := Kp_wo (nq (wr w1 w.1.length (cP W)) (.inl 2) (fun _ => none) (w.2.2 (L.1 13))) w.1.length (cR w.1.length L)
    refine ⟨Kp_tr K3 kw (fun c _ z => by omega), Kn_wo kq2 _, ?_, ?_, Kn_kp kn7 kw (by omega), fun m hm => by omega, hlen3⟩
    · have e : mR (w.1.length + 8) 0 = fun _ => none := by funext i; unfold mR; rw [if_neg (by omega)]
      rw [e]
      exact Kn_kp i5' kw (by omega)
    · have e : lR L.2.2.1 0 = fun _ => none := by funext i; unfold lR; rw [if_neg (by omega)]
      rw [e]
      exact Kn_kp i6' kw (by omega)
  have Aw : ∀ ρ, WA (wo (nq (wr w1 w.1.length (cP W)) (.inl 2) (fun _ => none) (w.2.2 (L.1 13))) w.1.length ρ) a L W := fun ρ => Kp_WA (Kp_tr K3 (Kp_wo _ w.1.length ρ) (S := fun c => w.1.length ≤ c) (fun c _ z => by omega)) hA (fun c hc z => by have := hlt hc; omega)
  obtain ⟨w', q1, q2, q3⟩ := r_copyM hA hW n (nmen W) 0 FU _ (by omega) (by show _ < 10000; omega) (Cfin _ rfl) (Rm_le (Rm_wo hR2) (by omega))
  have A' := Cpy_WA q2 hA
  obtain ⟨z1, z2, z3, z4, z5, z6, z7⟩ := id q2
  have hl : w.1.length ≤ w'.1.length := by omega
  have Kf : Kp (fun _ => False) w w' := ⟨z1.1, fun c hc _ => z1.2 c hc (by omega)⟩
  have WA' : WA w' w.1.length (cL w.1.length L) W := by
    obtain ⟨g1, g2, g3, g4, g5, g6, g7, g8⟩ := A'
    obtain ⟨r1, r2, r3, r4, r5, r6⟩ := id g3
    refine ⟨?_, ⟨z2.1, fun j j1 j2 => ?_, ?_⟩, ⟨?_, r2, r3, ?_, ?_, r6⟩, ⟨fun c hc => ?_, g4.2⟩, ⟨fun m hm => ?_, fun m k hm hk e => ?_⟩, fun i hi => ?_, g7, g8⟩
    · unfold WAi
      rw [z2.2.2]
      exact ⟨rfl, rfl, rfl, rfl, rfl, rfl, rfl, rfl, rfl, rfl, rfl, rfl⟩
    · rw [z2.2.1]
      rcases (by omega : j = 13 ∨ j = 14 ∨ j = 15 ∨ j = 16 ∨ j = 17 ∨ j = 18) with rfl | rfl | rfl | rfl | rfl | rfl <;> rfl
    · rw [z2.2.1]
      rfl
    · exact z5.1
    · exact z3.1
    · exact z4.1
    · show w'.2.2 (w.1.length + 7) c = _
      rw [z5.2.2]
      exact (WA_v hA).1 c hc
    · have p := (WA_m hA).1 m hm
      have y := z6 m hm
      refine ⟨?_, y.1, ?_⟩
      · show w'.2.1 (w.1.length + 4) m = _
        rw [z3.2.1]
        exact if_pos hm
      · show w'.2.2 (w.1.length + 8 + m) 0 = _ ∧ w'.2.2 (w.1.length + 8 + m) 1 = _ ∧ w'.2.2 (w.1.length + 8 + m) 2 = _ ∧ w'.2.2 (w.1.length + 8 + m) 3 = _ ∧ w'.2.2 (w.1.length + 8 + m) 4 = _ ∧ w'.2.2 (w.1.length + 8 + m) 5 = _ ∧ w'.2.2 (w.1.length + 8 + m) 6 = _ ∧ (_ → w'.2.2 (w.1.length + 8 + m) 7 = _) ∧ (_ → w'.2.2 (w.1.length + 8 + m) 8 = _)
        rw [y.2.2]
        exact p.2.2
    · have e' : w.1.length + 8 + m = w.1.length + 8 + k := e
      omega
    · have p := g6 i hi
      refine ⟨?_, p.2⟩
      show w'.2.1 (w.1.length + 5) i = _
      rw [z4.2.1]
      exact if_pos hi
  have hRS : ∀ c, RS w.1.length (cL w.1.length L) W c → w.1.length ≤ c ∨ Sh L W c := fun c hc => by
    rcases hc with rfl | ⟨j, j1, j2, rfl⟩ | ⟨m, hm, rfl⟩ | ⟨i, hi, rfl⟩ | ⟨i, hi, rfl⟩ | hq
    · exact Or.inl (Nat.le_refl _)
    · rcases (by omega : j = 13 ∨ j = 14 ∨ j = 15 ∨ j = 16 ∨ j = 17 ∨ j = 18) with rfl | rfl | rfl | rfl | rfl | rfl
      · exact Or.inl (show w.1.length ≤ w.1.length + 7 by omega)
      · exact Or.inr (Or.inl rfl)
      · exact Or.inr (Or.inr (Or.inl rfl))
      · exact Or.inl (show w.1.length ≤ w.1.length + 4 by omega)
      · exact Or.inl (show w.1.length ≤ w.1.length + 5 by omega)
      · exact Or.inr (Or.inr (Or.inr (Or.inl rfl)))
    · exact Or.inl (show w.1.length ≤ w.1.length + 8 + m by omega)
    · exact Or.inr (Or.inr (Or.inr (Or.inr (Or.inl ⟨i, hi, rfl⟩))))
    · exact Or.inr (Or.inr (Or.inr (Or.inr (Or.inr (Or.inl ⟨i, hi, rfl⟩)))))
    · exact Or.inr (Or.inr (Or.inr (Or.inr (Or.inr (Or.inr hq)))))
  refine ⟨w', w.1.length, cL w.1.length L, ?_, ⟨WA', Kp_OKs Kf ho (fun c _ => Or.inl (fun z => z)), hW, fun c hc => ?_⟩, Kf, q3, fun c hc => ?_, hRS, z2.1⟩
  · unfold DX12_copy
    rw [b_nw (show nwO 12 w = some (.inr (.inl 12), fun _ => none, fun _ => 0) from rfl) (n := n + 38) (c := 2) hR (by decide) (by decide), b_rd (show isC w.1.length 12 _ = some () from if_pos kn0.1), b_ok i1]
    rw [b_rd (g_0 A1), b_fi i2 0, b_rd (g_1 (Aq _)), b_fld s1 1, b_rd (g_2 (Aq _)), b_fld s1 2, b_rd (g_3 (Aq _)), b_fld s1 3, b_rd (g_4 (Aq _)), b_fld s1 4, b_rd (g_5 (Aq _)), b_fld s1 5, b_rd (g_6 (Aq _)), b_fld s1 6, b_rd (g_7 (Aq _)), b_fld s1 7, b_rd (g_8 (Aq _)), b_fld s1 8, b_rd (g_9 (Aq _)), b_fld s1 9, b_rd (g_10 (Aq _)), b_fld s1 10, b_rd (g_R (Aq _) 13 (by decide) (by decide))]
    have en' := b_nw (k := fun x27 => dbind (dread (isI x27)) fun x28 => dbind (dput (pfO w.1.length 12 13 (some x27))) fun _ => dbind (dread (gfR a 12 14)) fun x30 => dbind (dput (pfO w.1.length 12 14 (some x30))) fun _ => dbind (dread (gfR a 12 15)) fun x32 => dbind (dput (pfO w.1.length 12 15 (some x32))) fun _ => dbind (dread (gfR a 12 18)) fun x34 => dbind (dput (pfO w.1.length 12 18 (some x34))) fun _ => dbind (dread (gfO a 12 19)) fun x36 => dopt x36 (dbind (dput (pfO w.1.length 12 19 none)) fun _ => DX12_copy_L144 FU a w.1.length 0) (fun r37 => dbind (dput (pfO w.1.length 12 19 (some r37))) fun _ => DX12_copy_L144 FU a w.1.length 0)) en (n := n + 19) (c := 1) hR1 (by decide) (by decide)
    refine en'.trans ?_
    rw [lw1, b_rd (isI_n s7), b_po kq2 13, b_rd (g_R (Aw _) 14 (by decide) (by decide)), b_p2 kq2 14, b_rd (g_R (Aw _) 15 (by decide) (by decide)), b_p2 kq2 15, b_rd (g_R (Aw _) 18 (by decide) (by decide)), b_p2 kq2 18, b_rd (g_O (Aw _))]
    have q1' : (DX12_copy_L144 FU a w.1.length 0).1 (wo (nq (wr w1 w.1.length (cP W)) (.inl 2) (fun _ => none) (w.2.2 (L.1 13))) w.1.length (cR w.1.length L)) = _ := q1
    unfold cR at q1'
    cases eq : L.2.2.2.2 with
    | none =>
      rw [eq] at q1'
      rw [u_on, b_p2 kq2 19]
      exact q1'
    | some d =>
      rw [eq] at q1'
      rw [u_os, b_p2 kq2 19]
      exact q1'
  · rcases hRS c hc with z | z
    · omega
    · exact hb c (Sh_RS z)
  · rcases hc with rfl | rfl | rfl | ⟨m, hm, rfl⟩
    · exact Nat.le_refl _
    · show w.1.length ≤ w.1.length + 7
      omega
    · show w.1.length ≤ w.1.length + 5
      omega
    · show w.1.length ≤ w.1.length + 8 + m
      omega
