/-! room; new cells -/
def Rm (w : Wd) (n : Nat) : Prop := w.1.length + n ≤ 590000 ∧ ssum w.1 + 12 * n ≤ 7080000
theorem Rm_le {w : Wd} {n m : Nat} (h : Rm w n) (k : m ≤ n) : Rm w m := ⟨by have := h.1; omega, by have := h.2; omega⟩
theorem Rm_e {w w' : Wd} {n : Nat} (h : Rm w n) (e : w'.1 = w.1) : Rm w' n := by
  unfold Rm
  rw [e]
  exact h
def nq (w : Wd) (s : Shp) (ρ : Nat → Option Nat) (P : Wt) : Wd := (w.1 ++ [s], rrow w.2.1 w.1.length ρ, mset w.2.2 w.1.length P)
theorem nq_s (w : Wd) (s : Shp) (ρ : Nat → Option Nat) (P : Wt) : (nq w s ρ P).1[w.1.length]? = some s := by
  show (w.1 ++ [s])[w.1.length]? = _
  rw [List.getElem?_append_right (Nat.le_refl _), Nat.sub_self]
  rfl
theorem Rm_nq {w : Wd} {s : Shp} {ρ : Nat → Option Nat} {P : Wt} {n c : Nat} (h : Rm w (n + c)) (h1 : 1 ≤ c) (hs : ssz s ≤ 12 * c) : Rm (nq w s ρ P) n := by
  obtain ⟨a, b⟩ := h
  refine ⟨?_, ?_⟩
  · show (w.1 ++ [s]).length + n ≤ _
    rw [List.length_append]
    simp only [List.length_cons, List.length_nil]
    omega
  · show ssum (w.1 ++ [s]) + _ ≤ _
    have e : ssum (w.1 ++ [s]) = ssum w.1 + ssz s := by simp [ssum]
    rw [e]
    omega
theorem b_nw {β : Type} {f : Wd → Option (Shp × (Nat → Option Nat) × (Nat → Int32))} {k : Nat → Dm β} {w : Wd} {s : Shp} {ρ : Nat → Option Nat} {P : Wt} {n c : Nat} (h : f w = some (s, ρ, P)) (hR : Rm w (n + c)) (h1 : 1 ≤ c) (hs : ssz s ≤ 12 * c) : (dbind (dnew f) k).1 w = (k w.1.length).1 (nq w s ρ P) := by
  obtain ⟨a, b⟩ := hR
  rw [u_bd]
  have e : (dnew f).1 w = some (w.1.length, nq w s ρ P) := by
    show (f w).bind _ = _
    rw [h]
    show (if w.1.length + 1 ≤ 590000 ∧ ssum w.1 + ssz s ≤ 7080000 then _ else _) = _
    rw [if_pos ⟨by omega, by omega⟩]
    rfl
  rw [e]
  rfl
theorem nwI_n {n : Nat} (h : n < 2147483648) (w : Wd) : nwI (nI n) w = some (.inl n, fun _ => none, fun _ => 0) := by
  unfold nwI
  rw [if_neg (nI_pos (by omega)), nI_clamp (by omega)]
theorem Kp_nq (S : Nat → Prop) (w : Wd) (s : Shp) (ρ : Nat → Option Nat) (P : Wt) : Kp S w (nq w s ρ P) := ⟨⟨[s], rfl⟩, fun c hc _ => ⟨if_neg (by omega), if_neg (by omega)⟩⟩
theorem ia_nq {β : Type} {k : Unit → Dm β} {w : Wd} {n : Nat} {ρ : Nat → Option Nat} {P : Wt} {q : Nat} (e : q = w.1.length) (i : Nat) (ii x : Int32) (ei : ii = nI i) (hi : i < n) (hn : n < 2147483648) : (dbind (dput (iast q ii x)) k).1 (nq w (.inl n) ρ P) = (k ()).1 (nq w (.inl n) ρ (upd P i x)) := by
  subst e
  subst ei
  refine b_pt ?_
  unfold iast
  rw [nq_s]
  show (wrA (mset w.2.2 w.1.length P) w.1.length n (nI i) x).map _ = _
  rw [w_ok hi hn, mu_ms]
  rfl
abbrev CL (c : Nat) : Prop := c < 146
theorem St_kp {S : Nat → Prop} {w w' : Wd} {g : Mem} {a : Nat} {L : Lay} (h : St w g a L) (k : Kp S w w') (h1 : ∀ c, c < 146 → ¬ S c) (h2 : ∀ c, RS a L (g 147) c → ¬ S c) : St w' g a L := by
  have hl := OKs_len h.1
  exact ⟨Kp_OKs k h.1 (fun c hc => Or.inl (h1 c hc)), SP_cg (fun c hc => (k.2 c (by omega) (h1 c hc)).2) h.2.1, Kp_WA k h.2.2.1 h2, h.2.2.2⟩
theorem St_nq {w : Wd} {g : Mem} {a : Nat} {L : Lay} (h : St w g a L) (s : Shp) (ρ : Nat → Option Nat) (P : Wt) : St (nq w s ρ P) g a L := St_kp h (Kp_nq (fun _ => False) w s ρ P) (fun _ _ z => z) (fun _ _ z => z)
/-! a War is told to be the same as the system -/
theorem St_T {w : Wd} {g : Mem} {a : Nat} {L : Lay} (h : St w g a L) : OkT (g 147) := h.2.1.1.1
theorem b_R {β : Type} {f : Mem → Option Int32} {k : Int32 → Dm β} {w : Wd} {x : Int32} (ho : OKs w) (h : f w.2.2 = some x) : (dbind (dclR f) k).1 w = (k x).1 w := b_ok (dclR_ok ho h)
theorem b_W0 {β : Type} {f : Mem → Option (Int32 × Mem)} {k : Int32 → Dm β} {w : Wd} {x : Int32} (ho : OKs w) (h : f w.2.2 = some (x, w.2.2)) : (dbind (dclW f) k).1 w = (k x).1 w := b_ok (dclW_ok ho h)
def lkV (W : Wt) : Nat → Int32
  | 0 => W 78
  | 1 => W 0
  | 2 => W 1
  | 3 => W 79
  | 4 => W 80
  | 5 => W 81
  | 6 => sHills W
  | 7 => W 3
  | _ => W 2
theorem s_lookk {v g : Mem} (h : SP v g) {i : Nat} (hi : i < 9) : FX11_look_0 (nI i) v = some (lkV (g 147) i) := by
  rcases (by omega : i = 0 ∨ i = 1 ∨ i = 2 ∨ i = 3 ∨ i = 4 ∨ i = 5 ∨ i = 6 ∨ i = 7 ∨ i = 8) with rfl | rfl | rfl | rfl | rfl | rfl | rfl | rfl | rfl
  · exact s_look0 h
  · exact s_look1 h
  · exact s_look2 h
  · exact s_look3 h
  · exact s_look4 h
  · exact s_look5 h
  · exact s_look6 h
  · exact s_look7 h
  · exact s_look8 h
theorem is_409 {w : Wd} {g : Mem} {a : Nat} {L : Lay} (h : St w g a L) {q : Nat} (hq : w.1[q]? = some (.inl 9)) (hv : ∀ i, i < 9 → w.2.2 q i = lkV (g 147) i) : ∀ (k i F : Nat), i + k = 9 → k < F → (DX12_isSame_L409 F a q (nI i)).1 w = some (1, w) := by
  intro k
  induction k with
  | zero =>
    intro i F hi hF
    obtain ⟨F, rfl⟩ : ∃ F', F = F' + 1 := ⟨F - 1, by omega⟩
    show (DX12_isSame_b409 _ _ _ _).1 w = _
    unfold DX12_isSame_b409
    have hi : i = 9 := by omega
    subst hi
    rw [i_t (by decide), b_rd (g_6 h.2.2.1), b_W0 h.1 (s_ofN h.2.1 0), i_t rfl, b_rd (g_7 h.2.2.1), b_R h.1 (s_bookN h.2.1), i_t rfl, b_R h.1 (show FX11_look_0 10 w.2.2 = some (g 147 85) from s_look10 h.2.1), b_rd (g_9 h.2.2.1), i_t rfl, b_R h.1 (show FX11_look_0 12 w.2.2 = some (g 147 87) from s_look12 h.2.1), b_rd (g_10 h.2.2.1), i_t rfl, u_rt]
  | succ k ih =>
    intro i F hi hF
    obtain ⟨F, rfl⟩ : ∃ F', F = F' + 1 := ⟨F - 1, by omega⟩
    show (DX12_isSame_b409 _ _ _ _).1 w = _
    unfold DX12_isSame_b409
    have q1 := ih (i + 1) F (by omega) (by omega)
    rw [nI_succ] at q1
    rw [i_f (by rw [show (9 : Int32) = nI 9 by decide, nn_le (by decide) (by omega)]; omega), b_R h.1 (s_lookk h.2.1 (by omega)), b_rd (ia_k hq i (nI i) rfl (by omega) (by decide)), hv i (by omega), i_t rfl]
    exact q1
theorem is_300 {w : Wd} {g : Mem} {a : Nat} {L : Lay} (h : St w g a L) {i : Nat} (hi : i < nt (g 147 3)) (kk : Nat → Int32 → Dm Int32) : ∀ (k j F : Nat), j + k = 4 → k < F → (DX12_isSame_L300 kk F a (nI i) (nI j)).1 w = (kk a (nI i + 1)).1 w := by
  obtain ⟨n3, hL3, eL3⟩ := OkD_ln h.2.1.1.2.1
  have hn : nt (g 147 3) ≤ 150 := by rw [eL3, nt_nI (by omega)]; exact hL3
  intro k
  induction k with
  | zero =>
    intro j F hj hF
    obtain ⟨F, rfl⟩ : ∃ F', F = F' + 1 := ⟨F - 1, by omega⟩
    show (DX12_isSame_b300 _ _ _ _ _).1 w = _
    unfold DX12_isSame_b300
    have hj : j = 4 := by omega
    subst hj
    rw [i_t (by decide)]
  | succ k ih =>
    intro j F hj hF
    obtain ⟨F, rfl⟩ : ∃ F', F = F' + 1 := ⟨F - 1, by omega⟩
    show (DX12_isSame_b300 _ _ _ _ _).1 w = _
    unfold DX12_isSame_b300
    have q1 := ih (j + 1) F (by omega) (by omega)
    rw [nI_succ] at q1
    obtain ⟨k1, k2, k3⟩ := (WA_l h.2.2.1) i hi
    rw [i_f (by rw [show (4 : Int32) = nI 4 by decide, nn_le (by decide) (by omega)]; omega), b_R h.1 (s_book h.2.1 hi (by omega)), b_rd (g_R h.2.2.1 17 (by decide) (by decide)), b_rd (aa_k (WA_s h.2.2.1).2.2.2.2.1 i (by omega) (by decide) k1), b_rd (ia_k k2 j (nI j) rfl (by omega) (by decide)), k3 j (by omega), i_t rfl]
    exact q1
theorem is_290e {w : Wd} {g : Mem} {a : Nat} {L : Lay} {n : Nat} (h : St w g a L) (hR : Rm w (n + 1)) (kk : Nat → Int32 → Dm Int32) : ∃ w', (DX12_isSame_b290 kk a (g 147 3)).1 w = some (1, w') ∧ St w' g a L ∧ Rm w' n ∧ Kp CL w w' := by
  unfold DX12_isSame_b290
  rw [b_rd (g_7 h.2.2.1), i_t (Int32.le_refl _), b_nw (show nwI 9 w = _ from nwI_n (n := 9) (by decide) w) hR (by decide) (by decide)]
  have S : ∀ P, St (nq w (.inl 9) (fun _ => none) P) g a L := fun P => St_nq h _ _ P
  rw [b_rd (g_6 (S _).2.2.1), ia_nq rfl 0 0 _ (by decide) (by decide) (by decide), b_rd (g_1 (S _).2.2.1), ia_nq rfl 1 1 _ (by decide) (by decide) (by decide)]
  rw [b_rd (g_2 (S _).2.2.1), ia_nq rfl 2 2 _ (by decide) (by decide) (by decide), b_rd (g_3 (S _).2.2.1), ia_nq rfl 3 3 _ (by decide) (by decide) (by decide)]
  rw [b_rd (g_4 (S _).2.2.1), ia_nq rfl 4 4 _ (by decide) (by decide) (by decide), b_rd (g_5 (S _).2.2.1), ia_nq rfl 5 5 _ (by decide) (by decide) (by decide)]
  rw [b_rd (g_8 (S _).2.2.1), ia_nq rfl 6 6 _ (by decide) (by decide) (by decide), b_rd (g_7 (S _).2.2.1), ia_nq rfl 7 7 _ (by decide) (by decide) (by decide)]
  rw [b_rd (g_0 (S _).2.2.1), ia_nq rfl 8 8 _ (by decide) (by decide) (by decide)]
  have key : ∀ P : Wt, (∀ i, i < 9 → P i = lkV (g 147) i) → ∃ w', (DX12_isSame_L409 FU a w.1.length 0).1 (nq w (.inl 9) (fun _ => none) P) = some (1, w') ∧ St w' g a L ∧ Rm w' n ∧ Kp CL w w' := fun P hP => by
    refine ⟨nq w (.inl 9) (fun _ => none) P, is_409 (S P) (nq_s _ _ _ _) ?_ 9 0 FU (by omega) (by show _ < 10000; omega), S P, Rm_nq hR (by decide) (by decide), Kp_nq _ _ _ _ _⟩
    intro i hi
    show (mset w.2.2 w.1.length _) w.1.length i = _
    rw [ms_eq, hP i hi]
  refine key _ (fun i hi => ?_)
  rcases (by omega : i = 0 ∨ i = 1 ∨ i = 2 ∨ i = 3 ∨ i = 4 ∨ i = 5 ∨ i = 6 ∨ i = 7 ∨ i = 8) with rfl | rfl | rfl | rfl | rfl | rfl | rfl | rfl | rfl <;> rfl
theorem is_290 {w : Wd} {g : Mem} {a : Nat} {L : Lay} {n : Nat} (h : St w g a L) (hR : Rm w (n + 1)) : ∀ (k i F : Nat), i + k = nt (g 147 3) → k < F → ∃ w', (DX12_isSame_L290 F a (nI i)).1 w = some (1, w') ∧ St w' g a L ∧ Rm w' n ∧ Kp CL w w' := by
  obtain ⟨n3, hL3, eL3⟩ := OkD_ln h.2.1.1.2.1
  have hn : nt (g 147 3) ≤ 150 := by rw [eL3, nt_nI (by omega)]; exact hL3
  have en : g 147 3 = nI (nt (g 147 3)) := by rw [eL3, nt_nI (by omega)]
  intro k
  induction k with
  | zero =>
    intro i F hi hF
    obtain ⟨F, rfl⟩ : ∃ F', F = F' + 1 := ⟨F - 1, by omega⟩
    show ∃ w', (DX12_isSame_b290 _ _ _).1 w = _ ∧ _
    have e : nI i = g 147 3 := by rw [en]; congr 1
    rw [e]
    exact is_290e h hR _
  | succ k ih =>
    intro i F hi hF
    obtain ⟨F, rfl⟩ : ∃ F', F = F' + 1 := ⟨F - 1, by omega⟩
    show ∃ w', (DX12_isSame_b290 _ _ _).1 w = _ ∧ _
    obtain ⟨w', q1, q2⟩ := ih (i + 1) F (by omega) (by omega)
    rw [nI_succ] at q1
    refine ⟨w', ?_, q2⟩
    unfold DX12_isSame_b290
    rw [b_rd (g_7 h.2.2.1), i_f (by rw [en, nn_le (by omega) (by omega)]; omega), show (0 : Int32) = nI 0 by decide, is_300 h (by omega) _ 4 0 FU (by omega) (by show _ < 10000; omega)]
    exact q1
theorem is_260 {w : Wd} {g : Mem} {a : Nat} {L : Lay} {n : Nat} (h : St w g a L) (hR : Rm w (n + 1)) : ∀ (k i F : Nat), i + k = 8 → k < F → ∃ w', (DX12_isSame_L260 F a (nI i)).1 w = some (1, w') ∧ St w' g a L ∧ Rm w' n ∧ Kp CL w w' := by
  obtain ⟨n3, hL3, eL3⟩ := OkD_ln h.2.1.1.2.1
  have hn : nt (g 147 3) ≤ 150 := by rw [eL3, nt_nI (by omega)]; exact hL3
  intro k
  induction k with
  | zero =>
    intro i F hi hF
    obtain ⟨F, rfl⟩ : ∃ F', F = F' + 1 := ⟨F - 1, by omega⟩
    show ∃ w', (DX12_isSame_b260 _ _ _).1 w = _ ∧ _
    have hi : i = 8 := by omega
    subst hi
    obtain ⟨w', q1, q2⟩ := is_290 h hR (nt (g 147 3)) 0 FU (by omega) (by show _ < 10000; omega)
    refine ⟨w', ?_, q2⟩
    unfold DX12_isSame_b260
    rw [i_t (by decide)]
    exact q1
  | succ k ih =>
    intro i F hi hF
    obtain ⟨F, rfl⟩ : ∃ F', F = F' + 1 := ⟨F - 1, by omega⟩
    show ∃ w', (DX12_isSame_b260 _ _ _).1 w = _ ∧ _
    obtain ⟨w', q1, q2⟩ := ih (i + 1) F (by omega) (by omega)
    rw [nI_succ] at q1
    refine ⟨w', ?_, q2⟩
    unfold DX12_isSame_b260
    rw [i_f (by rw [show (8 : Int32) = nI 8 by decide, nn_le (by decide) (by omega)]; omega), b_R h.1 (s_weight h.2.1 (by omega)), b_rd (g_R h.2.2.1 15 (by decide) (by decide)), b_rd (g_we h.2.2.1 (by omega)), i_t rfl]
    exact q1
theorem g_wa {w : Wd} {a : Nat} {L : Lay} {W : Wt} (h : WA w a L W) {c : Nat} (hc : c < 2) : iald (L.1 13) (nI c) w = some (W (82 + c)) := by
  rw [ia_k (WA_s h).1 c (nI c) rfl hc (by decide), (WA_v h).1 c hc]
theorem is_162 {w : Wd} {g : Mem} {a : Nat} {L : Lay} {n : Nat} (h : St w g a L) (hR : Rm w (n + 1)) : ∀ (k i F : Nat), i + k = 2 → k < F → ∃ w', (DX12_isSame_L162 F a (nI i)).1 w = some (1, w') ∧ St w' g a L ∧ Rm w' n ∧ Kp CL w w' := by
  have A := h.2.2.1
  have hT := St_T h
  intro k
  induction k with
  | zero =>
    intro i F hi hF
    obtain ⟨F, rfl⟩ : ∃ F', F = F' + 1 := ⟨F - 1, by omega⟩
    show ∃ w', (DX12_isSame_b162 _ _ _).1 w = _ ∧ _
    have hi : i = 2 := by omega
    subst hi
    obtain ⟨w', q1, q2⟩ := is_260 h hR 8 0 FU (by omega) (by show _ < 10000; omega)
    refine ⟨w', ?_, q2⟩
    unfold DX12_isSame_b162
    rw [i_t (by decide)]
    exact q1
  | succ k ih =>
    intro i F hi hF
    obtain ⟨F, rfl⟩ : ∃ F', F = F' + 1 := ⟨F - 1, by omega⟩
    show ∃ w', (DX12_isSame_b162 _ _ _).1 w = _ ∧ _
    obtain ⟨w', q1, q2⟩ := ih (i + 1) F (by omega) (by omega)
    rw [nI_succ] at q1
    refine ⟨w', ?_, q2⟩
    obtain ⟨s1, s2, s3, s4, s5⟩ := s_country h.2.1 (show i < 2 by omega)
    unfold DX12_isSame_b162
    rw [i_f (by rw [show (2 : Int32) = nI 2 by decide, nn_le (by decide) (by omega)]; omega), b_R h.1 s1, b_rd (g_C A), b_ok (r_field A hT _), i_t rfl]
    rw [b_R h.1 s2, b_rd (g_C A), b_ok (r_knows A hT _), i_t rfl]
    rw [b_R h.1 s3, b_rd (g_C A), b_ok (r_knows A hT _), b_rd (g_C A), b_ok (r_weighs A _), i_t rfl]
    rw [b_R h.1 s4, b_rd (g_R A 13 (by decide) (by decide)), b_rd (g_wa A (by omega)), i_t rfl]
    rw [b_R h.1 s5, b_rd (g_C A), b_ok (r_rests A hT _)]
    rcases rest_01 (g 147) (nI i) with z | z
    · rw [z, i_t rfl]
      unfold DX12_isSame_b247
      rw [i_t rfl]
      exact q1
    · rw [z, i_f (by decide)]
      unfold DX12_isSame_b247
      rw [i_t rfl]
      exact q1
/-- of() may write in its own rows -/
theorem b_of {w : Wd} {g : Mem} {a : Nat} {L : Lay} {n m k : Nat} (h : St w g a L) (hR : Rm w n) (hm : m < nmen (g 147)) (hk : k < 15) {q : Int32} (e : q = nI k) : ∃ w1, St w1 g a L ∧ Rm w1 n ∧ Kp CL w w1 ∧ ∀ kk : Int32 → Dm Int32, (dbind (dclW (fun u => FX11_of_0 (nI m) q u)) kk).1 w = (kk (ofV (g 147) m k)).1 w1 := by
  subst e
  obtain ⟨v', q1, q2⟩ := s_of h.2.1 hm hk
  have fr := frX11_of_0 _ _ _ q1
  have hv : ∀ c, 146 ≤ c → v' c = w.2.2 c := fun c hc => fr c (by simp; omega)
  exact ⟨(w.1, w.2.1, v'), St_cl h hv q2 rfl, Rm_e hR rfl, Kp_cl w v' hv, fun kk => b_ok (dclW_ok h.1 q1)⟩
theorem K_tr {w w' w'' : Wd} (h : Kp CL w w') (k : Kp CL w' w'') : Kp CL w w'' := Kp_tr h k (fun _ _ z => z)
abbrev IsK (g : Mem) (a : Nat) (L : Lay) (n : Nat) (k2 : Nat → Int32 → Dm Int32) (i : Int32) : Prop := ∀ w, St w g a L → Rm w (n + 1) → ∃ w', (k2 a i).1 w = some (1, w') ∧ St w' g a L ∧ Rm w' n ∧ Kp CL w w'
theorem of_10 (W : Wt) (m : Nat) {j : Nat} (hj : j < 4) : ofV W m (10 + j) = dAsk W j m := by
  rcases (by omega : j = 0 ∨ j = 1 ∨ j = 2 ∨ j = 3) with rfl | rfl | rfl | rfl <;> rfl
theorem is_120 {g : Mem} {a : Nat} {L : Lay} {n m : Nat} (hm : m < nmen (g 147)) {k2 : Nat → Int32 → Dm Int32} (hk2 : IsK g a L n k2 (nI m + 1)) : ∀ (k j F : Nat) (w : Wd), St w g a L → Rm w (n + 1) → j + k = 4 → k < F → ∃ w', (DX12_isSame_L120 k2 F a (nI m) (nI j)).1 w = some (1, w') ∧ St w' g a L ∧ Rm w' n ∧ Kp CL w w' := by
  intro k
  induction k with
  | zero =>
    intro j F w h hR hj hF
    obtain ⟨F, rfl⟩ : ∃ F', F = F' + 1 := ⟨F - 1, by omega⟩
    show ∃ w', (DX12_isSame_b120 _ _ _ _ _).1 w = _ ∧ _
    unfold DX12_isSame_b120
    have hj : j = 4 := by omega
    subst hj
    rw [i_t (by decide)]
    exact hk2 w h hR
  | succ k ih =>
    intro j F w h hR hj hF
    obtain ⟨F, rfl⟩ : ∃ F', F = F' + 1 := ⟨F - 1, by omega⟩
    show ∃ w', (DX12_isSame_b120 _ _ _ _ _).1 w = _ ∧ _
    unfold DX12_isSame_b120
    obtain ⟨w1, a1, a2, a3, a4⟩ := b_of h hR hm (show 10 + j < 15 by omega) (show (10 + nI j : Int32) = nI (10 + j) by rw [← nI_add]; rfl)
    obtain ⟨w', q1, q2, q3, q4⟩ := ih (j + 1) F w1 a1 a2 (by omega) (by omega)
    rw [nI_succ] at q1
    refine ⟨w', ?_, q2, q3, K_tr a3 q4⟩
    have hs : (DX12_says a (nI j) (nI m)).1 w1 = some (dAsk (g 147) j m, w1) := by
      rcases (by omega : j = 0 ∨ j = 1 ∨ j = 2 ∨ j = 3) with rfl | rfl | rfl | rfl
      · exact r_says0 a1.2.2.1 a1.1 a1.2.1.1 hm (by decide)
      · exact r_says0 a1.2.2.1 a1.1 a1.2.1.1 hm (by decide)
      · exact r_says0 a1.2.2.1 a1.1 a1.2.1.1 hm (by decide)
      · exact r_says0 a1.2.2.1 a1.1 a1.2.1.1 hm (by decide)
    rw [i_f (by rw [show (4 : Int32) = nI 4 by decide, nn_le (by decide) (by omega)]; omega), a4, b_rd (g_C a1.2.2.1), b_ok hs, of_10 _ _ (by omega), i_t rfl]
    exact q1
theorem g_te {w : Wd} {a : Nat} {L : Lay} {W : Wt} (h : WA w a L W) {m : Nat} (hm : m < 12) : iald (L.1 14) (nI m) w = some (sTold W (nI m)) := by
  rw [ia_k (WA_s h).2.1 m (nI m) rfl hm (by decide), (WA_v h).2.1 m hm]
theorem is_72 {g : Mem} {a : Nat} {L : Lay} {n m : Nat} (hm : m < nmen (g 147)) {k2 : Nat → Int32 → Dm Int32} (hk2 : IsK g a L n k2 (nI m + 1)) {w : Wd} (h : St w g a L) (hR : Rm w (n + 1)) (x : Int32) : ∃ w', (DX12_isSame_b72 k2 a (nI m) x x).1 w = some (1, w') ∧ St w' g a L ∧ Rm w' n ∧ Kp CL w w' := by
  unfold DX12_isSame_b72
  have hm12 : m < 12 := Nat.lt_of_lt_of_le hm (OkT_n (St_T h)).2
  obtain ⟨w1, a1, a2, a3, a4⟩ := b_of h hR hm (show 8 < 15 by decide) (show (8 : Int32) = nI 8 by decide)
  obtain ⟨w2, b1, b2, b3, b4⟩ := b_of a1 a2 hm (show 9 < 15 by decide) (show (9 : Int32) = nI 9 by decide)
  obtain ⟨w3, c1, c2, c3, c4⟩ := b_of b1 b2 hm (show 14 < 15 by decide) (show (14 : Int32) = nI 14 by decide)
  obtain ⟨w', q1, q2, q3, q4⟩ := is_120 hm hk2 4 0 FU w3 c1 c2 (by omega) (by show _ < 10000; omega)
  refine ⟨w', ?_, q2, q3, K_tr a3 (K_tr b3 (K_tr c3 q4))⟩
  rw [i_t rfl, a4, b_rd (g_R a1.2.2.1 14 (by decide) (by decide)), b_rd (g_te a1.2.2.1 hm12), i_t (show ofV (g 147) m 8 = sTold (g 147) (nI m) from rfl), b4, i_t (show ofV (g 147) m 9 = -2 from rfl), c4, i_t (show ofV (g 147) m 14 = -2 from rfl)]
  exact q1
theorem is_20 {g : Mem} {a : Nat} {L : Lay} {n m : Nat} (hm : m < nmen (g 147)) {k2 : Nat → Int32 → Dm Int32} (hk2 : IsK g a L n k2 (nI m + 1)) : ∀ (k j F : Nat) (w : Wd), St w g a L → Rm w (n + 1) → j + k = 7 → k < F → ∃ w', (DX12_isSame_L20 k2 F a (nI m) (L.2.1 m) (nI j)).1 w = some (1, w') ∧ St w' g a L ∧ Rm w' n ∧ Kp CL w w' := by
  intro k
  induction k with
  | zero =>
    intro j F w h hR hj hF
    obtain ⟨F, rfl⟩ : ∃ F', F = F' + 1 := ⟨F - 1, by omega⟩
    show ∃ w', (DX12_isSame_b20 _ _ _ _ _ _).1 w = _ ∧ _
    unfold DX12_isSame_b20
    have hj : j = 7 := by omega
    subst hj
    obtain ⟨w1, a1, a2, a3, a4⟩ := b_of h hR hm (show 7 < 15 by decide) (show (7 : Int32) = nI 7 by decide)
    rw [i_t (by decide), a4, b_rd (g_m6 a1.2.2.1 hm)]
    by_cases c1 : g 147 (40 + m) = 1
    · rw [i_t c1, b_rd (g_m7 a1.2.2.1 hm c1)]
      have e : ofV (g 147) m 7 = g 147 (52 + m) := if_pos c1
      rw [e]
      obtain ⟨w', q1, q2, q3, q4⟩ := is_72 hm hk2 a1 a2 (g 147 (52 + m))
      exact ⟨w', q1, q2, q3, K_tr a3 q4⟩
    · rw [i_f c1]
      have e : ofV (g 147) m 7 = -1 := if_neg c1
      rw [e]
      obtain ⟨w', q1, q2, q3, q4⟩ := is_72 hm hk2 a1 a2 (-1)
      exact ⟨w', q1, q2, q3, K_tr a3 q4⟩
  | succ k ih =>
    intro j F w h hR hj hF
    obtain ⟨F, rfl⟩ : ∃ F', F = F' + 1 := ⟨F - 1, by omega⟩
    show ∃ w', (DX12_isSame_b20 _ _ _ _ _ _).1 w = _ ∧ _
    unfold DX12_isSame_b20
    obtain ⟨w1, a1, a2, a3, a4⟩ := b_of h hR hm (show j < 15 by omega) rfl
    obtain ⟨w', q1, q2, q3, q4⟩ := ih (j + 1) F w1 a1 a2 (by omega) (by omega)
    rw [nI_succ] at q1
    refine ⟨w', ?_, q2, q3, K_tr a3 q4⟩
    have hs : iald (L.2.1 m) (nI j) w1 = some (ofV (g 147) m j) := by
      rcases (by omega : j = 0 ∨ j = 1 ∨ j = 2 ∨ j = 3 ∨ j = 4 ∨ j = 5 ∨ j = 6) with rfl | rfl | rfl | rfl | rfl | rfl | rfl
      · exact g_m0 a1.2.2.1 hm
      · exact g_m1 a1.2.2.1 hm
      · exact g_m2 a1.2.2.1 hm
      · exact g_m3 a1.2.2.1 hm
      · exact g_m4 a1.2.2.1 hm
      · exact g_m5 a1.2.2.1 hm
      · exact g_m6 a1.2.2.1 hm
    rw [i_f (by rw [show (7 : Int32) = nI 7 by decide, nn_le (by decide) (by omega)]; omega), a4, b_rd hs, i_t rfl]
    exact q1
theorem is_2 {g : Mem} {a : Nat} {L : Lay} {n : Nat} : ∀ (k i F : Nat) (w : Wd), St w g a L → Rm w (n + 1) → i + k = nmen (g 147) → k < F → ∃ w', (DX12_isSame_L2 F a (nI i)).1 w = some (1, w') ∧ St w' g a L ∧ Rm w' n ∧ Kp CL w w' := by
  intro k
  induction k with
  | zero =>
    intro i F w h hR hi hF
    obtain ⟨F, rfl⟩ : ∃ F', F = F' + 1 := ⟨F - 1, by omega⟩
    show ∃ w', (DX12_isSame_b2 _ _ _).1 w = _ ∧ _
    unfold DX12_isSame_b2
    have h12 := (OkT_n (St_T h)).2
    rw [b_rd (g_6 h.2.2.1), i_t (by rw [le_n (St_T h) (by omega)]; omega)]
    exact is_162 h hR 2 0 FU (by omega) (by show _ < 10000; omega)
  | succ k ih =>
    intro i F w h hR hi hF
    obtain ⟨F, rfl⟩ : ∃ F', F = F' + 1 := ⟨F - 1, by omega⟩
    show ∃ w', (DX12_isSame_b2 _ _ _).1 w = _ ∧ _
    unfold DX12_isSame_b2
    have h12 := (OkT_n (St_T h)).2
    rw [b_rd (g_6 h.2.2.1), i_f (by rw [le_n (St_T h) (by omega)]; omega), b_rd (g_R h.2.2.1 16 (by decide) (by decide)), b_rd (g_man h.2.2.1 (St_T h) (by omega))]
    refine is_20 (show i < nmen (g 147) by omega) ?_ 7 0 FU w h hR (by omega) (by show _ < 10000; omega)
    intro w1 h1 hR1
    have q := ih (i + 1) F w1 h1 hR1 (by omega) (by omega)
    rw [nI_succ] at q
    exact q
theorem r_isSame {w : Wd} {g : Mem} {a : Nat} {L : Lay} {n : Nat} (h : St w g a L) (hR : Rm w (n + 1)) : ∃ w', (DX12_isSame a).1 w = some (1, w') ∧ St w' g a L ∧ Rm w' n ∧ Kp CL w w' := by
  have h12 := (OkT_n (St_T h)).2
  exact is_2 (nmen (g 147)) 0 FU w h hR (by omega) (by show _ < 10000; omega)
