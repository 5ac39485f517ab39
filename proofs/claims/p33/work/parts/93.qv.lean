/-! many Wars side by side -/
abbrev WrT : Type := Nat × Lay × Wt
theorem mix_lo {W R : Wt} {z : Nat} (h : z < 78) : mixR W R z = R z := if_pos h
theorem mix_hi {W R : Wt} {z : Nat} (h : 78 ≤ z) : mixR W R z = W z := if_neg (by omega)
theorem mix_self (W : Wt) : mixR W W = W := by
  funext z
  unfold mixR
  split <;> rfl
theorem mix_mix (W R R' : Wt) : mixR (mixR W R) R' = mixR W R' := by
  funext z
  unfold mixR
  by_cases c : z < 78
  · rw [if_pos c, if_pos c]
  · rw [if_neg c, if_neg c, if_neg c]
theorem mix_n (W R : Wt) : nmen (mixR W R) = nmen W := by
  unfold nmen
  rw [mix_hi (by omega)]
/-- another row that a War sees the same of -/
theorem WA_see {w : Wd} {a : Nat} {L : Lay} {A B : Wt} (hA : WA w a L A) (hT : OkT A) (lo : ∀ z, z < 300 → B z = A z) (hi : ∀ z, 900 ≤ z → B z = A z) (ln : ∀ i k, i < nt (A 3) → k < 4 → B (300 + 4 * i + k) = A (300 + 4 * i + k)) : WA w a L B := by
  have s : same78 A B := fun k _ h => by
    rcases h with h | h
    · exact lo k h
    · exact hi k h
  have en : nmen B = nmen A := s78_n s
  have h16 := (OkT_on hT).2
  obtain ⟨h1, h2, h3, h4, h5, h6, h7, h8⟩ := hA
  refine ⟨?_, h2, ?_, ?_, ⟨fun m hm => ?_, fun m k hm hk => h5.2 m k (by omega) (by omega)⟩, ?_, ?_, ?_⟩
  · unfold WAi
    rw [sHills_W s, lo 0 (by omega), lo 1 (by omega), lo 2 (by omega), lo 3 (by omega), lo 78 (by omega), lo 79 (by omega), lo 80 (by omega), lo 81 (by omega), lo 85 (by omega), lo 87 (by omega)]
    exact h1
  · unfold WAs
    rw [lo 87 (by omega)]
    exact h3
  · exact ⟨fun c hc => by rw [lo (82 + c) (by omega)]; exact h4.1 c hc, fun m hm => by rw [sTold_W s hT]; exact h4.2.1 m hm, fun f hf => by rw [sWt1_W s hT]; exact h4.2.2 f hf⟩
  · have h12 := (OkT_n hT).2
    have z := h5.1 m (by omega)
    unfold WA1
    rw [lo (90 + m) (by omega), lo (102 + m) (by omega), lo (114 + m) (by omega), lo (4 + m) (by omega), lo (16 + m) (by omega), lo (28 + m) (by omega), lo (40 + m) (by omega), lo (52 + m) (by omega), lo (64 + m) (by omega)]
    exact z
  · intro i hi'
    rw [lo 3 (by omega)] at hi'
    obtain ⟨z1, z2, z3⟩ := h6 i hi'
    exact ⟨z1, z2, fun k hk => by rw [ln i k hi' hk]; exact z3 k hk⟩
  · intro i hi'
    rw [lo 87 (by omega)] at hi'
    rw [lo (222 + 3 * i) (by omega), lo (222 + 3 * i + 1) (by omega), lo (222 + 3 * i + 2) (by omega)]
    exact h7 i hi'
  · unfold WAd at h8 ⊢
    cases eq : L.2.2.2.2 with
    | none =>
      rw [eq] at h8
      exact Lq_W s h8
    | some q =>
      rw [eq] at h8
      exact ⟨h8.1, Lq_W s h8.2⟩
theorem Wv_mix {w : Wd} {x : WrT} {W W' : Wt} (h : Wv w x.1 x.2.1 (mixR W x.2.2)) (s : same78 W W') (ln : ∀ i k, i < nt (x.2.2 3) → k < 4 → W' (300 + 4 * i + k) = W (300 + 4 * i + k)) : Wv w x.1 x.2.1 (mixR W' x.2.2) := by
  obtain ⟨hA, ho, hW, hb⟩ := h
  have lo : ∀ z, z < 300 → mixR W' x.2.2 z = mixR W x.2.2 z := fun z hz => by
    by_cases c : z < 78
    · rw [mix_lo c, mix_lo c]
    · rw [mix_hi (by omega), mix_hi (by omega)]
      exact s z (by omega) (Or.inl hz)
  have hi : ∀ z, 900 ≤ z → mixR W' x.2.2 z = mixR W x.2.2 z := fun z hz => by
    rw [mix_hi (by omega), mix_hi (by omega)]
    exact s z (by omega) (Or.inr hz)
  have s' : same78 (mixR W x.2.2) (mixR W' x.2.2) := fun k _ h => by
    rcases h with h | h
    · exact lo k h
    · exact hi k h
  refine ⟨WA_see hA hW.1 lo hi (fun i k hi' hk => ?_), ho, WO_u hW s' (OkD_cg (fun k hk => lo k (by omega)) hW.2.1), WAb_W hb (s78_n s') (lo 3 (by omega)) (lo 87 (by omega))⟩
  rw [mix_lo (show 3 < 78 by omega)] at hi'
  rw [mix_hi (by omega), mix_hi (by omega)]
  exact ln i k hi' hk
theorem RS_mix {a c : Nat} {L : Lay} {W W' R : Wt} (s : same78 W W') : RS a L (mixR W' R) c = RS a L (mixR W R) c := by
  unfold RS
  rw [mix_n, mix_n, s78_n s, mix_lo (show 3 < 78 by omega), mix_lo (show 3 < 78 by omega), mix_hi (show 78 ≤ 87 by omega), mix_hi (show 78 ≤ 87 by omega), s 87 (by omega) (by omega)]
/-- what one may write, the other doesn't see -/
def Dj (W : Wt) (x y : WrT) : Prop := ∀ c, MW x.1 x.2.1 (nmen W) c → ¬ RS y.1 y.2.1 (mixR W y.2.2) c
def Pj (W : Wt) (x y : WrT) : Prop := Dj W x y ∧ Dj W y x ∧ nt (x.2.2 3) ≤ nt (y.2.2 3)
theorem Dj_W {W W' : Wt} {x y : WrT} (h : Dj W x y) (s : same78 W W') : Dj W' x y := fun c h1 h2 => h c (by rw [← s78_n s]; exact h1) (by rw [← RS_mix s]; exact h2)
theorem Pj_W {W W' : Wt} {x y : WrT} (h : Pj W x y) (s : same78 W W') : Pj W' x y := ⟨Dj_W h.1 s, Dj_W h.2.1 s, h.2.2⟩
def WJ (w : Wd) (W : Wt) (l : List WrT) (D : Nat) : Prop := (∀ x, x ∈ l → Wv w x.1 x.2.1 (mixR W x.2.2) ∧ ∃ d, x.2.2 0 = nI d ∧ d ≤ D) ∧ l.Pairwise (Pj W)
theorem WJ_sub {w : Wd} {W : Wt} {l l' : List WrT} {D : Nat} (h : WJ w W l D) (hs : l'.Sublist l) : WJ w W l' D := ⟨fun x hx => h.1 x (hs.subset hx), h.2.sublist hs⟩
theorem WJ_D {w : Wd} {W : Wt} {l : List WrT} {D D' : Nat} (h : WJ w W l D) (hD : D ≤ D') : WJ w W l D' := ⟨fun x hx => by
  obtain ⟨a, d, e, f⟩ := h.1 x hx
  exact ⟨a, d, e, by omega⟩, h.2⟩
theorem WJ_kp {S : Nat → Prop} {w w' : Wd} {W : Wt} {l : List WrT} {D : Nat} (h : WJ w W l D) (k : Kp S w w') (ho : OKs w') (hS : ∀ x, x ∈ l → ∀ c, RS x.1 x.2.1 (mixR W x.2.2) c → ¬ S c) : WJ w' W l D :=
  ⟨fun x hx => ⟨⟨Kp_WA k (h.1 x hx).1.1 (hS x hx), ho, (h.1 x hx).1.2.2.1, (h.1 x hx).1.2.2.2⟩, (h.1 x hx).2⟩, h.2⟩
theorem WJ_cl {w w' : Wd} {W : Wt} {l : List WrT} {D : Nat} (h : WJ w W l D) (k : Kp CL w w') (ho : OKs w') : WJ w' W l D := WJ_kp h k ho (fun x hx c hc z => by have := (h.1 x hx).1.2.2.2 c hc; have z : c < 146 := z; omega)
theorem WJ_last {w : Wd} {W : Wt} {l : List WrT} {a : Nat} {L : Lay} {D : Nat} (h : WJ w W (l ++ [(a, L, W)]) D) : Wv w a L W ∧ ∃ d, W 0 = nI d ∧ d ≤ D := by
  have q := h.1 (a, L, W) (List.mem_append_right _ (List.mem_singleton.mpr rfl))
  have e : mixR W W = W := mix_self W
  obtain ⟨q1, q2⟩ := q
  have q1 : Wv w a L (mixR W W) := q1
  rw [e] at q1
  exact ⟨q1, q2⟩
/-- the last one goes on -/
theorem WJ_go {w w' : Wd} {W W' : Wt} {l : List WrT} {a d : Nat} {L L' : Lay} {D D' : Nat} (h : WJ w W (l ++ [(a, L, W)]) D) (hg : Go w a L W w' L' W') (s : same78 W W') (b : bp W W') (hd : W' 0 = nI d) (hd' : d ≤ D') (hD : D ≤ D') : WJ w' W' (l ++ [(a, L', W')]) D' := by
  obtain ⟨hv, -⟩ := WJ_last h
  obtain ⟨p1, p2, p3⟩ := List.pairwise_append.mp h.2
  obtain ⟨b1, b2, b3⟩ := b (by obtain ⟨j, h1, h2⟩ := OkD_ln hv.2.2.1.2.1; exact ⟨j, h1, h2⟩)
  have p3' : ∀ x, x ∈ l → Pj W x (a, L, W) := fun x hx => p3 x hx _ (List.mem_singleton.mpr rfl)
  obtain ⟨g1, g2, ⟨g3, g4, g5⟩, g6, g7, g8⟩ := id hg
  have e1 : mixR W W = W := mix_self W
  have e2 : mixR W' W' = W' := mix_self W'
  refine ⟨fun x hx => ?_, List.pairwise_append.mpr ⟨p1.imp (fun q => Pj_W q s), List.pairwise_singleton _ _, fun x hx y hy => ?_⟩⟩
  · rcases List.mem_append.mp hx with hx | hx
    · obtain ⟨q1, dd, q2, q3⟩ := h.1 x (List.mem_append_left _ hx)
      obtain ⟨r1, r2, r3⟩ := p3' x hx
      have r3 : nt (x.2.2 3) ≤ nt (W 3) := r3
      have q1' : Wv w' x.1 x.2.1 (mixR W x.2.2) := ⟨Kp_WA g2 q1.1 (fun c hc z => r2 c z hc), g1.2.1, q1.2.2.1, q1.2.2.2⟩
      exact ⟨Wv_mix q1' s (fun i k hi hk => b3 i k (by omega) hk), dd, q2, by omega⟩
    · have hx := List.mem_singleton.mp hx
      subst hx
      refine ⟨?_, d, hd, hd'⟩
      show Wv w' a L' (mixR W' W')
      rw [e2]
      exact g1
  · have hy := List.mem_singleton.mp hy
    subst hy
    obtain ⟨q1, -⟩ := h.1 x (List.mem_append_left _ hx)
    obtain ⟨r1, r2, r3⟩ := p3' x hx
    have r3 : nt (x.2.2 3) ≤ nt (W 3) := r3
    refine ⟨fun c h1 h2 => ?_, fun c h1 h2 => ?_, by show nt (x.2.2 3) ≤ nt (W' 3); omega⟩
    · have h2 : RS a L' (mixR W' W') c := h2
      rw [e2] at h2
      rw [s78_n s] at h1
      rcases Go_RS hg h2 with z | z
      · exact r1 c h1 (by show RS a L (mixR W W) c; rw [e1]; exact z)
      · have h1' : MW x.1 x.2.1 (nmen (mixR W x.2.2)) c := by rw [mix_n]; exact h1
        have := RS_lt q1.1 (MW_RS h1')
        omega
    · rw [RS_mix s] at h2
      refine r2 c ?_ h2
      have h1 : MW a L' (nmen W') c := h1
      show MW a L (nmen W) c
      unfold MW at h1 ⊢
      rw [g3, g4, g7] at h1
      exact h1
/-- a copy of the last one, put before it -/
theorem WJ_copy {w : Wd} {W : Wt} {l : List WrT} {a n : Nat} {L : Lay} {D : Nat} (h : WJ w W (l ++ [(a, L, W)]) D) (hR : Rm w (n + 40)) : ∃ w' x, (DX12_copy a).1 w = some (x.1, w') ∧ x.2.2 = W ∧ WJ w' W (l ++ [x, (a, L, W)]) D ∧ Kp (fun _ => False) w w' ∧ Rm w' n ∧ w'.1[x.1]? = some (.inr (.inl 12)) := by
  obtain ⟨hv, d, hd, hd'⟩ := WJ_last h
  obtain ⟨w', a', L', e1, v1, k1, r1, m1, s1, o1⟩ := r_copy hv hR
  have e0 : mixR W W = W := mix_self W
  obtain ⟨p1, p2, p3⟩ := List.pairwise_append.mp h.2
  have p3' : ∀ x, x ∈ l → Pj W x (a, L, W) := fun x hx => p3 x hx _ (List.mem_singleton.mpr rfl)
  have h' := WJ_kp h k1 v1.2.1 (fun _ _ _ _ z => z)
  -- the copy and a War that was there
  have key : ∀ x, x ∈ l → Pj W x (a', L', W) := fun x hx => by
    obtain ⟨q1, -⟩ := h.1 x (List.mem_append_left _ hx)
    obtain ⟨r1', r2, r3⟩ := p3' x hx
    refine ⟨fun c h1 h2 => ?_, fun c h1 h2 => ?_, r3⟩
    · have h2 : RS a' L' (mixR W W) c := h2
      rw [e0] at h2
      have h1' : MW x.1 x.2.1 (nmen (mixR W x.2.2)) c := by rw [mix_n]; exact h1
      have lt := RS_lt q1.1 (MW_RS h1')
      rcases s1 c h2 with z | z
      · omega
      · exact r1' c h1 (by show RS a L (mixR W W) c; rw [e0]; exact Sh_RS z)
    · have lt := RS_lt q1.1 h2
      have := m1 c h1
      omega
  have key2 : Pj W (a', L', W) (a, L, W) := by
    refine ⟨fun c h1 h2 => ?_, fun c h1 h2 => ?_, Nat.le_refl _⟩
    · have h2 : RS a L (mixR W W) c := h2
      rw [e0] at h2
      have lt := RS_lt hv.1 h2
      have := m1 c h1
      omega
    · have h2 : RS a' L' (mixR W W) c := h2
      rw [e0] at h2
      have h1 : MW a L (nmen W) c := h1
      have lt := RS_lt hv.1 (MW_RS h1)
      rcases s1 c h2 with z | z
      · omega
      · exact Sh_MW hv.1 hv.2.2.1.1 z h1
  refine ⟨w', (a', L', W), e1, rfl, ⟨fun x hx => ?_, List.pairwise_append.mpr ⟨p1, List.pairwise_cons.mpr ⟨fun y hy => ?_, List.pairwise_singleton _ _⟩, fun x hx y hy => ?_⟩⟩, k1, r1, o1⟩
  · rcases List.mem_append.mp hx with hx | hx
    · exact h'.1 x (List.mem_append_left _ hx)
    · rcases List.mem_cons.mp hx with hx | hx
      · subst hx
        refine ⟨?_, d, hd, hd'⟩
        show Wv w' a' L' (mixR W W)
        rw [e0]
        exact v1
      · exact h'.1 x (List.mem_append_right _ hx)
  · rw [List.mem_singleton.mp hy]
    exact key2
  · rcases List.mem_cons.mp hy with hy | hy
    · rw [hy]
      exact key x hx
    · rw [List.mem_singleton.mp hy]
      exact p3' x hx
/-- back to the one before -/
theorem WJ_undo {w : Wd} {W : Wt} {l : List WrT} {x y : WrT} {D : Nat} (h : WJ w W (l ++ [x, y]) D) : WJ w (mixR W x.2.2) (l ++ [(x.1, x.2.1, mixR W x.2.2)]) D := by
  obtain ⟨p1, p2, p3⟩ := List.pairwise_append.mp h.2
  have e : ∀ R, mixR (mixR W x.2.2) R = mixR W R := fun R => mix_mix W x.2.2 R
  have hx3 : mixR W x.2.2 3 = x.2.2 3 := mix_lo (by omega)
  have cv : ∀ {u v : WrT}, Dj W u v → Dj (mixR W x.2.2) u v := fun {u v} q c h1 h2 => q c (by rw [← mix_n W x.2.2]; exact h1) (by rw [← e]; exact h2)
  refine ⟨fun z hz => ?_, List.pairwise_append.mpr ⟨p1.imp (fun q => ⟨cv q.1, cv q.2.1, q.2.2⟩), List.pairwise_singleton _ _, fun z hz y' hy => ?_⟩⟩
  · rcases List.mem_append.mp hz with hz | hz
    · obtain ⟨q1, q2⟩ := h.1 z (List.mem_append_left _ hz)
      rw [e]
      exact ⟨q1, q2⟩
    · have hz := List.mem_singleton.mp hz
      subst hz
      obtain ⟨q1, d, q2, q3⟩ := h.1 x (List.mem_append_right _ (List.mem_cons_self ..))
      refine ⟨?_, d, ?_, q3⟩
      · show Wv w x.1 x.2.1 (mixR (mixR W x.2.2) (mixR W x.2.2))
        rw [mix_self]
        exact q1
      · show mixR W x.2.2 0 = nI d
        rw [mix_lo (by omega)]
        exact q2
  · have hy := List.mem_singleton.mp hy
    subst hy
    obtain ⟨r1, r2, r3⟩ := p3 z hz x (List.mem_cons_self ..)
    refine ⟨fun c h1 h2 => ?_, fun c h1 h2 => ?_, ?_⟩
    · have h2 : RS x.1 x.2.1 (mixR (mixR W x.2.2) (mixR W x.2.2)) c := h2
      rw [mix_self] at h2
      exact r1 c (by rw [← mix_n W x.2.2]; exact h1) h2
    · rw [e] at h2
      exact r2 c (by have h1 : MW x.1 x.2.1 (nmen (mixR W x.2.2)) c := h1; rw [mix_n] at h1; exact h1) h2
    · show nt (z.2.2 3) ≤ nt (mixR W x.2.2 3)
      rw [hx3]
      exact r3
