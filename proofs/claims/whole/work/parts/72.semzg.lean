/-! image: the class's copies -/
def cyA (s d : Nat) (o : Nat × Nat × Nat) (u : Mem) : Mem := if o.1 = 0 then cpM u (s + o.2.1) (d + o.2.1) o.2.2 else mupd u (d + o.2.1) o.2.2 (u (s + o.2.1) o.2.2)
def cyR (s d : Nat) : List (Nat × Nat × Nat) → Mem → Mem
  | [], u => u
  | o :: os, u => cyR s d os (cyA s d o u)
def cyO : List (Nat × Nat × Nat) := [(1, 0, 0), (0, 1, 12), (0, 2, 12), (0, 3, 12), (0, 4, 12), (0, 5, 2), (0, 6, 8), (1, 0, 7), (1, 0, 8), (1, 0, 9), (1, 0, 10), (1, 0, 11), (1, 0, 12), (0, 8, 400), (0, 9, 16), (0, 10, 16), (0, 11, 16), (0, 12, 16), (1, 7, 6), (1, 7, 7), (0, 15, 16), (0, 16, 16), (0, 17, 16), (1, 14, 3), (0, 19, 10), (0, 20, 10), (0, 21, 10), (1, 18, 3)]
theorem cyO_le : ∀ o, o ∈ cyO → o.2.1 ≤ 21 := by decide
theorem cyA_ne {s d : Nat} {o : Nat × Nat × Nat} {u : Mem} {c : Nat} (h : o.2.1 ≤ 21) (hc : c < d ∨ d + 21 < c) : cyA s d o u c = u c := by
  unfold cyA
  by_cases h0 : o.1 = 0
  · rw [if_pos h0, cpM_ne _ (by omega)]
  · rw [if_neg h0, m_ne (by omega)]
theorem cyR_ne {s d : Nat} {c : Nat} (hc : c < d ∨ d + 21 < c) : ∀ (os : List (Nat × Nat × Nat)) (u : Mem), (∀ o, o ∈ os → o.2.1 ≤ 21) → cyR s d os u c = u c
  | [], _, _ => rfl
  | o :: os, u, h => (cyR_ne hc os _ (fun o' h' => h o' (List.mem_cons_of_mem _ h'))).trans (cyA_ne (h o (List.mem_cons_self ..)) hc)
theorem cyA_d {s d : Nat} {o : Nat × Nat × Nat} {u : Mem} (k i : Nat) : cyA s d o u (d + k) i = u (d + k) i ∨ cyA s d o u (d + k) i = u (s + k) i := by
  unfold cyA
  by_cases h0 : o.1 = 0
  · rw [if_pos h0]
    by_cases e : o.2.1 = k
    · rw [e, cpM_at]
      split
      · exact Or.inr rfl
      · exact Or.inl rfl
    · rw [cpM_ne _ (by omega)]; exact Or.inl rfl
  · rw [if_neg h0]
    by_cases e : o.2.1 = k
    · rw [e, m_eq]
      by_cases ei : i = o.2.2
      · rw [ei, up_eq]; exact Or.inr rfl
      · rw [up_ne ei]; exact Or.inl rfl
    · rw [m_ne (by omega)]; exact Or.inl rfl
theorem cyA_c {s d : Nat} {o : Nat × Nat × Nat} {u : Mem} {k i : Nat} (e : o.2.1 = k) (hi : if o.1 = 0 then i < o.2.2 else i = o.2.2) : cyA s d o u (d + k) i = u (s + k) i := by
  unfold cyA
  by_cases h0 : o.1 = 0
  · rw [if_pos h0] at hi
    rw [if_pos h0, e, cpM_at, if_pos hi]
  · rw [if_neg h0] at hi
    rw [if_neg h0, e, m_eq, hi, up_eq]
theorem cyR_d {s d k i : Nat} (hk : k ≤ 21) (hsd : s + 21 < d ∨ d + 21 < s) : ∀ (os : List (Nat × Nat × Nat)) (u : Mem), (∀ o, o ∈ os → o.2.1 ≤ 21) → cyR s d os u (d + k) i = u (d + k) i ∨ cyR s d os u (d + k) i = u (s + k) i
  | [], _, _ => Or.inl rfl
  | o :: os, u, h => by
    have ho : o.2.1 ≤ 21 := h o (List.mem_cons_self ..)
    have es : cyA s d o u (s + k) = u (s + k) := cyA_ne ho (by omega)
    show cyR s d os (cyA s d o u) (d + k) i = _ ∨ cyR s d os (cyA s d o u) (d + k) i = _
    rcases cyR_d (i := i) hk hsd os (cyA s d o u) (fun o' h' => h o' (List.mem_cons_of_mem _ h')) with e | e
    · rw [e]; exact cyA_d k i
    · rw [e, es]; exact Or.inr rfl
theorem cyR_c {s d k i : Nat} (hk : k ≤ 21) (hsd : s + 21 < d ∨ d + 21 < s) : ∀ (os : List (Nat × Nat × Nat)) (u : Mem), (∀ o, o ∈ os → o.2.1 ≤ 21) → (∃ o, o ∈ os ∧ o.2.1 = k ∧ if o.1 = 0 then i < o.2.2 else i = o.2.2) → cyR s d os u (d + k) i = u (s + k) i
  | [], _, _, ⟨_, h, _⟩ => absurd h (List.not_mem_nil)
  | o :: os, u, h, ⟨o1, hm, e, hi⟩ => by
    have ho : o.2.1 ≤ 21 := h o (List.mem_cons_self ..)
    have es : cyA s d o u (s + k) = u (s + k) := cyA_ne ho (by omega)
    have h' : ∀ o, o ∈ os → o.2.1 ≤ 21 := fun o' h' => h o' (List.mem_cons_of_mem _ h')
    show cyR s d os (cyA s d o u) (d + k) i = _
    rcases List.mem_cons.mp hm with e1 | h1
    · rw [e1] at e hi
      rcases cyR_d (i := i) hk hsd os (cyA s d o u) h' with a | a
      · rw [a]; exact cyA_c e hi
      · rw [a, es]
    · rw [cyR_c hk hsd os (cyA s d o u) h' ⟨o1, h1, e, hi⟩, es]
theorem cyT {s d k i : Nat} {u : Mem} (o : Nat × Nat × Nat) (hsd : s + 21 < d ∨ d + 21 < s) (hm : o ∈ cyO) (e : o.2.1 = k) (hi : if o.1 = 0 then i < o.2.2 else i = o.2.2) : cyR s d cyO u (d + k) i = u (s + k) i :=
  cyR_c (by rw [← e]; exact cyO_le o hm) hsd cyO u cyO_le ⟨o, hm, e, hi⟩
theorem encAt_cg {S S' : Nat → Int32} (e : ∀ j, j < 400 → S' j = S j) : ∀ (os : List (Nat × Nat)) (a : Nat), a + encL os ≤ 400 → encAt S a os → encAt S' a os
  | [], _, _, _ => trivial
  | o :: os, a, hl, ⟨h1, h2⟩ => by
    have el : encL (o :: os) = enc1 o + encL os := rfl
    have e1 : enc1 o = if o.1 = 26 then 2 else 1 := rfl
    refine ⟨?_, encAt_cg e os _ (by omega) h2⟩
    by_cases c : o.1 = 0
    · rw [if_pos c] at h1 ⊢
      rw [if_neg (by omega)] at e1
      rw [e a (by omega)]; exact h1
    · rw [if_neg c] at h1 ⊢
      by_cases c2 : o.1 = 26
      · rw [if_pos c2] at h1 e1 ⊢
        rw [e a (by omega), e (a + 1) (by omega)]; exact h1
      · rw [if_neg c2] at h1 e1 ⊢
        rw [e a (by omega)]; exact h1
theorem LC_cp {s d : Nat} {u u' : Mem} {W : Wt} (hW : LW W) (h : LC s u W) (e7 : u' d 7 = u s 7) (e1 : ∀ j, j < 400 → u' (d + 1) j = u (s + 1) j) (e2 : ∀ k i, 2 ≤ k → k ≤ 5 → i < 16 → u' (d + k) i = u (s + k) i) : LC d u' W := by
  refine ⟨e7.trans h.1, fun i hi => ?_⟩
  have hi16 : i < 16 := Nat.lt_of_lt_of_le hi hW.1.2
  obtain ⟨⟨k, a, b, c⟩, x, q1, q2, q3, q4, q5, q6⟩ := h.2 i hi
  exact ⟨⟨k, a, b, (e2 2 i (by omega) (by omega) hi16).trans c⟩, x, (e2 3 i (by omega) (by omega) hi16).trans q1, (e2 4 i (by omega) (by omega) hi16).trans q2, (e2 5 i (by omega) (by omega) hi16).trans q3, q4, encAt_cg e1 _ _ (by omega) q5, encAt_cg e1 _ _ (by omega) q6⟩
theorem cy_TR {s d : Nat} {u : Mem} {W : Wt} (hsd : s + 21 < d ∨ d + 21 < s) (hT : OkT W) (h : TR s u W) : TR d (cyR s d cyO u) W := by
  have o := (OkT_on hT).2
  have l := (OkT_sn hT).2
  exact ⟨(cyT (k := 0) (1, 0, 0) hsd (by decide) rfl rfl).trans (TR_men h), (cyT (k := 0) (1, 0, 7) hsd (by decide) rfl rfl).trans (TR_keep h), (cyT (k := 0) (1, 0, 8) hsd (by decide) rfl rfl).trans (TR_rain h), (cyT (k := 0) (1, 0, 9) hsd (by decide) rfl rfl).trans (TR_tea h), (cyT (k := 0) (1, 0, 10) hsd (by decide) rfl rfl).trans (TR_hi h), (cyT (k := 0) (1, 0, 11) hsd (by decide) rfl rfl).trans (TR_tl h), (cyT (k := 0) (1, 0, 12) hsd (by decide) rfl rfl).trans (TR_wl h),
    fun m hm => (cyT (0, 1, 12) hsd (by decide) rfl hm).trans (TR_co h m hm), fun m hm => (cyT (0, 2, 12) hsd (by decide) rfl hm).trans (TR_ag h m hm), fun m hm => (cyT (0, 3, 12) hsd (by decide) rfl hm).trans (TR_le h m hm), fun m hm => (cyT (0, 4, 12) hsd (by decide) rfl hm).trans (TR_te h m hm), fun m hm => (cyT (0, 5, 2) hsd (by decide) rfl hm).trans (TR_wa h m hm), fun m hm => (cyT (0, 6, 8) hsd (by decide) rfl hm).trans (TR_we h m hm),
    (cyT (k := 14) (1, 14, 3) hsd (by decide) rfl rfl).trans (TR_ol h), fun i hi => (cyT (0, 15, 16) hsd (by decide) rfl (Nat.lt_of_lt_of_le hi o)).trans (TR_od h i hi), fun i hi => (cyT (0, 16, 16) hsd (by decide) rfl (Nat.lt_of_lt_of_le hi o)).trans (TR_oc h i hi), fun i hi => (cyT (0, 17, 16) hsd (by decide) rfl (Nat.lt_of_lt_of_le hi o)).trans (TR_or h i hi),
    (cyT (k := 18) (1, 18, 3) hsd (by decide) rfl rfl).trans (TR_sl h), fun i hi => (cyT (0, 19, 10) hsd (by decide) rfl (Nat.lt_of_lt_of_le hi l)).trans (TR_sd h i hi), fun i hi => (cyT (0, 20, 10) hsd (by decide) rfl (Nat.lt_of_lt_of_le hi l)).trans (TR_sc h i hi), fun i hi => (cyT (0, 21, 10) hsd (by decide) rfl (Nat.lt_of_lt_of_le hi l)).trans (TR_sg h i hi)⟩
theorem cy_LC {s d : Nat} {u : Mem} {W : Wt} (hsd : s + 21 < d ∨ d + 21 < s) (hW : LW W) (h : LC (s + 7) u W) : LC (d + 7) (cyR s d cyO u) W := by
  refine LC_cp hW h (cyT (1, 7, 7) hsd (by decide) rfl rfl) (fun j hj => cyT (k := 8) (0, 8, 400) hsd (by decide) rfl hj) (fun k i h2 h5 hi => ?_)
  rcases (by omega : k = 2 ∨ k = 3 ∨ k = 4 ∨ k = 5) with rfl | rfl | rfl | rfl
  · exact cyT (k := 9) (0, 9, 16) hsd (by decide) rfl hi
  · exact cyT (k := 10) (0, 10, 16) hsd (by decide) rfl hi
  · exact cyT (k := 11) (0, 11, 16) hsd (by decide) rfl hi
  · exact cyT (k := 12) (0, 12, 16) hsd (by decide) rfl hi
theorem BK_cp {s d : Nat} {u : Mem} {W : Wt} (h : BK s u W) : BK d (cpM u s d 600) W := fun i hi => by rw [cpM_at, if_pos hi]; exact h i hi
theorem BK_lo {c : Nat} {u : Mem} {W W' : Wt} (s : lo W W') (h : BK c u W) : BK c u W' := fun i hi => by rw [s _ (by omega)]; exact h i hi
theorem mu_self {w : Mem} {a k : Nat} {x : Int32} (h : w a k = x) : mupd w a k x = w := by
  funext b
  by_cases e : b = a
  · subst e; rw [m_eq]; exact upd_self h
  · exact m_ne e
theorem bchk_1 : bchk 1 = some 1 := rfl
theorem bchk_0 : bchk 0 = some 0 := rfl
theorem A_image (p : Int32) : A2 (FX11_image_0 p) (FX12_image_146 p) := by
  intro v w h
  obtain ⟨a, b, c, d, f, g⟩ := h
  unfold FX11_image_0 FX12_image_146 FX12_image_146_b13 FX11_image_0_b92
  by_cases hp : p = 0
  · rw [if_pos hp, if_pos hp, f.1]
    rcases f.2 with z | ⟨z, k1, k2, k3, k4, k5⟩
    · rw [if_pos z, if_pos z, z, bchk_0, b_some]
      exact ⟨0, v, w, rfl, rfl, a, b, c, d, f, g⟩
    · rw [if_neg (by rw [z]; exact z1), if_neg (by rw [z]; exact z1)]
      obtain ⟨w', e1, e2, e3⟩ := m_img_eq (w := w) hp
      rw [e1, m_forget, b_some]
      unfold FX12_image_146_b67
      have lK : lo (w 148) (w' 147) := fun k hk => by rw [e2 k, if_pos hk]
      have q1 : FX9_become_1_115 v = some (cyR 115 1 cyO v) := rfl
      have n1 : ∀ c, c < 1 ∨ 1 + 21 < c → cyR 115 1 cyO v c = v c := fun c hc => cyR_ne hc cyO v cyO_le
      have t1 : TR 1 (cyR 115 1 cyO v) (w 148) := cy_TR (by omega) k1.1 k2
      have l1 : LC 8 (cyR 115 1 cyO v) (w 148) := cy_LC (s := 115) (d := 1) (by omega) k1.2.2 k3
      generalize cyR 115 1 cyO v = v1 at q1 n1 t1 l1
      have q2 : FX0_become_23_137 v1 = some (beM v1 137 23) := rfl
      have n2 : ∀ c, c < 23 ∨ 23 + 6 < c → beM v1 137 23 c = v1 c := fun c hc => beM_ne v1 137 23 hc
      have b2 : BR 23 (beM v1 137 23) (w 148) := be_BR (by omega) (BR_cg k4 (fun i hi => n1 _ (by omega)))
      generalize beM v1 137 23 = v2 at q2 n2 b2
      have q3 : FX1_become_30_144 v2 = some (cpM v2 145 31 600) := rfl
      have n3 : ∀ c, c ≠ 31 → cpM v2 145 31 600 c = v2 c := fun c hc => cpM_ne _ hc
      have b3 : BK 31 (cpM v2 145 31 600) (w 148) := BK_cp (fun i hi => by rw [n2 145 (by omega), n1 145 (by omega)]; exact k5 i hi)
      generalize cpM v2 145 31 600 = v3 at q3 n3 b3
      have nn : ∀ c, c = 0 ∨ 32 ≤ c → v3 c = v c := fun c hc => by rw [n3 c (by omega), n2 c (by omega), n1 c (by omega)]
      rw [q1, b_some, q2, b_some, q3, b_some, c_forget, b_some, m_ne (show 0 ≠ 52 by decide), nn 0 (by omega), f.1, z, bchk_1, b_some]
      have o3 : ∀ c, 1 ≤ c → c ≤ 22 → v3 c = v1 c := fun c h1 h2 => by rw [n3 c (by omega), n2 c (by omega)]
      have sq : SQ v3 w' := by
        unfold SQ
        rw [e3 146 (by decide), e3 148 (by decide), e3 154 (by decide)]
        obtain ⟨n, x, _, x2, _, x4, -⟩ := d
        refine ⟨WO_lo lK k1, ⟨⟨TR_lo lK k1.1 (TR_cg t1 (fun j hj => o3 _ (by omega) (by omega))), LC_lo lK k1.2.2 (LC_cg l1 (fun j hj => o3 _ (by omega) (by omega))), BR_W (fun k hk => lK k (by omega)) (BR_cg b2 (fun i hi => n3 _ (by omega)))⟩, BK_lo lK b3, by rw [nn 32 (by omega)]; exact b.2.2.1, by rw [nn 32 (by omega)]; exact b.2.2.2⟩, by rw [nn 104 (by omega)]; exact c, ⟨x, x2, by rw [nn 52 (by omega)]; exact x4⟩, IMG_cg (fun c hc => nn c (by omega)) f, RD_cg (nn 34 (by omega)) (nn 35 (by omega)) g⟩
      have e5 : (mupd w' 146 4 0) 146 5 = 1 := by rw [m_eq, up_ne (by decide), e3 146 (by decide)]; exact z
      exact ⟨1, _, _, rfl, by rw [mu_self e5]; rfl, SQ_f sq⟩
  · rw [if_neg hp, if_neg hp]
    obtain ⟨w', e1, e2, e3⟩ := m_img_ne (w := w) hp
    rw [e1]
    unfold FX12_image_146_b67
    have lK : lo (w 147) (w' 148) := fun k hk => by rw [e2 k, if_pos hk]
    have q1 : FX9_become_115_1 v = some (cyR 1 115 cyO v) := rfl
    have n1 : ∀ c, c < 115 ∨ 115 + 21 < c → cyR 1 115 cyO v c = v c := fun c hc => cyR_ne hc cyO v cyO_le
    have t1 : TR 115 (cyR 1 115 cyO v) (w 147) := cy_TR (by omega) a.1 b.1.1
    have l1 : LC 122 (cyR 1 115 cyO v) (w 147) := cy_LC (s := 1) (d := 115) (by omega) a.2.2 b.1.2.1
    generalize cyR 1 115 cyO v = v1 at q1 n1 t1 l1
    have q2 : FX0_become_137_23 v1 = some (beM v1 23 137) := rfl
    have n2 : ∀ c, c < 137 ∨ 137 + 6 < c → beM v1 23 137 c = v1 c := fun c hc => beM_ne v1 23 137 hc
    have b2 : BR 137 (beM v1 23 137) (w 147) := be_BR (by omega) (BR_cg b.1.2.2 (fun i hi => n1 _ (by omega)))
    generalize beM v1 23 137 = v2 at q2 n2 b2
    have q3 : FX1_become_144_30 v2 = some (cpM v2 31 145 600) := rfl
    have n3 : ∀ c, c ≠ 145 → cpM v2 31 145 600 c = v2 c := fun c hc => cpM_ne _ hc
    have b3 : BK 145 (cpM v2 31 145 600) (w 147) := BK_cp (fun i hi => by rw [n2 31 (by omega), n1 31 (by omega)]; exact b.2.1 i hi)
    generalize cpM v2 31 145 600 = v3 at q3 n3 b3
    have nn : ∀ c, c < 115 → v3 c = v c := fun c hc => by rw [n3 c (by omega), n2 c (by omega), n1 c (by omega)]
    rw [q1, b_some, q2, b_some, q3, b_some, b_some, m_eq, up_eq, bchk_1, b_some]
    refine ⟨1, _, _, rfl, rfl, ?_⟩
    have nz : ∀ c, 0 < c → (mupd v3 0 11 1) c = v3 c := fun c hc => m_ne (by omega)
    unfold SP
    rw [m_ne (show 147 ≠ 146 by decide), m_ne (show 148 ≠ 146 by decide), m_ne (show 149 ≠ 146 by decide), m_ne (show 154 ≠ 146 by decide), m_eq w', e3 146 (by decide), e3 147 (by decide), e3 149 (by decide), e3 154 (by decide)]
    refine ⟨a, XD_cg (fun c hc => by rw [nz c (by omega), nn c (by omega)]) b, by rw [nz 104 (by omega), nn 104 (by omega)]; exact c, UN_M (up_ne (by decide)) (UN_cg (fun c hc => by rw [nz c (by omega), nn c (by omega)]) d), ⟨by rw [m_eq, up_eq, up_eq], Or.inr ⟨up_eq _ _ _, WO_lo lK a, ?_, ?_, ?_, ?_⟩⟩, RD_M (up_ne (by decide)) (up_ne (by decide)) (up_ne (by decide)) (RD_cg (by rw [nz 34 (by omega), nn 34 (by omega)]) (by rw [nz 35 (by omega), nn 35 (by omega)]) g)⟩
    · exact TR_lo lK a.1 (TR_cg t1 (fun j hj => by rw [nz _ (by omega), n3 _ (by omega), n2 _ (by omega)]))
    · exact LC_lo lK a.2.2 (LC_cg l1 (fun j hj => by rw [nz _ (by omega), n3 _ (by omega), n2 _ (by omega)]))
    · exact BR_W (fun k hk => lK k (by omega)) (BR_cg b2 (fun i hi => by rw [nz _ (by omega), n3 _ (by omega)]))
    · exact BK_lo lK (BK_cg (nz 145 (by omega)) b3)
