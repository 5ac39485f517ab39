/-! in thought nothing is booked -/
def h78 (W W' : Wt) : Prop := ∀ k, 78 ≤ k → W' k = W k
theorem h_r (W : Wt) : h78 W W := fun _ _ => rfl
theorem h_t {W W' W'' : Wt} (h : h78 W W') (h' : h78 W' W'') : h78 W W'' := fun k a => (h' k a).trans (h k a)
theorem h_u {W : Wt} {k : Nat} {x : Int32} (h : k < 78) : h78 W (upd W k x) := fun j a => up_ne (by omega)
theorem h_n (what m num : Int32) (W : Wt) : dNote 0 what m num W = W := by unfold dNote; rw [if_pos rfl]
theorem h_fo {f : Nat → Wt → Wt} (hf : ∀ m W, m < 12 → h78 W (f m W)) {W : Wt} : ∀ n, n ≤ 12 → h78 W (fo n f W)
  | 0, _ => h_r W
  | n + 1, h => h_t (h_fo hf n (by omega)) (hf n _ (by omega))
theorem h_calls {fa c : Int32} {W : Wt} (hW : WO W) : h78 W (dCalls fa 0 c W) := by
  obtain ⟨hn, hn12⟩ := OkT_n hW.1
  unfold dCalls
  rcases bst_ok fa W c (nmen W) with e | ⟨k, hk, e, -⟩
  · rw [if_pos e]; exact h_r W
  · rw [if_neg (by rw [e]; exact nI_m1 (by omega)), e, nt_nI (by omega), h_n]
    exact h_t (h_u (by omega)) (h_u (by omega))
theorem h_callUp {fa : Int32} {c : Nat} {W : Wt} (hW : WO W) : h78 W (dCallUp fa 0 c W) := by
  unfold dCallUp; split
  · exact h_calls hW
  · exact h_r W
theorem h_wk {m : Nat} {c : Int32} (hm : m < 12) : ∀ (f l : Nat) (W : Wt), h78 W (dWk m c f l W)
  | 0, _, W => h_r W
  | f + 1, l, W => by
    unfold dWk; split
    · exact h_t (h_u (by omega)) (h_wk hm f _ _)
    · exact h_r W
theorem h_march {m : Nat} {W : Wt} (hm : m < 12) : h78 W (dMarch m W) := by
  unfold dMarch dBr; split
  · split
    · split
      · exact h_wk hm _ _ _
      · exact h_u (by omega)
    · exact h_u (by omega)
  · exact h_r W
theorem h_halve {x : Int32} {m : Nat} {W : Wt} (hm : m < 12) : h78 W (dHalve1 x m W) := by
  unfold dHalve1; split
  · exact h_u (by omega)
  · exact h_r W
theorem h_beat {c x : Int32} {m : Nat} {W : Wt} (hm : m < 12) : h78 W (dBeat1 0 c x m W) := by
  unfold dBeat1; split
  · split
    · rw [h_n]; exact h_t (h_u (by omega)) (h_u (by omega))
    · exact h_u (by omega)
  · exact h_r W
theorem h_catch {c x : Int32} {W : Wt} (hW : WO W) (h : sHeld W c x = true) : h78 W (dCatch 0 c x W) := by
  obtain ⟨hn, hn12⟩ := OkT_n hW.1
  obtain ⟨k, hk, e, -⟩ := yng_held hW.1 h
  unfold dCatch
  rw [e, nt_nI (by omega), h_n]
  exact h_t (h_u (by omega)) (h_u (by omega))
theorem h_fight {x : Nat} {s : Wt × Int32} (hW : WO s.1) : h78 s.1 (dFight 0 x s).1 := by
  obtain ⟨hn, hn12⟩ := OkT_n hW.1
  unfold dFight
  by_cases h : sHeld s.1 0 (nI x) = true ∧ sHeld s.1 1 (nI x) = true
  · rw [if_pos h]
    split
    · exact h_fo (fun m W hm => h_halve hm) _ hn12
    · have hc : sHeld s.1 (if 0 ≤ sAt s.1 0 (nI x) - sAt s.1 1 (nI x) then 1 else 0) (nI x) = true := by
        split
        · exact h.2
        · exact h.1
      have a := h_catch hW hc
      obtain ⟨w, -⟩ := dCatch_w (tr := 0) hW hc
      exact h_t a (h_fo (fun m W hm => h_beat hm) _ (OkT_n w.1).2)
  · rw [if_neg h]; exact h_r _
theorem h_fights {s : Wt × Int32} (hW : WO s.1) : h78 s.1 (dFights 0 s).1 := by
  have : ∀ n, n ≤ 16 → WO (fo n (dFight 0) s).1 ∧ h78 s.1 (fo n (dFight 0) s).1 := by
    intro n
    induction n with
    | zero => intro _; exact ⟨hW, h_r _⟩
    | succ n ih =>
      intro h
      obtain ⟨a, b⟩ := ih (by omega)
      exact ⟨(dFight_w (tr := 0) (x := n) a).1, h_t b (h_fight a)⟩
  rw [← dFights_def]
  exact (this 16 (Nat.le_refl _)).2
theorem h_arrive (W : Wt) : h78 W (dArrive W) := by
  unfold dArrive; split
  · exact h_u (by omega)
  · exact h_r W
theorem h_wages {fa : Int32} {s : Wt × Int32} (hW : WO s.1) : h78 s.1 (dWages fa 0 s).1 := by
  obtain ⟨a1, -⟩ := dCallUp_w (fa := fa) (tr := 0) (c := 0) hW
  obtain ⟨a2, -⟩ := dCallUp_w (fa := fa) (tr := 0) (c := 1) a1
  obtain ⟨a3, -⟩ := dMarches_w a2
  have b4 := h_fights (s := (dMarches (dCallUp fa 0 1 (dCallUp fa 0 0 s.1)), s.2)) a3
  have b3 : h78 (dCallUp fa 0 1 (dCallUp fa 0 0 s.1)) (dMarches (dCallUp fa 0 1 (dCallUp fa 0 0 s.1))) := h_fo (fun m W hm => h_march hm) _ (OkT_n a2.1).2
  unfold dWages
  dsimp only at b4 ⊢
  exact h_t (h_t (h_callUp hW) (h_callUp a1)) (h_t b3 (h_t b4 (h_arrive _)))
theorem h_tells {W : Wt} (hW : WO W) : h78 W (dTells W) := by
  obtain ⟨hn, hn12⟩ := OkT_n hW.1
  unfold dTells; split
  · have inner : ∀ m V, m < 12 → ∀ n, n ≤ 12 → h78 V (fo n (dTell1 m) V) := fun m V hm n hn => h_fo (fun o W ho => by
      unfold dTell1; split
      · exact h_u (by omega)
      · exact h_r W) n hn
    have : ∀ n, n ≤ 12 → WO (fo n dTellM W) ∧ h78 W (fo n dTellM W) := by
      intro n
      induction n with
      | zero => intro _; exact ⟨hW, h_r W⟩
      | succ n ih =>
        intro h
        obtain ⟨a, b⟩ := ih (by omega)
        refine ⟨(dTellM_w (m := n) a (by omega)).1, h_t b ?_⟩
        show h78 _ (dTellM n _)
        unfold dTellM; split
        · exact inner n _ (by omega) _ (OkT_n a.1).2
        · exact h_r _
    exact (this _ hn12).2
  · exact h_r W
theorem h_mid {W : Wt} (hW : WO W) : h78 W (dMid 0 W) := by
  unfold dMid; rw [dFades_0]; exact h_tells hW
theorem h_ends {W : Wt} (hW : WO W) : h78 W (dEnds 0 W) := by
  obtain ⟨w1, -⟩ := dE1_w hW
  obtain ⟨w2, -⟩ := dBack_w (tr := 0) w1
  have b1 : h78 W (dE1 W) := by
    unfold dE1; split
    · exact h_u (by omega)
    · exact h_r W
  have b2 : h78 (dE1 W) (dBack 0 (dE1 W)) := h_fo (fun m V hm => by
    unfold dBack1; split
    · rw [h_n]; exact h_u (by omega)
    · exact h_r V) _ (OkT_n w1.1).2
  have b3 : h78 (dBack 0 (dE1 W)) (dHome (dBack 0 (dE1 W))) := h_fo (fun m V hm => h_u (by omega)) _ (OkT_n w2.1).2
  unfold dEnds; split
  · exact h_t b1 b2
  · rw [h_n]; exact h_t (h_t b1 b2) b3
theorem h_day {fa : Int32} {s : Wt × Int32} (hW : WO s.1) : h78 s.1 (dDay fa 0 s).1 := by
  unfold dDay dNext; split
  · obtain ⟨a1, -⟩ := dWages_w (fa := fa) (tr := 0) hW
    obtain ⟨a2, -⟩ := dMid_w (tr := 0) a1
    dsimp only
    exact h_t (h_t (h_wages hW) (h_mid a1)) (h_t (h_ends a2) (h_u (by omega)))
  · dsimp only
    exact h_t (h_mid hW) (h_u (by omega))
/-! how long it lasts -/
def du (fa : Int32) : Nat → (Wt × Int32) → Nat
  | 0, _ => 0
  | f + 1, s => if s.1 1 = 1 then du fa f (dDay fa 0 s) + 1 else 0
def ru (fa : Int32) : Nat → (Wt × Int32) → (Wt × Int32)
  | 0, s => s
  | f + 1, s => if s.1 1 = 1 then ru fa f (dDay fa 0 s) else s
theorem du_le (fa : Int32) : ∀ f s, du fa f s ≤ f
  | 0, _ => Nat.le_refl 0
  | f + 1, s => by
    unfold du; split
    · have := du_le fa f (dDay fa 0 s); omega
    · omega
theorem ru_w {fa : Int32} : ∀ f s, WO s.1 → WO (ru fa f s).1 ∧ h78 s.1 (ru fa f s).1
  | 0, s, h => ⟨h, h_r _⟩
  | f + 1, s, h => by
    unfold ru; split
    · obtain ⟨a, b⟩ := ru_w f (dDay fa 0 s) (dDay_w (fa := fa) (tr := 0) h).1
      exact ⟨a, h_t (h_day h) b⟩
    · exact ⟨h, h_r _⟩
theorem ru_add (fa : Int32) (b : Nat) : ∀ a s, (ru fa a s).1 1 = 1 → du fa (a + b) s = a + du fa b (ru fa a s) ∧ ru fa (a + b) s = ru fa b (ru fa a s)
  | 0, s, _ => by rw [Nat.zero_add]; exact ⟨(Nat.zero_add _).symm, rfl⟩
  | a + 1, s, h => by
    by_cases c : s.1 1 = 1
    · have e : ru fa (a + 1) s = ru fa a (dDay fa 0 s) := if_pos c
      rw [e] at h ⊢
      obtain ⟨p, q⟩ := ru_add fa b a (dDay fa 0 s) h
      rw [show a + 1 + b = (a + b) + 1 by omega]
      have e2 : ru fa (a + b + 1) s = ru fa (a + b) (dDay fa 0 s) := if_pos c
      have e3 : du fa (a + b + 1) s = du fa (a + b) (dDay fa 0 s) + 1 := if_pos c
      rw [e2, e3, p, q]
      exact ⟨by omega, rfl⟩
    · have e : ru fa (a + 1) s = s := if_neg c
      rw [e] at h
      exact absurd h c
theorem ru_stop (fa : Int32) (b : Nat) : ∀ a s, (ru fa a s).1 1 ≠ 1 → du fa (a + b) s = du fa a s ∧ ru fa (a + b) s = ru fa a s
  | 0, s, h => by
    rw [Nat.zero_add]
    cases b with
    | zero => exact ⟨rfl, rfl⟩
    | succ b =>
      have h : s.1 1 ≠ 1 := h
      exact ⟨if_neg h, if_neg h⟩
  | a + 1, s, h => by
    by_cases c : s.1 1 = 1
    · have e : ru fa (a + 1) s = ru fa a (dDay fa 0 s) := if_pos c
      rw [e] at h ⊢
      obtain ⟨p, q⟩ := ru_stop fa b a (dDay fa 0 s) h
      rw [show a + 1 + b = (a + b) + 1 by omega]
      have e2 : ru fa (a + b + 1) s = ru fa (a + b) (dDay fa 0 s) := if_pos c
      have e3 : du fa (a + b + 1) s = du fa (a + b) (dDay fa 0 s) + 1 := if_pos c
      have e4 : du fa (a + 1) s = du fa a (dDay fa 0 s) + 1 := if_pos c
      rw [e2, e3, e4, p, q]
      exact ⟨rfl, rfl⟩
    · rw [show a + 1 + b = (a + b) + 1 by omega]
      have e2 : ru fa (a + b + 1) s = s := if_neg c
      have e3 : du fa (a + b + 1) s = 0 := if_neg c
      have e4 : du fa (a + 1) s = 0 := if_neg c
      have e5 : ru fa (a + 1) s = s := if_neg c
      rw [e2, e3, e4, e5]
      exact ⟨rfl, rfl⟩
theorem ru_war {fa : Int32} {f : Nat} {s : Wt × Int32} (h : WO s.1) : (ru fa f s).1 1 = 0 ∨ (ru fa f s).1 1 = 1 := OkD_war (ru_w f s h).1.2.1
/-- what was lasting, told as the class tells it and as the model does -/
def Ag (v v' : Mem) : Prop := ∀ c, c ≠ 14 → c ≠ 96 → ¬ (97 ≤ c ∧ c ≤ 105) → v' c = v c
theorem Ag_t {v v' v'' : Mem} (h : Ag v v') (h' : Ag v' v'') : Ag v v'' := fun c a b d => (h' c a b d).trans (h c a b d)
theorem c_until {fa : Int32} {B : Wt} {M : Nat} (hM : M < 1000) : ∀ (f d F : Nat) (v : Mem) (s : Wt × Int32), d + f = M → f < F → XR_104 fa s.2 B v s.1 → WO s.1 → ∃ v', FX2_until_96_L2 F (nI M) (nI d) v = some (if (ru fa f s).1 1 = 0 then nI (d + du fa f s) else -1, v') ∧ XR_104 fa (ru fa f s).2 B v' (ru fa f s).1 ∧ Ag v v' ∧ v' 96 = v 96 := by
  intro f
  induction f with
  | zero =>
    intro d F v s hd hF hX hW
    obtain ⟨F, rfl⟩ : ∃ F', F = F' + 1 := ⟨F - 1, by omega⟩
    refine ⟨v, ?_, hX, fun c _ _ _ => rfl, rfl⟩
    show FX2_until_96_b2 _ _ _ _ = some (if s.1 1 = 0 then nI (d + 0) else -1, v)
    unfold FX2_until_96_b2 FX2_until_96_b31
    rw [if_pos (by rw [nn_le (by omega) (by omega)]; omega), gwar_97 hX.1, Nat.add_zero]
    split <;> rfl
  | succ f ih =>
    intro d F v s hd hF hX hW
    obtain ⟨F, rfl⟩ : ∃ F', F = F' + 1 := ⟨F - 1, by omega⟩
    show ∃ v', FX2_until_96_b2 _ _ _ _ = _ ∧ _
    unfold FX2_until_96_b2 FX2_until_96_b31 ru du
    rw [if_neg (by rw [nn_le (by omega) (by omega)]; omega), gwar_97 hX.1]
    by_cases c : s.1 1 = 1
    · rw [if_pos c, if_pos c, if_pos c]
      obtain ⟨v1, g1, x1⟩ := c_day_104 hX hW
      obtain ⟨w1, -⟩ := dDay_w (fa := fa) (tr := 0) hW
      obtain ⟨v2, g2, x2, ag, e96⟩ := ih (d + 1) F v1 (dDay fa 0 s) (by omega) (by omega) x1 w1
      have f1 := frX3_pass_104 _ g1
      refine ⟨v2, ?_, x2, fun c h1 h2 h3 => (ag c h1 h2 h3).trans ?_, e96.trans (f1 96 (by decide))⟩
      · rw [g1, b_some, nI_1, g2, show d + (du fa f (dDay fa 0 s) + 1) = d + 1 + du fa f (dDay fa 0 s) by omega]
      · by_cases c31 : c = 31
        · subst c31; rw [x1.2.2.2.2, hX.2.2.2.2]
        · exact f1 c (by simp; omega)
    · rw [if_neg c, if_neg c, if_neg c, Nat.add_zero]
      refine ⟨v, ?_, hX, fun c _ _ _ => rfl, rfl⟩
      split <;> rfl
theorem c_imag {v : Mem} {W : Wt} (hX : XD v W) (hc : v 104 3 = 0) (fa : Int32) : ∃ v', FX2_imagine_96 fa v = some v' ∧ XR_104 fa 0 (v 31) v' W ∧ Ag v v' ∧ v' 96 = v 96 := by
  have e : FX0_become_97_23 v = some (beM v 23 97) := rfl
  unfold FX2_imagine_96
  rw [e, b_some, b_some, b_some]
  have ec : ∀ c, c ≠ 104 → (c < 97 ∨ 103 < c) → (mupd (mupd (beM v 23 97) 104 5 fa) 104 6 0) c = v c := fun c h1 h2 => by rw [m_ne h1, m_ne h1, beM_ne v 23 97 (by omega)]
  have hB := be_BR (d := 97) (by omega) hX.1.2.2
  refine ⟨_, rfl, ⟨⟨TR_cg hX.1.1 (fun j hj => ec _ (by omega) (by omega)), LC_cg hX.1.2.1 (fun j hj => ec _ (by omega) (by omega)), BR_cg hB (fun j hj => by rw [m_ne (by omega), m_ne (by omega)])⟩, ?_, ?_, ?_, ec 31 (by omega) (by omega)⟩, fun c h1 h2 h3 => ec c (by omega) (by omega), ec 96 (by omega) (by omega)⟩
  · rw [m_eq, up_ne (by omega), m_eq, up_ne (by omega), beM_ne v 23 97 (by omega)]; exact hc
  · rw [m_eq, up_ne (by omega), m_eq, up_eq]
  · rw [m_eq, up_eq]
theorem SP_ag {v v' w : Mem} (h : SP v w) (a : Ag v v') (e : v' 104 3 = 0) : SP v' w := by
  obtain ⟨p, b, c, d, f, g⟩ := h
  exact ⟨p, XD_cg (fun c hc => a c (by omega) (by omega) (by omega)) b, e, UN_cg (fun c hc => a c (by omega) (by omega) (by omega)) d, IMG_cg (fun c hc => a c (by omega) (by omega) (by omega)) f, RD_cg (a 34 (by omega) (by omega) (by omega)) (a 35 (by omega) (by omega) (by omega)) g⟩
