/-! a text put together piece by piece -/
def bsS (k : Nat) : List Nat := (strByt.getD k []).map nt
theorem sc_ok : ∀ k, k < 23 → strLen.getD k 0 = (bsS k).length ∧ (∀ c ∈ bsS k, c < 128) ∧ (bsS k).map nI = strByt.getD k [] := by decide +kernel
theorem Sg_c (w : Wd) {k : Nat} (hk : k < 23) : Sg w (2000000 + k) (3000000 + k) (bsS k) := by
  obtain ⟨a1, a2, a3⟩ := sc_ok k hk
  have hs : 2000000 ≤ 2000000 + k ∧ 2000000 + k < 2000000 + strN := ⟨by omega, by show _ < 2000000 + 23; omega⟩
  have hu : 3000000 ≤ 3000000 + k ∧ 3000000 + k < 3000000 + strN := ⟨by omega, by show _ < 3000000 + 23; omega⟩
  refine ⟨if_pos hs, if_pos hs, ?_, ?_, fun j c hj => ⟨?_, a2 c (List.mem_of_getElem? hj)⟩⟩
  · unfold sVal
    rw [if_pos hs, show 2000000 + k + 1000000 = 3000000 + k by omega]
  · unfold bLen
    rw [if_pos hu, show 3000000 + k - 3000000 = k by omega, a1]
  · unfold bAt
    rw [if_pos hu, show 3000000 + k - 3000000 = k by omega, ← a3, List.getD_eq_getElem?_getD, List.getElem?_map, hj]
    rfl
theorem Kp_FT {w w' w'' : Wd} {S : Nat → Prop} (h : Kp (fun _ => False) w w') (k : Kp S w' w'') (hS : ∀ c, c < w.1.length → ¬ S c) : Kp (fun _ => False) w w'' := Kp_tr h k (fun c hc z => hS c hc z)
theorem Bu_kp {S : Nat → Prop} {w w' : Wd} {b v : Nat} {bs : List Nat} (h : Bu w b v bs) (k : Kp S w w') (hb : ¬ S b) (hv : ¬ S v) : Bu w' b v bs := by
  obtain ⟨h1, h2, ⟨cap, h3, h4, h5, h6⟩, h7, h8, h9⟩ := h
  have ab := Kp_agr k (sh_len h1) hb
  have av := Kp_agr k (sh_len h3) hv
  unfold Bu
  rw [ab.1, ab.2.1, ab.2.2, av.1, av.2.2]
  exact ⟨h1, h2, ⟨cap, h3, h4, h5, h6⟩, h7, h8, h9⟩
/-- a text in the making, all of it behind w0 -/
def Ck (w0 w : Wd) (b v : Nat) (bs : List Nat) (n : Nat) : Prop := Bu w b v bs ∧ w0.1.length ≤ b ∧ w0.1.length ≤ v ∧ Kp (fun _ => False) w0 w ∧ Rm w n
theorem Ck_lt {w0 w : Wd} {b v n : Nat} {bs : List Nat} (h : Ck w0 w b v bs n) : b < w.1.length ∧ v < w.1.length ∧ w.1.length ≤ 590000 := by
  obtain ⟨h1, h2, ⟨cap, h3, -⟩, -⟩ := h.1
  exact ⟨sh_len h1, sh_len h3, by have := h.2.2.2.2.1; omega⟩
theorem Ck_le {w0 w : Wd} {b v n m : Nat} {bs : List Nat} (h : Ck w0 w b v bs n) (k : m ≤ n) : Ck w0 w b v bs m := ⟨h.1, h.2.1, h.2.2.1, h.2.2.2.1, Rm_le h.2.2.2.2 k⟩
theorem ck_new {w : Wd} {n : Nat} (hR : Rm w (n + 3)) : ∃ w', (∀ (β : Type) (k : Nat → Dm β), (dbind (dnew (nwO 14)) fun x1 => dbind (dread (isC x1 14)) fun _ => dbind (DJ4_init_da8c8 x1) fun _ => k x1).1 w = (k w.1.length).1 w') ∧ Ck w w' w.1.length (w.1.length + 1) [] n := by
  obtain ⟨w', e1, e2, e3, e4, e5⟩ := r_new hR
  exact ⟨w', e1, e2, Nat.le_refl _, by omega, e3, e4⟩
theorem ck_app {w0 w : Wd} {b v n s u : Nat} {bs cs : List Nat} (h : Ck w0 w b v bs (n + 68)) (hs : Sg w s u cs) (hsb : s ≠ b) (hub : u ≠ b) (huv : u ≠ v) (hl : bs.length + cs.length ≤ 400) : ∃ w' v', (∀ (β : Type) (k : Nat → Dm β), (dbind (dread (isC b 14)) fun _ => dbind (DJ4_append_15ec4 b s) fun x => k x).1 w = (k b).1 w') ∧ Ck w0 w' b v' (bs ++ cs) n ∧ Kp (fun c => c = b ∨ c = v) w w' := by
  obtain ⟨w', v', e1, e2, e3, e4, e5⟩ := r_app h.1 hs hsb hub huv hl h.2.2.2.2
  have hl0 := Kp_len h.2.2.2.1
  have h2 := h.2.1
  have h3 := h.2.2.1
  refine ⟨w', v', fun β k => ?_, ⟨e2, h.2.1, by omega, Kp_FT h.2.2.2.1 e3 (fun c hc z => by omega), e5⟩, e3⟩
  rw [b_rd (isC_s h.1.1), b_ok e1]
theorem ck_con {w0 w : Wd} {b v n k : Nat} {bs : List Nat} (h : Ck w0 w b v bs (n + 68)) (hk : k < 23) (s : Nat) (es : s = 2000000 + k) (hl : bs.length + (bsS k).length ≤ 400) : ∃ w' v', (∀ (β : Type) (kk : Nat → Dm β), (dbind (dread (isC b 14)) fun _ => dbind (DJ4_append_15ec4 b s) fun x => kk x).1 w = (kk b).1 w') ∧ Ck w0 w' b v' (bs ++ bsS k) n ∧ Kp (fun c => c = b ∨ c = v) w w' := by
  obtain ⟨l1, l2, l3⟩ := Ck_lt h
  subst es
  exact ck_app h (Sg_c w hk) (by omega) (by omega) (by omega) hl
theorem ck_num {w0 w : Wd} {b v n x : Nat} {bs : List Nat} (h : Ck w0 w b v bs (n + 68)) (hx : x < 1000) (i : Int32) (ei : i = nI x) (hl : bs.length + 3 ≤ 400) : ∃ w' v', (∀ (β : Type) (k : Nat → Dm β), (dbind (dread (isC b 14)) fun _ => dbind (DJ4_append_bf812 b i) fun x => k x).1 w = (k b).1 w') ∧ Ck w0 w' b v' (bs ++ dg x) n ∧ Kp (fun c => c = b ∨ c = v) w w' := by
  subst ei
  have h3' := (dg_d x hx).2.2
  obtain ⟨w', v', e1, e2, e3, e4, e5⟩ := r_apn h.1 hx (by omega) h.2.2.2.2
  have hl0 := Kp_len h.2.2.2.1
  have h2 := h.2.1
  have h3 := h.2.2.1
  refine ⟨w', v', fun β k => ?_, ⟨e2, h.2.1, by omega, Kp_FT h.2.2.2.1 e3 (fun c hc z => by omega), e5⟩, e3⟩
  rw [b_rd (isC_s h.1.1), b_ok e1]
theorem ck_str {w0 w : Wd} {b v n : Nat} {bs : List Nat} (h : Ck w0 w b v bs (n + 77)) : ∃ w', (∀ (β : Type) (k : Nat → Dm β), (dbind (dread (isC b 14)) fun _ => dbind (DJ4_toString_0e30d b) fun x => k x).1 w = (k w.1.length).1 w') ∧ Sg w' w.1.length (w.1.length + 1) bs ∧ Ck w0 w' b v bs n ∧ Kp (fun _ => False) w w' := by
  obtain ⟨w', e1, e2, e3, e4, e5⟩ := r_str h.1 h.2.2.2.2
  refine ⟨w', fun β k => ?_, e2, ⟨Bu_kp h.1 e3 (fun z => z) (fun z => z), h.2.1, h.2.2.1, Kp_FT h.2.2.2.1 e3 (fun c _ z => z), e4⟩, e3⟩
  rw [b_rd (isC_s h.1.1), b_ok e1]
/-- other things happen meanwhile -/
theorem Ck_kp {S : Nat → Prop} {w0 w w' : Wd} {b v n m : Nat} {bs : List Nat} (h : Ck w0 w b v bs n) (k : Kp S w w') (hb : ¬ S b) (hv : ¬ S v) (hS : ∀ c, c < w0.1.length → ¬ S c) (hR : Rm w' m) : Ck w0 w' b v bs m :=
  ⟨Bu_kp h.1 k hb hv, h.2.1, h.2.2.1, Kp_FT h.2.2.2.1 k hS, hR⟩
/-- a line is done: from nothing to a word of it -/
theorem Kp_F {S : Nat → Prop} {w w' : Wd} (h : Kp (fun _ => False) w w') : Kp S w w' := Kp_mono h (fun _ _ z => z.elim)
/-! drawn numbers -/
theorem nI_div {a b : Nat} (ha : a < 2147483648) (hb : b < 2147483648) : nI a / nI b = nI (a / b) := by
  apply Int32.toInt_inj.mp
  rw [Int32.toInt_div, nI_toInt ha, nI_toInt hb, nI_toInt (Nat.lt_of_le_of_lt (Nat.div_le_self a b) ha)]
  have : (a : Int).tdiv b = ((a / b : Nat) : Int) := by rw [Int.tdiv_eq_ediv_of_nonneg (by omega)]; rfl
  rw [this]
  have h2 : a / b < 2147483648 := Nat.lt_of_le_of_lt (Nat.div_le_self a b) ha
  generalize a / b = x at h2
  rw [Int.bmod_eq_of_le (by omega) (by omega)]
theorem rm_nn {a b : Nat} (ha : a < 2147483648) (h0 : 0 < b) (hb : b < 2147483648) : rmI (nI a) (nI b) = some (nI (a % b)) := by
  rw [rm_ok (by rw [show (0 : Int32) = nI 0 by decide, nn_eq hb (by omega)]; omega), nI_div ha hb, nI_mul, nI_sub (Nat.div_mul_le_self a b)]
  have := Nat.div_add_mod a b
  rw [Nat.mul_comm] at this
  rw [show a - a / b * b = a % b by omega]
def btN (x : Int32) (lo hi : Nat) : Nat := lo + x.toBitVec.toNat % 1048576 % (hi - lo + 1)
theorem and20 (x : Int32) : (x &&& 1048575) = nI (x.toBitVec.toNat % 1048576) := by
  apply tb_ext
  intro k hk
  rw [tb_and, tb_big, show (1048576 : Nat) = 2 ^ 20 by decide, Nat.testBit_mod_two_pow]
  have e : ∀ k, k < 32 → tb (1048575 : Int32) k = decide (k < 20) := by decide
  rw [e k hk, decide_eq_true hk]
  show (x.toBitVec.getLsbD k && decide (k < 20)) = (true && (decide (k < 20) && x.toBitVec.toNat.testBit k))
  rw [Bool.true_and, Bool.and_comm]
  rfl
theorem btN_r (x : Int32) {lo hi : Nat} (h : lo ≤ hi) : lo ≤ btN x lo hi ∧ btN x lo hi ≤ hi := by
  have hm := Nat.mod_lt (x.toBitVec.toNat % 1048576) (show 0 < hi - lo + 1 by omega)
  unfold btN
  omega
theorem btN_v (x : Int32) {lo hi : Nat} (h : lo ≤ hi) (hh : hi < 1000000) (w : Wd) : (DL_between x (nI lo) (nI hi)).1 w = some (nI (btN x lo hi), w) := by
  have e1 : (nI hi - nI lo) + 1 = nI (hi - lo + 1) := by rw [nI_sub h]; exact nI_1 _
  have hj : x.toBitVec.toNat % 1048576 < 1048576 := Nat.mod_lt _ (by decide)
  unfold DL_between
  rw [and20, e1, b_lf (rm_nn (by omega) (by omega) (by omega)), u_rt, nI_add]
  rfl
/-- one draw -/
theorem b_bt {β : Type} (x : Int32) (lo hi : Nat) (h : lo ≤ hi) (hh : hi < 1000000) (l r : Int32) (el : l = nI lo) (er : r = nI hi) (k : Int32 → Dm β) (w : Wd) : (dbind (DL_between x l r) k).1 w = (k (nI (btN x lo hi))).1 w := by
  subst el
  subst er
  exact b_ok (btN_v x h hh w)
