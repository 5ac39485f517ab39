/-! a text begun, a text done -/
theorem r_new {w : Wd} {n : Nat} (hR : Rm w (n + 3)) : ∃ w', (∀ (β : Type) (k : Nat → Dm β), (dbind (dnew (nwO 14)) fun x1 => dbind (dread (isC x1 14)) fun _ => dbind (DJ4_init_da8c8 x1) fun _ => k x1).1 w = (k w.1.length).1 w') ∧ Bu w' w.1.length (w.1.length + 1) [] ∧ Kp (fun _ => False) w w' ∧ Rm w' n ∧ w'.1.length = w.1.length + 2 := by
  have k0 := Kp_nq (fun c => c = w.1.length) w (.inr (.inl 14)) (fun _ => none) (fun _ => 0)
  have n0 := Kn_nq w (.inr (.inl 14)) (fun _ => none) (fun _ => 0)
  have l0 := len_nq w (.inr (.inl 14)) (fun _ => none) (fun _ => 0)
  have R0 : Rm (nq w (.inr (.inl 14)) (fun _ => none) (fun _ => 0)) (n + 2) := Rm_nq (n := n + 2) (c := 1) hR (by decide) (by decide)
  obtain ⟨w0, hw0⟩ : ∃ w0, w0 = nq w (.inr (.inl 14)) (fun _ => none) (fun _ => 0) := ⟨_, rfl⟩
  rw [← hw0] at k0 n0 l0 R0
  have k1 := Kp_nq (fun c => c = w.1.length) w0 (.inr (.inr (3, 16))) (fun _ => none) (fun _ => 0)
  have n1 := Kn_nq w0 (.inr (.inr (3, 16))) (fun _ => none) (fun _ => 0)
  have n0' := Kn_kp n0 (Kp_nq (fun _ => False) w0 (.inr (.inr (3, 16))) (fun _ => none) (fun _ => 0)) (fun z => z)
  have l1 := len_nq w0 (.inr (.inr (3, 16))) (fun _ => none) (fun _ => 0)
  have R1 : Rm (nq w0 (.inr (.inr (3, 16))) (fun _ => none) (fun _ => 0)) n := Rm_nq (n := n) (c := 2) R0 (by decide) (by decide)
  obtain ⟨w1, hw1⟩ : ∃ w1, w1 = nq w0 (.inr (.inr (3, 16))) (fun _ => none) (fun _ => 0) := ⟨_, rfl⟩
  rw [← hw1] at k1 n1 n0' l1 R1
  rw [l0] at n1 l1
  have k2 := Kp_wo w1 w.1.length (oupd (fun _ => none) 0 (some (w.1.length + 1)))
  have n2 := Kn_wo n0' (oupd (fun _ => none) 0 (some (w.1.length + 1)))
  have n2v := Kn_kp n1 k2 (by omega)
  obtain ⟨w2, hw2⟩ : ∃ w2, w2 = wo w1 w.1.length (oupd (fun _ => none) 0 (some (w.1.length + 1))) := ⟨_, rfl⟩
  rw [← hw2] at k2 n2 n2v
  have k3 := Kp_wr w2 w.1.length (upd (fun _ => 0) 1 0)
  have n3 := Kn_wr n2 (upd (fun _ => 0) 1 0)
  have n3v := Kn_kp n2v k3 (by omega)
  have K : Kp (fun _ => False) w (wr w2 w.1.length (upd (fun _ => 0) 1 0)) := by
    have z := Kp_tr k0 (Kp_tr k1 (Kp_tr k2 k3 (fun _ _ z => z)) (fun _ _ z => z)) (fun _ _ z => z)
    exact ⟨z.1, fun c hc _ => z.2 c hc (by show ¬ c = w.1.length; omega)⟩
  refine ⟨wr w2 w.1.length (upd (fun _ => 0) 1 0), fun β k => ?_, ⟨n3.1, by rw [n3.2.1]; rfl, ⟨16, n3v.1, by decide, by decide, fun j hj => by rw [n3v.2.2]; show (-128 : Int32) ≤ 0 ∧ (0 : Int32) ≤ 127; decide⟩, by rw [n3.2.2]; rfl, by rw [n3.2.2]; rfl, fun j c hj => by cases hj⟩, K, Rm_wr (by rw [hw2]; exact Rm_wo R1), ?_⟩
  · have ei : (DJ4_init_da8c8 w.1.length).1 w0 = some ((), wr w2 w.1.length (upd (fun _ => 0) 1 0)) := by
      have e := b_nw (k := fun x2 => dbind (dput (pfO w.1.length 14 0 (some x2))) fun _ => dbind (dput (pfI w.1.length 14 1 0)) fun _ => dret ()) (nwA_n (κ := 3) (n := 16) (by decide) w0) (n := n) (c := 2) R0 (by decide) (by decide)
      have hin : (DJ5_init_d00df w.1.length 16).1 w0 = some ((), wr w2 w.1.length (upd (fun _ => 0) 1 0)) := by
        unfold DJ5_init_d00df
        rw [i_f z1]
        refine e.trans ?_
        rw [← hw1, l0, b_po n0' 0, ← hw2, b_fi n2 1, u_rt]
      unfold DJ4_init_da8c8
      rw [b_rd (isC_s n0.1), b_ok hin, u_rt]
    rw [b_nw (show nwO 14 w = some (.inr (.inl 14), fun _ => none, fun _ => 0) from rfl) (n := n + 2) (c := 1) hR (by decide) (by decide), ← hw0, b_rd (isC_s n0.1), b_ok ei]
  · show w2.1.length = _
    rw [hw2]
    show w1.1.length = _
    rw [l1]
theorem r_str {w : Wd} {b v n : Nat} {bs : List Nat} (h : Bu w b v bs) (hR : Rm w (n + 77)) : ∃ w', (DJ4_toString_0e30d b).1 w = some (w.1.length, w') ∧ Sg w' w.1.length (w.1.length + 1) bs ∧ Kp (fun _ => False) w w' ∧ Rm w' n ∧ w'.1.length = w.1.length + 2 := by
  obtain ⟨h1, h2, ⟨cap, h3, h4, h5, h6⟩, h7, h8, h9⟩ := id h
  have hlen : w.1.length + 77 ≤ 590000 := by have := hR.1; omega
  have lb := sh_len h1
  have lv := sh_len h3
  have k0 := Kp_nq (fun c => c = w.1.length) w (.inr (.inl 13)) (fun _ => none) (fun _ => 0)
  have n0 := Kn_nq w (.inr (.inl 13)) (fun _ => none) (fun _ => 0)
  have l0 := len_nq w (.inr (.inl 13)) (fun _ => none) (fun _ => 0)
  have R0 : Rm (nq w (.inr (.inl 13)) (fun _ => none) (fun _ => 0)) (n + 76) := Rm_nq (n := n + 76) (c := 1) hR (by decide) (by decide)
  obtain ⟨w0, hw0⟩ : ∃ w0, w0 = nq w (.inr (.inl 13)) (fun _ => none) (fun _ => 0) := ⟨_, rfl⟩
  rw [← hw0] at k0 n0 l0 R0
  have k1 := Kp_wr w0 w.1.length (upd (fun _ => 0) 1 0)
  have n1 := Kn_wr n0 (upd (fun _ => 0) 1 0)
  obtain ⟨w1, hw1⟩ : ∃ w1, w1 = wr w0 w.1.length (upd (fun _ => 0) 1 0) := ⟨_, rfl⟩
  rw [← hw1] at k1 n1
  have l1 : w1.1.length = w.1.length + 1 := by rw [hw1]; exact l0
  have R1 : Rm w1 (n + 76) := by rw [hw1]; exact R0
  have K1 := Kp_tr k0 k1 (fun _ _ z => z)
  have ab := Kp_agr K1 lb (by show ¬ b = w.1.length; omega)
  have av := Kp_agr K1 lv (by show ¬ v = w.1.length; omega)
  have ab0 := Kp_agr k0 lb (by show ¬ b = w.1.length; omega)
  have hv3 : w1.1[v]? = some (.inr (.inr (3, cap))) := av.1.trans h3
  have mv : w1.2.2 v = w.2.2 v := av.2.2
  -- the row of bytes
  have row : ∃ P, (DJ7_copyOfRange_39247 v 0 (nI bs.length)).1 w1 = some (w.1.length + 1, nq w1 (.inr (.inr (3, bs.length))) (fun _ => none) P) ∧ ∀ j, j < bs.length → P j = w.2.2 v j := by
    unfold DJ7_copyOfRange_39247
    rw [i_t rfl, b_rd (blenC (by omega) hv3)]
    by_cases c : bs.length = cap
    · refine ⟨w.2.2 v, ?_, fun j _ => rfl⟩
      have en : nwCB v w1 = some (.inr (.inr (3, bs.length)), fun _ => none, w.2.2 v) := by
        unfold nwCB
        rw [hv3]
        show (if _ then _ else none) = _
        rw [if_pos (fun j hj => by rw [mv]; exact h6 j hj), mv, c]
      have hb : isBy w1.1.length (nq w1 (.inr (.inr (3, bs.length))) (fun _ => none) (w.2.2 v)) = some () := by
        unfold isBy
        rw [nq_s]
        rfl
      rw [i_t (by rw [c]), b_nw en (n := n) (c := 76) R1 (by decide) (by show bs.length ≤ 12 * 76; omega), b_rd hb, u_rt, l1]
    · refine ⟨va_cpy (w1.2.2 v) (fun _ => 0) 0 0 bs.length, ?_, fun j hj => ?_⟩
      · have hq : blen v (nq w1 (.inr (.inr (3, bs.length))) (fun _ => none) (fun _ => 0)) = some (nI cap) := blenC (by omega) ((nq_lt (sh_len hv3)).1.trans hv3)
        have hcl : (DJ7_checkLength_df160 0 (nI bs.length)).1 w1 = some ((), w1) := by
          unfold DJ7_checkLength_df160
          rw [i_t (by rw [i_le]; exact nI_pos (by omega)), u_rt]
        have hin : (DJ7_copyOfRangeByte_39247 v 0 (nI bs.length)).1 w1 = some (w.1.length + 1, nq w1 (.inr (.inr (3, bs.length))) (fun _ => none) (va_cpy (w1.2.2 v) (fun _ => 0) 0 0 bs.length)) := by
          unfold DJ7_copyOfRangeByte_39247
          rw [b_ok hcl, Int32.sub_zero, b_nw (nwA_n (κ := 3) (n := bs.length) (by omega) w1) (n := n) (c := 76) R1 (by decide) (by show bs.length ≤ 12 * 76; omega), b_rd hq]
          have em2 : (if nI bs.length < (nI cap - 0) then nI bs.length else (nI cap - 0)) = nI bs.length := by
            rw [Int32.sub_zero, if_pos (by rw [nn_lt (by omega) (by omega)]; omega)]
          rw [em2, bcpy_nq (by omega) hv3 h4 (Nat.le_refl _) (by omega) (fun j hj => by rw [mv]; exact h6 j (by omega)), u_rt, l1]
        unfold DJ7_copyOfRange_39247_b10
        rw [i_f (by rw [nn_eq (by omega) (by omega)]; exact c), b_ok hin, u_rt]
      · unfold va_cpy
        rw [if_pos ⟨by omega, by omega⟩, mv, Nat.zero_add, Nat.sub_zero]
  obtain ⟨P, e2, hP⟩ := row
  have k2 := Kp_nq (fun c => c = w.1.length) w1 (.inr (.inr (3, bs.length))) (fun _ => none) P
  have n2 := Kn_nq w1 (.inr (.inr (3, bs.length))) (fun _ => none) P
  have n2s := Kn_kp n1 (Kp_nq (fun _ => False) w1 (.inr (.inr (3, bs.length))) (fun _ => none) P) (fun z => z)
  have l2 := len_nq w1 (.inr (.inr (3, bs.length))) (fun _ => none) P
  have R2 : Rm (nq w1 (.inr (.inr (3, bs.length))) (fun _ => none) P) n := Rm_nq (n := n) (c := 76) R1 (by decide) (by show bs.length ≤ 12 * 76; omega)
  obtain ⟨w2, hw2⟩ : ∃ w2, w2 = nq w1 (.inr (.inr (3, bs.length))) (fun _ => none) P := ⟨_, rfl⟩
  rw [← hw2] at e2 k2 n2 n2s l2 R2
  rw [l1] at n2 l2
  have k3 := Kp_wo w2 w.1.length (oupd (fun _ => none) 0 (some (w.1.length + 1)))
  have n3 := Kn_wo n2s (oupd (fun _ => none) 0 (some (w.1.length + 1)))
  have n3v := Kn_kp n2 k3 (by omega)
  have K : Kp (fun _ => False) w (wo w2 w.1.length (oupd (fun _ => none) 0 (some (w.1.length + 1)))) := by
    have z := Kp_tr K1 (Kp_tr k2 k3 (fun _ _ z => z)) (fun _ _ z => z)
    exact ⟨z.1, fun c hc _ => z.2 c hc (by show ¬ c = w.1.length; omega)⟩
  refine ⟨wo w2 w.1.length (oupd (fun _ => none) 0 (some (w.1.length + 1))), ?_, ⟨?_, ?_, ?_, bLenC (by omega) n3v.1, fun j c hj => ?_⟩, K, Rm_wo R2, l2⟩
  · have b0 : w0.1[b]? = some (.inr (.inl 14)) := ab0.1.trans h1
    have r0 : w0.2.1 b 0 = some v := by rw [ab0.2.1]; exact h2
    have f1 : w0.2.2 b 1 = 0 := by rw [ab0.2.2]; exact h7
    have f3 : w0.2.2 b 3 = nI bs.length := by rw [ab0.2.2]; exact h8
    have hin : (DJ0_init_db425 w.1.length b).1 w0 = some ((), wo w2 w.1.length (oupd (fun _ => none) 0 (some (w.1.length + 1)))) := by
      unfold DJ0_init_db425
      have gv : (DJ5_getValue_6d5f1 b).1 w0 = some (v, w0) := by
        unfold DJ5_getValue_6d5f1
        rw [b_rd ((gfR_s b0 0).trans r0), u_rt]
      have gl : (DJ4_length_8abf5 b).1 w0 = some (nI bs.length, w0) := by
        unfold DJ4_length_8abf5
        have hi : (DJ5_length_8abf5 b).1 w0 = some (nI bs.length, w0) := by
          unfold DJ5_length_8abf5
          rw [b_rd (gfI_s b0 3), f3, u_rt]
        rw [b_rd (isC_s b0), b_ok hi, u_rt]
      have eil : (DJ5_isLatin1_aae02 b).1 w0 = some (1, w0) := by
        unfold DJ5_isLatin1_aae02
        rw [i_f z1, b_rd (gfI_s b0 1), f1, i_t rfl, u_rt]
      rw [b_rd (isC_s b0), b_ok gv, b_rd (isC_s b0), b_ok gl, b_rd (isC_s b0), b_ok eil, i_f z1, b_fi n0 1, ← hw1, b_ok e2, b_po n2s 0, u_rt]
    unfold DJ4_toString_0e30d
    have h81 : (DJ0_init_81219 w.1.length b).1 w0 = some ((), wo w2 w.1.length (oupd (fun _ => none) 0 (some (w.1.length + 1)))) := by
      unfold DJ0_init_81219
      rw [b_rd (isC_s n0.1), b_ok hin, u_rt]
    rw [b_nw (show nwO 13 w = some (.inr (.inl 13), fun _ => none, fun _ => 0) from rfl) (n := n + 76) (c := 1) hR (by decide) (by decide), ← hw0, b_rd (isC_s n0.1), b_ok h81, u_rt]
  · unfold isS
    rw [if_neg (by omega)]
    exact isC_s n3.1
  · unfold sCod
    rw [if_neg (by omega), gfI_s n3.1 1, n3.2.2]
    rfl
  · unfold sVal
    rw [if_neg (by omega), gfR_s n3.1 0, n3.2.1]
    rfl
  · have hjl := (List.getElem?_eq_some_iff.mp hj).1
    rw [bAtC (by omega), n3v.2.2, hP j hjl]
    exact h9 j c hj
