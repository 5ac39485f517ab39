/-! frames: the cells that a method may write -/
def FrL (L : List Nat) (u u' : Mem) : Prop := ∀ c, L.contains c = false → u' c = u c
theorem fr_refl (L : List Nat) (u : Mem) : FrL L u u := fun _ _ => rfl
theorem ft {L : List Nat} {u u1 u2 : Mem} (h1 : FrL L u u1) (h2 : FrL L u1 u2) : FrL L u u2 := fun c hc => (h2 c hc).trans (h1 c hc)
theorem fr_ne {L : List Nat} {a c : Nat} (ha : L.contains a = true) (hc : L.contains c = false) : c ≠ a := fun e => by rw [e, ha] at hc; cases hc
theorem fr_upd {L : List Nat} {u u1 : Mem} {a k : Nat} {x : Int32} (ha : L.contains a = true) (g : some (mupd u a k x) = some u1) : FrL L u u1 := fun c hc => by
  rw [← Option.some.inj g]
  exact mupd_ne u k x (fr_ne ha hc)
theorem fr_wr {L : List Nat} {u u1 : Mem} {a n : Nat} {i x : Int32} (ha : L.contains a = true) (g : wrA u a n i x = some u1) : FrL L u u1 := by
  unfold wrA at g
  by_cases q : i < 0 ∨ n ≤ i.toNatClampNeg
  · rw [if_pos q] at g
    cases g
  · rw [if_neg q] at g
    exact fr_upd ha g
theorem fr_cp {L : List Nat} {u u1 : Mem} {a0 a1 n : Nat} (ha : L.contains a1 = true) (g : some (cpM u a0 a1 n) = some u1) : FrL L u u1 := fun c hc => by
  rw [← Option.some.inj g]
  exact mset_ne u _ (fr_ne ha hc)
theorem fr_mono {L L' : List Nat} {u u' : Mem} (h : L.all (fun a => L'.contains a) = true) (g : FrL L u u') : FrL L' u u' := fun c hc => g c (by
  cases e : L.contains c with
  | false => rfl
  | true =>
    have h1 := List.all_eq_true.mp h c (List.contains_iff_mem.mp e)
    rw [h1] at hc
    cases hc)
theorem io {α : Type} {p : Prop} [Decidable p] {a b z : α} (h : (if p then a else b) = z) : (p ∧ a = z) ∨ (¬ p ∧ b = z) := by
  by_cases c : p
  · exact Or.inl ⟨c, by rw [if_pos c] at h; exact h⟩
  · exact Or.inr ⟨c, by rw [if_neg c] at h; exact h⟩
theorem oi {α : Type} {p : Prop} [Decidable p] {a b z : α} (h : (if p then a else b) = z) : (¬ p ∧ b = z) ∨ (p ∧ a = z) := (io h).symm
theorem frX10_forgetAll_52 (u : Mem) {u' : Mem} (h : FX10_forgetAll_52 u = some u') : FrL [52] u u' := by
  unfold FX10_forgetAll_52 at h
  obtain ⟨u1, gu1, h⟩ := o_bind h
  refine ft (fr_upd rfl gu1) ?_
  cases h
  exact fr_refl _ _
theorem frX11_state_0 (p1 : Int32) (u : Mem) {v : Int32} {u' : Mem} (h : FX11_state_0 p1 u = some (v, u')) : FrL [23, 52] u u' := by
  unfold FX11_state_0 at h
  obtain ⟨u1, gu1, h⟩ := o_bind h
  refine ft (fr_upd rfl gu1) ?_
  obtain ⟨u3, gu3, h⟩ := o_bind h
  refine ft (fr_mono rfl (frX10_forgetAll_52 u1 gu3)) ?_
  cases h
  exact fr_refl _ _
theorem frX12_forgetsActs_146 (u : Mem) {u' : Mem} (h : FX12_forgetsActs_146 u = some u') : FrL [146] u u' := by
  unfold FX12_forgetsActs_146 at h
  obtain ⟨u1, gu1, h⟩ := o_bind h
  refine ft (fr_upd rfl gu1) ?_
  cases h
  exact fr_refl _ _
theorem frX12_state_146 (p1 : Int32) (u : Mem) {v : Int32} {u' : Mem} (h : FX12_state_146 p1 u = some (v, u')) : FrL [146, 147] u u' := by
  unfold FX12_state_146 at h
  obtain ⟨u1, gu1, h⟩ := o_bind h
  refine ft (fr_upd rfl gu1) ?_
  obtain ⟨u3, gu3, h⟩ := o_bind h
  refine ft (fr_mono rfl (frX12_forgetsActs_146 u1 gu3)) ?_
  cases h
  exact fr_refl _ _
theorem frX0_start_23 (p1 : Int32) (u : Mem) {u' : Mem} (h : FX0_start_23 p1 u = some u') : FrL [24, 25, 26, 27, 28, 29] u u' := by
  unfold FX0_start_23 at h
  rcases io h with ⟨c1, h⟩ | ⟨c1, h⟩
  · skip
    cases h
    exact fr_refl _ _
  · skip
    rcases io h with ⟨c2, h⟩ | ⟨c2, h⟩
    · skip
      obtain ⟨u3, gu3, h⟩ := o_bind h
      refine ft (fr_wr rfl gu3) ?_
      obtain ⟨u4, gu4, h⟩ := o_bind h
      refine ft (fr_wr rfl gu4) ?_
      obtain ⟨u5, gu5, h⟩ := o_bind h
      refine ft (fr_wr rfl gu5) ?_
      obtain ⟨u6, gu6, h⟩ := o_bind h
      refine ft (fr_wr rfl gu6) ?_
      obtain ⟨u7, gu7, h⟩ := o_bind h
      refine ft (fr_wr rfl gu7) ?_
      obtain ⟨u8, gu8, h⟩ := o_bind h
      refine ft (fr_wr rfl gu8) ?_
      cases h
      exact fr_refl _ _
    · skip
      cases h
      exact fr_refl _ _
theorem fbX11_man_0_33 {v : Int32} {u' : Mem} (l1 l2 l3 t0 : Int32) (u : Mem) (h : FX11_man_0_b33 l1 l2 l3 t0 u = some (v, u')) : FrL [1, 2, 3, 4, 5, 24, 25, 26, 27, 28, 29, 52] u u' := by
  unfold FX11_man_0_b33 at h
  rcases io h with ⟨c1, h⟩ | ⟨c1, h⟩
  · skip
    cases h
    exact fr_refl _ _
  · skip
    rcases io h with ⟨c2, h⟩ | ⟨c2, h⟩
    · skip
      cases h
      exact fr_refl _ _
    · skip
      rcases io h with ⟨c3, h⟩ | ⟨c3, h⟩
      · skip
        obtain ⟨u4, gu4, h⟩ := o_bind h
        refine ft (fr_wr rfl gu4) ?_
        obtain ⟨u5, gu5, h⟩ := o_bind h
        refine ft (fr_wr rfl gu5) ?_
        obtain ⟨u6, gu6, h⟩ := o_bind h
        refine ft (fr_wr rfl gu6) ?_
        obtain ⟨u7, gu7, h⟩ := o_bind h
        refine ft (fr_wr rfl gu7) ?_
        obtain ⟨u9, gu9, h⟩ := o_bind h
        refine ft (fr_mono rfl (frX0_start_23 (u 1 0) u7 gu9)) ?_
        obtain ⟨u10, gu10, h⟩ := o_bind h
        refine ft (fr_upd rfl gu10) ?_
        obtain ⟨u12, gu12, h⟩ := o_bind h
        refine ft (fr_mono rfl (frX10_forgetAll_52 u10 gu12)) ?_
        cases h
        exact fr_refl _ _
      · skip
        cases h
        exact fr_refl _ _
theorem frX11_man_0 (p1 p2 p3 : Int32) (u : Mem) {v : Int32} {u' : Mem} (h : FX11_man_0 p1 p2 p3 u = some (v, u')) : FrL [1, 2, 3, 4, 5, 24, 25, 26, 27, 28, 29, 52] u u' := by
  unfold FX11_man_0 at h
  obtain ⟨x1, gx1, h⟩ := o_bind h
  rcases io h with ⟨c2, h⟩ | ⟨c2, h⟩
  · skip
    exact fbX11_man_0_33 p1 p2 p3 0 u h
  · skip
    rcases io h with ⟨c3, h⟩ | ⟨c3, h⟩
    · skip
      exact fbX11_man_0_33 p1 p2 p3 0 u h
    · skip
      rcases io h with ⟨c4, h⟩ | ⟨c4, h⟩
      · skip
        exact fbX11_man_0_33 p1 p2 p3 0 u h
      · skip
        rcases io h with ⟨c5, h⟩ | ⟨c5, h⟩
        · skip
          exact fbX11_man_0_33 p1 p2 p3 0 u h
        · skip
          rcases io h with ⟨c6, h⟩ | ⟨c6, h⟩
          · skip
            exact fbX11_man_0_33 p1 p2 p3 0 u h
          · skip
            exact fbX11_man_0_33 p1 p2 p3 1 u h
theorem frX12_man_146 (p1 p2 p3 : Int32) (u : Mem) {v : Int32} {u' : Mem} (h : FX12_man_146 p1 p2 p3 u = some (v, u')) : FrL [146, 147] u u' := by
  unfold FX12_man_146 at h
  obtain ⟨x1, gx1, h⟩ := o_bind h
  rcases io h with ⟨c2, h⟩ | ⟨c2, h⟩
  · skip
    cases h
    exact fr_refl _ _
  · skip
    obtain ⟨x3, gx3, h⟩ := o_bind h
    rcases io h with ⟨c4, h⟩ | ⟨c4, h⟩
    · skip
      cases h
      exact fr_refl _ _
    · skip
      obtain ⟨x5, gx5, h⟩ := o_bind h
      rcases io h with ⟨c6, h⟩ | ⟨c6, h⟩
      · skip
        cases h
        exact fr_refl _ _
      · skip
        rcases oi h with ⟨c7, h⟩ | ⟨c7, h⟩
        · skip
          obtain ⟨u8, gu8, h⟩ := o_bind h
          refine ft (fr_wr rfl gu8) ?_
          obtain ⟨u9, gu9, h⟩ := o_bind h
          refine ft (fr_wr rfl gu9) ?_
          obtain ⟨u10, gu10, h⟩ := o_bind h
          refine ft (fr_wr rfl gu10) ?_
          obtain ⟨u11, gu11, h⟩ := o_bind h
          refine ft (fr_wr rfl gu11) ?_
          obtain ⟨u12, gu12, h⟩ := o_bind h
          refine ft (fr_wr rfl gu12) ?_
          obtain ⟨u13, gu13, h⟩ := o_bind h
          refine ft (fr_wr rfl gu13) ?_
          obtain ⟨u14, gu14, h⟩ := o_bind h
          refine ft (fr_wr rfl gu14) ?_
          obtain ⟨u15, gu15, h⟩ := o_bind h
          refine ft (fr_wr rfl gu15) ?_
          obtain ⟨u16, gu16, h⟩ := o_bind h
          refine ft (fr_wr rfl gu16) ?_
          obtain ⟨u17, gu17, h⟩ := o_bind h
          refine ft (fr_upd rfl gu17) ?_
          obtain ⟨u19, gu19, h⟩ := o_bind h
          refine ft (fr_mono rfl (frX12_forgetsActs_146 u17 gu19)) ?_
          cases h
          exact fr_refl _ _
        · skip
          cases h
          exact fr_refl _ _
theorem frX9_putWant_1 (p1 p2 : Int32) (u : Mem) {v : Int32} {u' : Mem} (h : FX9_putWant_1 p1 p2 u = some (v, u')) : FrL [6] u u' := by
  unfold FX9_putWant_1 at h
  obtain ⟨x1, gx1, h⟩ := o_bind h
  rcases oi h with ⟨c2, h⟩ | ⟨c2, h⟩
  · skip
    obtain ⟨u3, gu3, h⟩ := o_bind h
    refine ft (fr_wr rfl gu3) ?_
    cases h
    exact fr_refl _ _
  · skip
    cases h
    exact fr_refl _ _
theorem fbX9_putHill_1_39 {v : Int32} {u' : Mem} (t1 : Int32) (u : Mem) (h : FX9_putHill_1_b39 t1 u = some (v, u')) : FrL [1] u u' := by
  unfold FX9_putHill_1_b39 at h
  obtain ⟨u1, gu1, h⟩ := o_bind h
  refine ft (fr_upd rfl gu1) ?_
  cases h
  exact fr_refl _ _
theorem frX9_putHill_1 (p1 p2 : Int32) (u : Mem) {v : Int32} {u' : Mem} (h : FX9_putHill_1 p1 p2 u = some (v, u')) : FrL [1] u u' := by
  unfold FX9_putHill_1 at h
  rcases io h with ⟨c1, h⟩ | ⟨c1, h⟩
  · skip
    cases h
    exact fr_refl _ _
  · skip
    rcases io h with ⟨c2, h⟩ | ⟨c2, h⟩
    · skip
      rcases oi h with ⟨c3, h⟩ | ⟨c3, h⟩
      · skip
        exact fbX9_putHill_1_39 ((u 1 10) &&& (((1 : Int32) <<< (p1 &&& 31)) ^^^ (-1))) u h
      · skip
        exact fbX9_putHill_1_39 ((u 1 10) ||| ((1 : Int32) <<< (p1 &&& 31))) u h
    · skip
      cases h
      exact fr_refl _ _
theorem frX9_put_1 (p1 p2 p3 : Int32) (u : Mem) {v : Int32} {u' : Mem} (h : FX9_put_1 p1 p2 p3 u = some (v, u')) : FrL [1, 6] u u' := by
  unfold FX9_put_1 at h
  rcases io h with ⟨c1, h⟩ | ⟨c1, h⟩
  · skip
    cases h
    exact fr_refl _ _
  · skip
    obtain ⟨x2, gx2, h⟩ := o_bind h
    rcases io h with ⟨c3, h⟩ | ⟨c3, h⟩
    · skip
      by_cases c4 : p1 = 0
      · have h := it h c4
        obtain ⟨u5, gu5, h⟩ := o_bind h
        refine ft (fr_upd rfl gu5) ?_
        cases h
        exact fr_refl _ _
      · have h := ie h c4
        by_cases c6 : p1 = 1
        · have h := it h c6
          obtain ⟨u7, gu7, h⟩ := o_bind h
          refine ft (fr_upd rfl gu7) ?_
          cases h
          exact fr_refl _ _
        · have h := ie h c6
          by_cases c8 : p1 = 2
          · have h := it h c8
            obtain ⟨u9, gu9, h⟩ := o_bind h
            refine ft (fr_upd rfl gu9) ?_
            cases h
            exact fr_refl _ _
          · have h := ie h c8
            by_cases c10 : p1 = 3
            · have h := it h c10
              obtain ⟨x11, u12, gx11, h⟩ := o_bnd2 h
              refine ft (fr_mono rfl (frX9_putWant_1 p2 p3 u gx11)) ?_
              obtain ⟨x13, gx13, h⟩ := o_bind h
              cases h
              exact fr_refl _ _
            · have h := ie h c10
              by_cases c14 : p1 = 4
              · have h := it h c14
                obtain ⟨x15, u16, gx15, h⟩ := o_bnd2 h
                refine ft (fr_mono rfl (frX9_putHill_1 p2 p3 u gx15)) ?_
                obtain ⟨x17, gx17, h⟩ := o_bind h
                cases h
                exact fr_refl _ _
              · have h := ie h c14
                cases h
                exact fr_refl _ _
    · skip
      cases h
      exact fr_refl _ _
theorem fbX11_set_0_122 {v : Int32} {u' : Mem} (l4 : Int32) (u : Mem) (h : FX11_set_0_b122 l4 u = some (v, u')) : FrL [1, 6, 24, 26, 52] u u' := by
  unfold FX11_set_0_b122 at h
  obtain ⟨x1, gx1, h⟩ := o_bind h
  cases h
  exact fr_refl _ _
theorem fbX11_set_0_110 {v : Int32} {u' : Mem} (l4 : Int32) (u : Mem) (h : FX11_set_0_b110 l4 u = some (v, u')) : FrL [1, 6, 24, 26, 52] u u' := by
  unfold FX11_set_0_b110 at h
  rcases io h with ⟨c1, h⟩ | ⟨c1, h⟩
  · skip
    exact fbX11_set_0_122 l4 u h
  · skip
    obtain ⟨u3, gu3, h⟩ := o_bind h
    refine ft (fr_mono rfl (frX10_forgetAll_52 u gu3)) ?_
    exact fbX11_set_0_122 l4 u3 h
theorem fbX11_set_0_69 {v : Int32} {u' : Mem} (l1 l2 l3 l4 : Int32) (u : Mem) (h : FX11_set_0_b69 l1 l2 l3 l4 u = some (v, u')) : FrL [1, 6, 24, 26, 52] u u' := by
  unfold FX11_set_0_b69 at h
  rcases oi h with ⟨c1, h⟩ | ⟨c1, h⟩
  · skip
    exact fbX11_set_0_110 l4 u h
  · skip
    obtain ⟨x2, gx2, h⟩ := o_bind h
    rcases io h with ⟨c3, h⟩ | ⟨c3, h⟩
    · skip
      exact fbX11_set_0_110 l4 u h
    · skip
      rcases io h with ⟨c4, h⟩ | ⟨c4, h⟩
      · skip
        exact fbX11_set_0_110 l4 u h
      · skip
        rcases io h with ⟨c5, h⟩ | ⟨c5, h⟩
        · skip
          exact fbX11_set_0_110 l4 u h
        · skip
          obtain ⟨u6, gu6, h⟩ := o_bind h
          refine ft (fr_wr rfl gu6) ?_
          exact fbX11_set_0_110 1 u6 h
theorem fbX11_set_0_27 {v : Int32} {u' : Mem} (l1 l2 l3 l4 : Int32) (u : Mem) (h : FX11_set_0_b27 l1 l2 l3 l4 u = some (v, u')) : FrL [1, 6, 24, 26, 52] u u' := by
  unfold FX11_set_0_b27 at h
  rcases oi h with ⟨c1, h⟩ | ⟨c1, h⟩
  · skip
    exact fbX11_set_0_69 l1 l2 l3 l4 u h
  · skip
    obtain ⟨x2, gx2, h⟩ := o_bind h
    rcases io h with ⟨c3, h⟩ | ⟨c3, h⟩
    · skip
      exact fbX11_set_0_69 l1 l2 l3 l4 u h
    · skip
      rcases io h with ⟨c4, h⟩ | ⟨c4, h⟩
      · skip
        exact fbX11_set_0_69 l1 l2 l3 l4 u h
      · skip
        rcases io h with ⟨c5, h⟩ | ⟨c5, h⟩
        · skip
          exact fbX11_set_0_69 l1 l2 l3 l4 u h
        · skip
          obtain ⟨u6, gu6, h⟩ := o_bind h
          refine ft (fr_wr rfl gu6) ?_
          exact fbX11_set_0_110 1 u6 h
theorem frX11_set_0 (p1 p2 p3 : Int32) (u : Mem) {v : Int32} {u' : Mem} (h : FX11_set_0 p1 p2 p3 u = some (v, u')) : FrL [1, 6, 24, 26, 52] u u' := by
  unfold FX11_set_0 at h
  rcases io h with ⟨c1, h⟩ | ⟨c1, h⟩
  · skip
    exact fbX11_set_0_27 p1 p2 p3 0 u h
  · skip
    rcases io h with ⟨c2, h⟩ | ⟨c2, h⟩
    · skip
      exact fbX11_set_0_27 p1 p2 p3 0 u h
    · skip
      obtain ⟨x3, u4, gx3, h⟩ := o_bnd2 h
      refine ft (fr_mono rfl (frX9_put_1 p1 p2 p3 u gx3)) ?_
      exact fbX11_set_0_110 x3 u4 h
theorem frX12_set_146 (p1 p2 p3 : Int32) (u : Mem) {v : Int32} {u' : Mem} (h : FX12_set_146 p1 p2 p3 u = some (v, u')) : FrL [146, 147] u u' := by
  unfold FX12_set_146 at h
  obtain ⟨x1, gx1, h⟩ := o_bind h
  rcases oi h with ⟨c2, h⟩ | ⟨c2, h⟩
  · skip
    obtain ⟨x3, gx3, h⟩ := o_bind h
    obtain ⟨u4, gu4, h⟩ := o_bind h
    refine ft (fr_wr rfl gu4) ?_
    obtain ⟨u6, gu6, h⟩ := o_bind h
    refine ft (fr_mono rfl (frX12_forgetsActs_146 u4 gu6)) ?_
    cases h
    exact fr_refl _ _
  · skip
    cases h
    exact fr_refl _ _
theorem frX0_become_54_23 (u : Mem) {u' : Mem} (h : FX0_become_54_23 u = some u') : FrL [54, 55, 56, 57, 58, 59, 60] u u' := by
  unfold FX0_become_54_23 at h
  obtain ⟨u1, gu1, h⟩ := o_bind h
  refine ft (fr_cp rfl gu1) ?_
  obtain ⟨u2, gu2, h⟩ := o_bind h
  refine ft (fr_cp rfl gu2) ?_
  obtain ⟨u3, gu3, h⟩ := o_bind h
  refine ft (fr_cp rfl gu3) ?_
  obtain ⟨u4, gu4, h⟩ := o_bind h
  refine ft (fr_cp rfl gu4) ?_
  obtain ⟨u5, gu5, h⟩ := o_bind h
  refine ft (fr_cp rfl gu5) ?_
  obtain ⟨u6, gu6, h⟩ := o_bind h
  refine ft (fr_cp rfl gu6) ?_
  obtain ⟨u7, gu7, h⟩ := o_bind h
  refine ft (fr_upd rfl gu7) ?_
  obtain ⟨u8, gu8, h⟩ := o_bind h
  refine ft (fr_upd rfl gu8) ?_
  obtain ⟨u9, gu9, h⟩ := o_bind h
  refine ft (fr_upd rfl gu9) ?_
  obtain ⟨u10, gu10, h⟩ := o_bind h
  refine ft (fr_upd rfl gu10) ?_
  cases h
  exact fr_refl _ _
theorem frX0_become_61_23 (u : Mem) {u' : Mem} (h : FX0_become_61_23 u = some u') : FrL [61, 62, 63, 64, 65, 66, 67] u u' := by
  unfold FX0_become_61_23 at h
  obtain ⟨u1, gu1, h⟩ := o_bind h
  refine ft (fr_cp rfl gu1) ?_
  obtain ⟨u2, gu2, h⟩ := o_bind h
  refine ft (fr_cp rfl gu2) ?_
  obtain ⟨u3, gu3, h⟩ := o_bind h
  refine ft (fr_cp rfl gu3) ?_
  obtain ⟨u4, gu4, h⟩ := o_bind h
  refine ft (fr_cp rfl gu4) ?_
  obtain ⟨u5, gu5, h⟩ := o_bind h
  refine ft (fr_cp rfl gu5) ?_
  obtain ⟨u6, gu6, h⟩ := o_bind h
  refine ft (fr_cp rfl gu6) ?_
  obtain ⟨u7, gu7, h⟩ := o_bind h
  refine ft (fr_upd rfl gu7) ?_
  obtain ⟨u8, gu8, h⟩ := o_bind h
  refine ft (fr_upd rfl gu8) ?_
  obtain ⟨u9, gu9, h⟩ := o_bind h
  refine ft (fr_upd rfl gu9) ?_
  obtain ⟨u10, gu10, h⟩ := o_bind h
  refine ft (fr_upd rfl gu10) ?_
  cases h
  exact fr_refl _ _
theorem frX0_become_68_23 (u : Mem) {u' : Mem} (h : FX0_become_68_23 u = some u') : FrL [68, 69, 70, 71, 72, 73, 74] u u' := by
  unfold FX0_become_68_23 at h
  obtain ⟨u1, gu1, h⟩ := o_bind h
  refine ft (fr_cp rfl gu1) ?_
  obtain ⟨u2, gu2, h⟩ := o_bind h
  refine ft (fr_cp rfl gu2) ?_
  obtain ⟨u3, gu3, h⟩ := o_bind h
  refine ft (fr_cp rfl gu3) ?_
  obtain ⟨u4, gu4, h⟩ := o_bind h
  refine ft (fr_cp rfl gu4) ?_
  obtain ⟨u5, gu5, h⟩ := o_bind h
  refine ft (fr_cp rfl gu5) ?_
  obtain ⟨u6, gu6, h⟩ := o_bind h
  refine ft (fr_cp rfl gu6) ?_
  obtain ⟨u7, gu7, h⟩ := o_bind h
  refine ft (fr_upd rfl gu7) ?_
  obtain ⟨u8, gu8, h⟩ := o_bind h
  refine ft (fr_upd rfl gu8) ?_
  obtain ⟨u9, gu9, h⟩ := o_bind h
  refine ft (fr_upd rfl gu9) ?_
  obtain ⟨u10, gu10, h⟩ := o_bind h
  refine ft (fr_upd rfl gu10) ?_
  cases h
  exact fr_refl _ _
theorem frX0_become_75_23 (u : Mem) {u' : Mem} (h : FX0_become_75_23 u = some u') : FrL [75, 76, 77, 78, 79, 80, 81] u u' := by
  unfold FX0_become_75_23 at h
  obtain ⟨u1, gu1, h⟩ := o_bind h
  refine ft (fr_cp rfl gu1) ?_
  obtain ⟨u2, gu2, h⟩ := o_bind h
  refine ft (fr_cp rfl gu2) ?_
  obtain ⟨u3, gu3, h⟩ := o_bind h
  refine ft (fr_cp rfl gu3) ?_
  obtain ⟨u4, gu4, h⟩ := o_bind h
  refine ft (fr_cp rfl gu4) ?_
  obtain ⟨u5, gu5, h⟩ := o_bind h
  refine ft (fr_cp rfl gu5) ?_
  obtain ⟨u6, gu6, h⟩ := o_bind h
  refine ft (fr_cp rfl gu6) ?_
  obtain ⟨u7, gu7, h⟩ := o_bind h
  refine ft (fr_upd rfl gu7) ?_
  obtain ⟨u8, gu8, h⟩ := o_bind h
  refine ft (fr_upd rfl gu8) ?_
  obtain ⟨u9, gu9, h⟩ := o_bind h
  refine ft (fr_upd rfl gu9) ?_
  obtain ⟨u10, gu10, h⟩ := o_bind h
  refine ft (fr_upd rfl gu10) ?_
  cases h
  exact fr_refl _ _
theorem frX0_become_82_23 (u : Mem) {u' : Mem} (h : FX0_become_82_23 u = some u') : FrL [82, 83, 84, 85, 86, 87, 88] u u' := by
  unfold FX0_become_82_23 at h
  obtain ⟨u1, gu1, h⟩ := o_bind h
  refine ft (fr_cp rfl gu1) ?_
  obtain ⟨u2, gu2, h⟩ := o_bind h
  refine ft (fr_cp rfl gu2) ?_
  obtain ⟨u3, gu3, h⟩ := o_bind h
  refine ft (fr_cp rfl gu3) ?_
  obtain ⟨u4, gu4, h⟩ := o_bind h
  refine ft (fr_cp rfl gu4) ?_
  obtain ⟨u5, gu5, h⟩ := o_bind h
  refine ft (fr_cp rfl gu5) ?_
  obtain ⟨u6, gu6, h⟩ := o_bind h
  refine ft (fr_cp rfl gu6) ?_
  obtain ⟨u7, gu7, h⟩ := o_bind h
  refine ft (fr_upd rfl gu7) ?_
  obtain ⟨u8, gu8, h⟩ := o_bind h
  refine ft (fr_upd rfl gu8) ?_
  obtain ⟨u9, gu9, h⟩ := o_bind h
  refine ft (fr_upd rfl gu9) ?_
  obtain ⟨u10, gu10, h⟩ := o_bind h
  refine ft (fr_upd rfl gu10) ?_
  cases h
  exact fr_refl _ _
theorem frX0_become_89_23 (u : Mem) {u' : Mem} (h : FX0_become_89_23 u = some u') : FrL [89, 90, 91, 92, 93, 94, 95] u u' := by
  unfold FX0_become_89_23 at h
  obtain ⟨u1, gu1, h⟩ := o_bind h
  refine ft (fr_cp rfl gu1) ?_
  obtain ⟨u2, gu2, h⟩ := o_bind h
  refine ft (fr_cp rfl gu2) ?_
  obtain ⟨u3, gu3, h⟩ := o_bind h
  refine ft (fr_cp rfl gu3) ?_
  obtain ⟨u4, gu4, h⟩ := o_bind h
  refine ft (fr_cp rfl gu4) ?_
  obtain ⟨u5, gu5, h⟩ := o_bind h
  refine ft (fr_cp rfl gu5) ?_
  obtain ⟨u6, gu6, h⟩ := o_bind h
  refine ft (fr_cp rfl gu6) ?_
  obtain ⟨u7, gu7, h⟩ := o_bind h
  refine ft (fr_upd rfl gu7) ?_
  obtain ⟨u8, gu8, h⟩ := o_bind h
  refine ft (fr_upd rfl gu8) ?_
  obtain ⟨u9, gu9, h⟩ := o_bind h
  refine ft (fr_upd rfl gu9) ?_
  obtain ⟨u10, gu10, h⟩ := o_bind h
  refine ft (fr_upd rfl gu10) ?_
  cases h
  exact fr_refl _ _
theorem frX10_remember_52_23 (u : Mem) {u' : Mem} (h : FX10_remember_52_23 u = some u') : FrL [52, 54, 55, 56, 57, 58, 59, 60, 61, 62, 63, 64, 65, 66, 67, 68, 69, 70, 71, 72, 73, 74, 75, 76, 77, 78, 79, 80, 81, 82, 83, 84, 85, 86, 87, 88, 89, 90, 91, 92, 93, 94, 95] u u' := by
  unfold FX10_remember_52_23 at h
  rcases io h with ⟨c1, h⟩ | ⟨c1, h⟩
  · skip
    cases h
    exact fr_refl _ _
  · skip
    rcases io h with ⟨c2, h⟩ | ⟨c2, h⟩
    · skip
      cases h
      exact fr_refl _ _
    · skip
      by_cases c3 : (u 52 1) = 0
      · have h := it h c3
        obtain ⟨u5, gu5, h⟩ := o_bind h
        refine ft (fr_mono rfl (frX0_become_54_23 u gu5)) ?_
        obtain ⟨x6, gx6, h⟩ := o_bind h
        obtain ⟨u7, gu7, h⟩ := o_bind h
        refine ft (fr_upd rfl gu7) ?_
        obtain ⟨u8, gu8, h⟩ := o_bind h
        refine ft (fr_upd rfl gu8) ?_
        cases h
        exact fr_refl _ _
      · have h := ie h c3
        by_cases c9 : (u 52 1) = 1
        · have h := it h c9
          obtain ⟨u11, gu11, h⟩ := o_bind h
          refine ft (fr_mono rfl (frX0_become_61_23 u gu11)) ?_
          obtain ⟨x12, gx12, h⟩ := o_bind h
          obtain ⟨u13, gu13, h⟩ := o_bind h
          refine ft (fr_upd rfl gu13) ?_
          obtain ⟨u14, gu14, h⟩ := o_bind h
          refine ft (fr_upd rfl gu14) ?_
          cases h
          exact fr_refl _ _
        · have h := ie h c9
          by_cases c15 : (u 52 1) = 2
          · have h := it h c15
            obtain ⟨u17, gu17, h⟩ := o_bind h
            refine ft (fr_mono rfl (frX0_become_68_23 u gu17)) ?_
            obtain ⟨x18, gx18, h⟩ := o_bind h
            obtain ⟨u19, gu19, h⟩ := o_bind h
            refine ft (fr_upd rfl gu19) ?_
            obtain ⟨u20, gu20, h⟩ := o_bind h
            refine ft (fr_upd rfl gu20) ?_
            cases h
            exact fr_refl _ _
          · have h := ie h c15
            by_cases c21 : (u 52 1) = 3
            · have h := it h c21
              obtain ⟨u23, gu23, h⟩ := o_bind h
              refine ft (fr_mono rfl (frX0_become_75_23 u gu23)) ?_
              obtain ⟨x24, gx24, h⟩ := o_bind h
              obtain ⟨u25, gu25, h⟩ := o_bind h
              refine ft (fr_upd rfl gu25) ?_
              obtain ⟨u26, gu26, h⟩ := o_bind h
              refine ft (fr_upd rfl gu26) ?_
              cases h
              exact fr_refl _ _
            · have h := ie h c21
              by_cases c27 : (u 52 1) = 4
              · have h := it h c27
                obtain ⟨u29, gu29, h⟩ := o_bind h
                refine ft (fr_mono rfl (frX0_become_82_23 u gu29)) ?_
                obtain ⟨x30, gx30, h⟩ := o_bind h
                obtain ⟨u31, gu31, h⟩ := o_bind h
                refine ft (fr_upd rfl gu31) ?_
                obtain ⟨u32, gu32, h⟩ := o_bind h
                refine ft (fr_upd rfl gu32) ?_
                cases h
                exact fr_refl _ _
              · have h := ie h c27
                by_cases c33 : (u 52 1) = 5
                · have h := it h c33
                  obtain ⟨u35, gu35, h⟩ := o_bind h
                  refine ft (fr_mono rfl (frX0_become_89_23 u gu35)) ?_
                  obtain ⟨x36, gx36, h⟩ := o_bind h
                  obtain ⟨u37, gu37, h⟩ := o_bind h
                  refine ft (fr_upd rfl gu37) ?_
                  obtain ⟨u38, gu38, h⟩ := o_bind h
                  refine ft (fr_upd rfl gu38) ?_
                  cases h
                  exact fr_refl _ _
                · have h := ie h c33
                  cases h
theorem frX11_teach_0 (p1 p2 : Int32) (u : Mem) {v : Int32} {u' : Mem} (h : FX11_teach_0 p1 p2 u = some (v, u')) : FrL [25, 52, 54, 55, 56, 57, 58, 59, 60, 61, 62, 63, 64, 65, 66, 67, 68, 69, 70, 71, 72, 73, 74, 75, 76, 77, 78, 79, 80, 81, 82, 83, 84, 85, 86, 87, 88, 89, 90, 91, 92, 93, 94, 95] u u' := by
  unfold FX11_teach_0 at h
  obtain ⟨x1, gx1, h⟩ := o_bind h
  rcases io h with ⟨c2, h⟩ | ⟨c2, h⟩
  · skip
    cases h
    exact fr_refl _ _
  · skip
    obtain ⟨x3, gx3, h⟩ := o_bind h
    rcases io h with ⟨c4, h⟩ | ⟨c4, h⟩
    · skip
      cases h
      exact fr_refl _ _
    · skip
      obtain ⟨x5, gx5, h⟩ := o_bind h
      rcases io h with ⟨c6, h⟩ | ⟨c6, h⟩
      · skip
        obtain ⟨u8, gu8, h⟩ := o_bind h
        refine ft (fr_mono rfl (frX10_remember_52_23 u gu8)) ?_
        obtain ⟨x9, gx9, h⟩ := o_bind h
        obtain ⟨u10, gu10, h⟩ := o_bind h
        refine ft (fr_wr rfl gu10) ?_
        cases h
        exact fr_refl _ _
      · skip
        cases h
        exact fr_refl _ _
theorem fbX12_keeps_146_51 {u' : Mem} {k51 : Int32 → Mem → Option Mem} (hk51 : ∀ (l1 : Int32) (u : Mem), k51 l1 u = some u' → FrL [146, 149] u u') (l1 : Int32) (u : Mem) (h : FX12_keeps_146_b51 k51 l1 u = some u') : FrL [146, 149] u u' := by
  unfold FX12_keeps_146_b51 at h
  rcases io h with ⟨c1, h⟩ | ⟨c1, h⟩
  · skip
    obtain ⟨u2, gu2, h⟩ := o_bind h
    refine ft (fr_upd rfl gu2) ?_
    cases h
    exact fr_refl _ _
  · skip
    obtain ⟨x3, gx3, h⟩ := o_bind h
    obtain ⟨u4, gu4, h⟩ := o_bind h
    refine ft (fr_wr rfl gu4) ?_
    exact hk51 (l1 + 1) u4 h
theorem flX12_keeps_146_51 {u' : Mem} : ∀ (n : Nat) (l1 : Int32) (u : Mem), FX12_keeps_146_L51 n l1 u = some u' → FrL [146, 149] u u' := by
  intro n
  induction n with
  | zero =>
    intro l1 u h
    exact nn_ h
  | succ n ih =>
    intro l1 u h
    exact fbX12_keeps_146_51 ih l1 u h
theorem fbX12_keeps_146_49 {u' : Mem} (u : Mem) (h : FX12_keeps_146_b49 u = some u') : FrL [146, 149] u u' := by
  unfold FX12_keeps_146_b49 at h
  exact flX12_keeps_146_51 FU 0 u h
theorem fbX12_keeps_146_11 {u' : Mem} {k11 : Int32 → Mem → Option Mem} (hk11 : ∀ (l1 : Int32) (u : Mem), k11 l1 u = some u' → FrL [146, 149] u u') (l1 : Int32) (u : Mem) (h : FX12_keeps_146_b11 k11 l1 u = some u') : FrL [146, 149] u u' := by
  unfold FX12_keeps_146_b11 at h
  rcases io h with ⟨c1, h⟩ | ⟨c1, h⟩
  · skip
    obtain ⟨u2, gu2, h⟩ := o_bind h
    refine ft (fr_upd rfl gu2) ?_
    exact fbX12_keeps_146_49 u2 h
  · skip
    obtain ⟨x3, gx3, h⟩ := o_bind h
    obtain ⟨u4, gu4, h⟩ := o_bind h
    refine ft (fr_wr rfl gu4) ?_
    exact hk11 (l1 + 1) u4 h
theorem flX12_keeps_146_11 {u' : Mem} : ∀ (n : Nat) (l1 : Int32) (u : Mem), FX12_keeps_146_L11 n l1 u = some u' → FrL [146, 149] u u' := by
  intro n
  induction n with
  | zero =>
    intro l1 u h
    exact nn_ h
  | succ n ih =>
    intro l1 u h
    exact fbX12_keeps_146_11 ih l1 u h
theorem frX12_keeps_146 (u : Mem) {u' : Mem} (h : FX12_keeps_146 u = some u') : FrL [146, 149] u u' := by
  unfold FX12_keeps_146 at h
  rcases oi h with ⟨c1, h⟩ | ⟨c1, h⟩
  · skip
    exact fbX12_keeps_146_49 u h
  · skip
    exact flX12_keeps_146_11 FU 0 u h
theorem frX12_teach_146 (p1 p2 : Int32) (u : Mem) {v : Int32} {u' : Mem} (h : FX12_teach_146 p1 p2 u = some (v, u')) : FrL [146, 147, 149] u u' := by
  unfold FX12_teach_146 at h
  obtain ⟨x1, gx1, h⟩ := o_bind h
  rcases io h with ⟨c2, h⟩ | ⟨c2, h⟩
  · skip
    cases h
    exact fr_refl _ _
  · skip
    obtain ⟨x3, gx3, h⟩ := o_bind h
    rcases io h with ⟨c4, h⟩ | ⟨c4, h⟩
    · skip
      cases h
      exact fr_refl _ _
    · skip
      obtain ⟨x5, gx5, h⟩ := o_bind h
      rcases oi h with ⟨c6, h⟩ | ⟨c6, h⟩
      · skip
        obtain ⟨u8, gu8, h⟩ := o_bind h
        refine ft (fr_mono rfl (frX12_keeps_146 u gu8)) ?_
        obtain ⟨x9, gx9, h⟩ := o_bind h
        obtain ⟨u10, gu10, h⟩ := o_bind h
        refine ft (fr_wr rfl gu10) ?_
        cases h
        exact fr_refl _ _
      · skip
        cases h
        exact fr_refl _ _
theorem fbX11_send_0_103 {v : Int32} {u' : Mem} (l1 l2 l3 l4 t0 : Int32) (u : Mem) (h : FX11_send_0_b103 l1 l2 l3 l4 t0 u = some (v, u')) : FrL [26, 27, 28, 52, 54, 55, 56, 57, 58, 59, 60, 61, 62, 63, 64, 65, 66, 67, 68, 69, 70, 71, 72, 73, 74, 75, 76, 77, 78, 79, 80, 81, 82, 83, 84, 85, 86, 87, 88, 89, 90, 91, 92, 93, 94, 95] u u' := by
  unfold FX11_send_0_b103 at h
  rcases io h with ⟨c1, h⟩ | ⟨c1, h⟩
  · skip
    cases h
    exact fr_refl _ _
  · skip
    rcases io h with ⟨c2, h⟩ | ⟨c2, h⟩
    · skip
      cases h
      exact fr_refl _ _
    · skip
      rcases io h with ⟨c3, h⟩ | ⟨c3, h⟩
      · skip
        cases h
        exact fr_refl _ _
      · skip
        obtain ⟨x4, gx4, h⟩ := o_bind h
        rcases io h with ⟨c5, h⟩ | ⟨c5, h⟩
        · skip
          obtain ⟨u7, gu7, h⟩ := o_bind h
          refine ft (fr_mono rfl (frX10_remember_52_23 u gu7)) ?_
          obtain ⟨u8, gu8, h⟩ := o_bind h
          refine ft (fr_wr rfl gu8) ?_
          obtain ⟨x9, gx9, h⟩ := o_bind h
          obtain ⟨u10, gu10, h⟩ := o_bind h
          refine ft (fr_wr rfl gu10) ?_
          obtain ⟨u11, gu11, h⟩ := o_bind h
          refine ft (fr_wr rfl gu11) ?_
          obtain ⟨x12, gx12, h⟩ := o_bind h
          obtain ⟨u13, gu13, h⟩ := o_bind h
          refine ft (fr_wr rfl gu13) ?_
          obtain ⟨x14, gx14, h⟩ := o_bind h
          obtain ⟨u15, gu15, h⟩ := o_bind h
          refine ft (fr_wr rfl gu15) ?_
          cases h
          exact fr_refl _ _
        · skip
          cases h
          exact fr_refl _ _
theorem fbX11_send_0_54 {v : Int32} {u' : Mem} (l1 l2 l3 t0 : Int32) (u : Mem) (h : FX11_send_0_b54 l1 l2 l3 t0 u = some (v, u')) : FrL [26, 27, 28, 52, 54, 55, 56, 57, 58, 59, 60, 61, 62, 63, 64, 65, 66, 67, 68, 69, 70, 71, 72, 73, 74, 75, 76, 77, 78, 79, 80, 81, 82, 83, 84, 85, 86, 87, 88, 89, 90, 91, 92, 93, 94, 95] u u' := by
  unfold FX11_send_0_b54 at h
  obtain ⟨x1, gx1, h⟩ := o_bind h
  obtain ⟨x2, gx2, h⟩ := o_bind h
  rcases oi h with ⟨c3, h⟩ | ⟨c3, h⟩
  · skip
    exact fbX11_send_0_103 l1 l2 l3 t0 0 u h
  · skip
    obtain ⟨x4, gx4, h⟩ := o_bind h
    obtain ⟨x5, gx5, h⟩ := o_bind h
    rcases io h with ⟨c6, h⟩ | ⟨c6, h⟩
    · skip
      exact fbX11_send_0_103 l1 l2 l3 t0 0 u h
    · skip
      exact fbX11_send_0_103 l1 l2 l3 t0 1 u h
theorem frX11_send_0 (p1 p2 p3 : Int32) (u : Mem) {v : Int32} {u' : Mem} (h : FX11_send_0 p1 p2 p3 u = some (v, u')) : FrL [26, 27, 28, 52, 54, 55, 56, 57, 58, 59, 60, 61, 62, 63, 64, 65, 66, 67, 68, 69, 70, 71, 72, 73, 74, 75, 76, 77, 78, 79, 80, 81, 82, 83, 84, 85, 86, 87, 88, 89, 90, 91, 92, 93, 94, 95] u u' := by
  unfold FX11_send_0 at h
  obtain ⟨x1, gx1, h⟩ := o_bind h
  rcases io h with ⟨c2, h⟩ | ⟨c2, h⟩
  · skip
    cases h
    exact fr_refl _ _
  · skip
    obtain ⟨x3, gx3, h⟩ := o_bind h
    rcases oi h with ⟨c4, h⟩ | ⟨c4, h⟩
    · skip
      obtain ⟨x5, gx5, h⟩ := o_bind h
      rcases oi h with ⟨c6, h⟩ | ⟨c6, h⟩
      · skip
        exact fbX11_send_0_54 p1 p2 p3 0 u h
      · skip
        obtain ⟨x7, gx7, h⟩ := o_bind h
        rcases oi h with ⟨c8, h⟩ | ⟨c8, h⟩
        · skip
          exact fbX11_send_0_54 p1 p2 p3 0 u h
        · skip
          exact fbX11_send_0_54 p1 p2 p3 1 u h
    · skip
      cases h
      exact fr_refl _ _
theorem frX12_send_146 (p1 p2 p3 : Int32) (u : Mem) {v : Int32} {u' : Mem} (h : FX12_send_146 p1 p2 p3 u = some (v, u')) : FrL [146, 147, 149] u u' := by
  unfold FX12_send_146 at h
  obtain ⟨x1, gx1, h⟩ := o_bind h
  rcases io h with ⟨c2, h⟩ | ⟨c2, h⟩
  · skip
    cases h
    exact fr_refl _ _
  · skip
    obtain ⟨x3, gx3, h⟩ := o_bind h
    rcases io h with ⟨c4, h⟩ | ⟨c4, h⟩
    · skip
      cases h
      exact fr_refl _ _
    · skip
      obtain ⟨x5, gx5, h⟩ := o_bind h
      obtain ⟨x6, gx6, h⟩ := o_bind h
      rcases oi h with ⟨c7, h⟩ | ⟨c7, h⟩
      · skip
        cases h
        exact fr_refl _ _
      · skip
        obtain ⟨x8, gx8, h⟩ := o_bind h
        rcases oi h with ⟨c9, h⟩ | ⟨c9, h⟩
        · skip
          cases h
          exact fr_refl _ _
        · skip
          obtain ⟨x10, gx10, h⟩ := o_bind h
          rcases io h with ⟨c11, h⟩ | ⟨c11, h⟩
          · skip
            obtain ⟨x12, gx12, h⟩ := o_bind h
            obtain ⟨x13, gx13, h⟩ := o_bind h
            rcases io h with ⟨c14, h⟩ | ⟨c14, h⟩
            · skip
              cases h
              exact fr_refl _ _
            · skip
              obtain ⟨x15, gx15, h⟩ := o_bind h
              obtain ⟨x16, gx16, h⟩ := o_bind h
              rcases oi h with ⟨c17, h⟩ | ⟨c17, h⟩
              · skip
                obtain ⟨u19, gu19, h⟩ := o_bind h
                refine ft (fr_mono rfl (frX12_keeps_146 u gu19)) ?_
                obtain ⟨u20, gu20, h⟩ := o_bind h
                refine ft (fr_wr rfl gu20) ?_
                obtain ⟨x21, gx21, h⟩ := o_bind h
                obtain ⟨u22, gu22, h⟩ := o_bind h
                refine ft (fr_wr rfl gu22) ?_
                obtain ⟨u23, gu23, h⟩ := o_bind h
                refine ft (fr_wr rfl gu23) ?_
                obtain ⟨x24, gx24, h⟩ := o_bind h
                obtain ⟨u25, gu25, h⟩ := o_bind h
                refine ft (fr_wr rfl gu25) ?_
                obtain ⟨x26, gx26, h⟩ := o_bind h
                obtain ⟨x27, gx27, h⟩ := o_bind h
                obtain ⟨u28, gu28, h⟩ := o_bind h
                refine ft (fr_wr rfl gu28) ?_
                cases h
                exact fr_refl _ _
              · skip
                cases h
                exact fr_refl _ _
          · skip
            cases h
            exact fr_refl _ _
theorem fbX4_run_8_33_375 {v : Int32} {u' : Mem} (l4 : Int32) (u : Mem) (h : FX4_run_8_33_b375 l4 u = some (v, u')) : FrL [14] u u' := by
  unfold FX4_run_8_33_b375 at h
  rcases io h with ⟨c1, h⟩ | ⟨c1, h⟩
  · skip
    cases h
    exact fr_refl _ _
  · skip
    rcases io h with ⟨c2, h⟩ | ⟨c2, h⟩
    · skip
      cases h
      exact fr_refl _ _
    · skip
      obtain ⟨x3, gx3, h⟩ := o_bind h
      cases h
      exact fr_refl _ _
theorem fbX4_run_8_33_369 {v : Int32} {u' : Mem} {k6 : Int32 → Int32 → Int32 → Mem → Option (Int32 × Mem)} (hk6 : ∀ (l2 l4 l5 : Int32) (u : Mem), k6 l2 l4 l5 u = some (v, u') → FrL [14] u u') (l2 l4 l5 : Int32) (u : Mem) (h : FX4_run_8_33_b369 k6 l2 l4 l5 u = some (v, u')) : FrL [14] u u' := by
  unfold FX4_run_8_33_b369 at h
  exact hk6 l2 l4 (l5 + 1) u h
theorem fbX4_run_8_33_358 {v : Int32} {u' : Mem} {k6 : Int32 → Int32 → Int32 → Mem → Option (Int32 × Mem)} (hk6 : ∀ (l2 l4 l5 : Int32) (u : Mem), k6 l2 l4 l5 u = some (v, u') → FrL [14] u u') (l2 l4 l5 l7 : Int32) (u : Mem) (h : FX4_run_8_33_b358 k6 l2 l4 l5 l7 u = some (v, u')) : FrL [14] u u' := by
  unfold FX4_run_8_33_b358 at h
  obtain ⟨u1, gu1, h⟩ := o_bind h
  refine ft (fr_wr rfl gu1) ?_
  exact fbX4_run_8_33_369 hk6 l2 l4 l5 u1 h
theorem fbX4_run_8_33_327 {v : Int32} {u' : Mem} {k6 : Int32 → Int32 → Int32 → Mem → Option (Int32 × Mem)} (hk6 : ∀ (l2 l4 l5 : Int32) (u : Mem), k6 l2 l4 l5 u = some (v, u') → FrL [14] u u') (l2 l4 l5 t0 : Int32) (u : Mem) (h : FX4_run_8_33_b327 k6 l2 l4 l5 t0 u = some (v, u')) : FrL [14] u u' := by
  unfold FX4_run_8_33_b327 at h
  exact fbX4_run_8_33_358 hk6 l2 l4 l5 t0 u h
theorem fbX4_run_8_33_310 {v : Int32} {u' : Mem} {k6 : Int32 → Int32 → Int32 → Mem → Option (Int32 × Mem)} (hk6 : ∀ (l2 l4 l5 : Int32) (u : Mem), k6 l2 l4 l5 u = some (v, u') → FrL [14] u u') (l2 l4 l5 t0 : Int32) (u : Mem) (h : FX4_run_8_33_b310 k6 l2 l4 l5 t0 u = some (v, u')) : FrL [14] u u' := by
  unfold FX4_run_8_33_b310 at h
  exact fbX4_run_8_33_358 hk6 l2 l4 l5 t0 u h
theorem fbX4_run_8_33_293 {v : Int32} {u' : Mem} {k6 : Int32 → Int32 → Int32 → Mem → Option (Int32 × Mem)} (hk6 : ∀ (l2 l4 l5 : Int32) (u : Mem), k6 l2 l4 l5 u = some (v, u') → FrL [14] u u') (l2 l4 l5 t0 : Int32) (u : Mem) (h : FX4_run_8_33_b293 k6 l2 l4 l5 t0 u = some (v, u')) : FrL [14] u u' := by
  unfold FX4_run_8_33_b293 at h
  exact fbX4_run_8_33_358 hk6 l2 l4 l5 t0 u h
theorem fbX4_run_8_33_276 {v : Int32} {u' : Mem} {k6 : Int32 → Int32 → Int32 → Mem → Option (Int32 × Mem)} (hk6 : ∀ (l2 l4 l5 : Int32) (u : Mem), k6 l2 l4 l5 u = some (v, u') → FrL [14] u u') (l2 l4 l5 t0 : Int32) (u : Mem) (h : FX4_run_8_33_b276 k6 l2 l4 l5 t0 u = some (v, u')) : FrL [14] u u' := by
  unfold FX4_run_8_33_b276 at h
  exact fbX4_run_8_33_358 hk6 l2 l4 l5 t0 u h
theorem fbX4_run_8_33_178 {v : Int32} {u' : Mem} {k6 : Int32 → Int32 → Int32 → Mem → Option (Int32 × Mem)} (hk6 : ∀ (l2 l4 l5 : Int32) (u : Mem), k6 l2 l4 l5 u = some (v, u') → FrL [14] u u') (l2 l4 l5 l6 l7 t0 : Int32) (u : Mem) (h : FX4_run_8_33_b178 k6 l2 l4 l5 l6 l7 t0 u = some (v, u')) : FrL [14] u u' := by
  unfold FX4_run_8_33_b178 at h
  by_cases c1 : l6 = (-18)
  · have h := it h c1
    exact fbX4_run_8_33_358 hk6 l2 l4 l5 (l7 ||| t0) u h
  · have h := ie h c1
    by_cases c2 : l6 = (-17)
    · have h := it h c2
      exact fbX4_run_8_33_358 hk6 l2 l4 l5 (l7 &&& t0) u h
    · have h := ie h c2
      by_cases c3 : l6 = (-16)
      · have h := it h c3
        rcases io h with ⟨c4, h⟩ | ⟨c4, h⟩
        · skip
          exact fbX4_run_8_33_327 hk6 l2 l4 l5 0 u h
        · skip
          exact fbX4_run_8_33_327 hk6 l2 l4 l5 1 u h
      · have h := ie h c3
        by_cases c5 : l6 = (-15)
        · have h := it h c5
          rcases oi h with ⟨c6, h⟩ | ⟨c6, h⟩
          · skip
            exact fbX4_run_8_33_310 hk6 l2 l4 l5 0 u h
          · skip
            exact fbX4_run_8_33_310 hk6 l2 l4 l5 1 u h
        · have h := ie h c5
          by_cases c7 : l6 = (-14)
          · have h := it h c7
            rcases io h with ⟨c8, h⟩ | ⟨c8, h⟩
            · skip
              exact fbX4_run_8_33_293 hk6 l2 l4 l5 0 u h
            · skip
              exact fbX4_run_8_33_293 hk6 l2 l4 l5 1 u h
          · have h := ie h c7
            by_cases c9 : l6 = (-13)
            · have h := it h c9
              rcases io h with ⟨c10, h⟩ | ⟨c10, h⟩
              · skip
                exact fbX4_run_8_33_276 hk6 l2 l4 l5 0 u h
              · skip
                obtain ⟨x11, gx11, h⟩ := o_bind h
                exact fbX4_run_8_33_276 hk6 l2 l4 l5 x11 u h
            · have h := ie h c9
              by_cases c12 : l6 = (-12)
              · have h := it h c12
                exact fbX4_run_8_33_358 hk6 l2 l4 l5 (l7 * t0) u h
              · have h := ie h c12
                by_cases c13 : l6 = (-11)
                · have h := it h c13
                  exact fbX4_run_8_33_358 hk6 l2 l4 l5 (l7 - t0) u h
                · have h := ie h c13
                  by_cases c14 : l6 = (-10)
                  · have h := it h c14
                    exact fbX4_run_8_33_358 hk6 l2 l4 l5 (l7 + t0) u h
                  · have h := ie h c14
                    exact fbX4_run_8_33_358 hk6 l2 l4 l5 (1 - l7) u h
theorem fbX4_run_8_33_147 {v : Int32} {u' : Mem} {k6 : Int32 → Int32 → Int32 → Mem → Option (Int32 × Mem)} (hk6 : ∀ (l2 l4 l5 : Int32) (u : Mem), k6 l2 l4 l5 u = some (v, u') → FrL [14] u u') (l2 l5 l6 t0 : Int32) (u : Mem) (h : FX4_run_8_33_b147 k6 l2 l5 l6 t0 u = some (v, u')) : FrL [14] u u' := by
  unfold FX4_run_8_33_b147 at h
  obtain ⟨x1, gx1, h⟩ := o_bind h
  rcases oi h with ⟨c2, h⟩ | ⟨c2, h⟩
  · skip
    obtain ⟨x3, gx3, h⟩ := o_bind h
    exact fbX4_run_8_33_178 hk6 l2 t0 l5 l6 x1 x3 u h
  · skip
    exact fbX4_run_8_33_178 hk6 l2 t0 l5 l6 x1 0 u h
theorem fbX4_run_8_33_116 {v : Int32} {u' : Mem} {k6 : Int32 → Int32 → Int32 → Mem → Option (Int32 × Mem)} (hk6 : ∀ (l2 l4 l5 : Int32) (u : Mem), k6 l2 l4 l5 u = some (v, u') → FrL [14] u u') (l2 l4 l5 l6 t0 t1 : Int32) (u : Mem) (h : FX4_run_8_33_b116 k6 l2 l4 l5 l6 t0 t1 u = some (v, u')) : FrL [14] u u' := by
  unfold FX4_run_8_33_b116 at h
  rcases io h with ⟨c1, h⟩ | ⟨c1, h⟩
  · skip
    cases h
    exact fr_refl _ _
  · skip
    rcases io h with ⟨c2, h⟩ | ⟨c2, h⟩
    · skip
      rcases oi h with ⟨c3, h⟩ | ⟨c3, h⟩
      · skip
        exact fbX4_run_8_33_147 hk6 l2 l5 l6 (l4 - 1) u h
      · skip
        exact fbX4_run_8_33_147 hk6 l2 l5 l6 l4 u h
    · skip
      cases h
      exact fr_refl _ _
theorem fbX4_run_8_33_102 {v : Int32} {u' : Mem} {k6 : Int32 → Int32 → Int32 → Mem → Option (Int32 × Mem)} (hk6 : ∀ (l2 l4 l5 : Int32) (u : Mem), k6 l2 l4 l5 u = some (v, u') → FrL [14] u u') (l2 l4 l5 l6 : Int32) (u : Mem) (h : FX4_run_8_33_b102 k6 l2 l4 l5 l6 u = some (v, u')) : FrL [14] u u' := by
  unfold FX4_run_8_33_b102 at h
  rcases oi h with ⟨c1, h⟩ | ⟨c1, h⟩
  · skip
    exact fbX4_run_8_33_116 hk6 l2 l4 l5 l6 l4 2 u h
  · skip
    exact fbX4_run_8_33_116 hk6 l2 l4 l5 l6 l4 1 u h
theorem fbX4_run_8_33_95 {v : Int32} {u' : Mem} {k6 : Int32 → Int32 → Int32 → Mem → Option (Int32 × Mem)} (hk6 : ∀ (l2 l4 l5 : Int32) (u : Mem), k6 l2 l4 l5 u = some (v, u') → FrL [14] u u') (l2 l4 l5 t1 t2 : Int32) (u : Mem) (h : FX4_run_8_33_b95 k6 l2 l4 l5 t1 t2 u = some (v, u')) : FrL [14] u u' := by
  unfold FX4_run_8_33_b95 at h
  obtain ⟨u1, gu1, h⟩ := o_bind h
  refine ft (fr_wr rfl gu1) ?_
  exact fbX4_run_8_33_369 hk6 l2 (l4 + 1) l5 u1 h
theorem fbX4_run_8_33_6 {v : Int32} {u' : Mem} {k6 : Int32 → Int32 → Int32 → Mem → Option (Int32 × Mem)} (hk6 : ∀ (l2 l4 l5 : Int32) (u : Mem), k6 l2 l4 l5 u = some (v, u') → FrL [14] u u') (l2 l4 l5 : Int32) (u : Mem) (h : FX4_run_8_33_b6 k6 l2 l4 l5 u = some (v, u')) : FrL [14] u u' := by
  unfold FX4_run_8_33_b6 at h
  rcases io h with ⟨c1, h⟩ | ⟨c1, h⟩
  · skip
    exact fbX4_run_8_33_375 l4 u h
  · skip
    rcases io h with ⟨c2, h⟩ | ⟨c2, h⟩
    · skip
      exact fbX4_run_8_33_375 l4 u h
    · skip
      rcases io h with ⟨c3, h⟩ | ⟨c3, h⟩
      · skip
        exact fbX4_run_8_33_375 l4 u h
      · skip
        obtain ⟨x4, gx4, h⟩ := o_bind h
        rcases io h with ⟨c5, h⟩ | ⟨c5, h⟩
        · skip
          exact fbX4_run_8_33_102 hk6 l2 l4 l5 x4 u h
        · skip
          rcases io h with ⟨c6, h⟩ | ⟨c6, h⟩
          · skip
            exact fbX4_run_8_33_102 hk6 l2 l4 l5 x4 u h
          · skip
            rcases io h with ⟨c7, h⟩ | ⟨c7, h⟩
            · skip
              exact fbX4_run_8_33_102 hk6 l2 l4 l5 x4 u h
            · skip
              rcases io h with ⟨c8, h⟩ | ⟨c8, h⟩
              · skip
                rcases io h with ⟨c9, h⟩ | ⟨c9, h⟩
                · skip
                  exact fbX4_run_8_33_95 hk6 l2 l4 l5 l4 0 u h
                · skip
                  obtain ⟨x10, gx10, h⟩ := o_bind h
                  exact fbX4_run_8_33_95 hk6 l2 l4 l5 l4 x10 u h
              · skip
                exact fbX4_run_8_33_95 hk6 l2 l4 l5 l4 x4 u h
theorem flX4_run_8_33_6 {v : Int32} {u' : Mem} : ∀ (n : Nat) (l2 l4 l5 : Int32) (u : Mem), FX4_run_8_33_L6 n l2 l4 l5 u = some (v, u') → FrL [14] u u' := by
  intro n
  induction n with
  | zero =>
    intro l2 l4 l5 u h
    exact nn_ h
  | succ n ih =>
    intro l2 l4 l5 u h
    exact fbX4_run_8_33_6 ih l2 l4 l5 u h
theorem frX4_run_8_33 (p1 p2 : Int32) (u : Mem) {v : Int32} {u' : Mem} (h : FX4_run_8_33 p1 p2 u = some (v, u')) : FrL [14] u u' := by
  unfold FX4_run_8_33 at h
  exact flX4_run_8_33_6 FU p2 0 p1 u h
theorem fbX4_tell_8_33_96 {v : Int32} {u' : Mem} (l3 : Int32) (u : Mem) (h : FX4_tell_8_33_b96 l3 u = some (v, u')) : FrL [14] u u' := by
  unfold FX4_tell_8_33_b96 at h
  cases h
  exact fr_refl _ _
theorem fbX4_tell_8_33_90 {v : Int32} {u' : Mem} {k3 : Int32 → Int32 → Int32 → Mem → Option (Int32 × Mem)} (hk3 : ∀ (l1 l3 l4 : Int32) (u : Mem), k3 l1 l3 l4 u = some (v, u') → FrL [14] u u') (l1 l3 l4 : Int32) (u : Mem) (h : FX4_tell_8_33_b90 k3 l1 l3 l4 u = some (v, u')) : FrL [14] u u' := by
  unfold FX4_tell_8_33_b90 at h
  exact hk3 l1 l3 (l4 + 1) u h
theorem fbX4_tell_8_33_70 {v : Int32} {u' : Mem} (l4 : Int32) (u : Mem) (h : FX4_tell_8_33_b70 l4 u = some (v, u')) : FrL [14] u u' := by
  unfold FX4_tell_8_33_b70 at h
  obtain ⟨x1, gx1, h⟩ := o_bind h
  obtain ⟨x2, gx2, h⟩ := o_bind h
  obtain ⟨x3, u4, gx3, h⟩ := o_bnd2 h
  refine ft (fr_mono rfl (frX4_run_8_33 x1 x2 u gx3)) ?_
  cases h
  exact fr_refl _ _
theorem fbX4_tell_8_33_3 {v : Int32} {u' : Mem} {k3 : Int32 → Int32 → Int32 → Mem → Option (Int32 × Mem)} (hk3 : ∀ (l1 l3 l4 : Int32) (u : Mem), k3 l1 l3 l4 u = some (v, u') → FrL [14] u u') (l1 l3 l4 : Int32) (u : Mem) (h : FX4_tell_8_33_b3 k3 l1 l3 l4 u = some (v, u')) : FrL [14] u u' := by
  unfold FX4_tell_8_33_b3 at h
  rcases io h with ⟨c1, h⟩ | ⟨c1, h⟩
  · skip
    exact fbX4_tell_8_33_96 l3 u h
  · skip
    rcases io h with ⟨c2, h⟩ | ⟨c2, h⟩
    · skip
      exact fbX4_tell_8_33_96 l3 u h
    · skip
      obtain ⟨x3, gx3, h⟩ := o_bind h
      rcases oi h with ⟨c4, h⟩ | ⟨c4, h⟩
      · skip
        exact fbX4_tell_8_33_90 hk3 l1 l3 l4 u h
      · skip
        obtain ⟨x5, gx5, h⟩ := o_bind h
        obtain ⟨x6, gx6, h⟩ := o_bind h
        rcases io h with ⟨c7, h⟩ | ⟨c7, h⟩
        · skip
          exact fbX4_tell_8_33_70 l4 u h
        · skip
          obtain ⟨x8, gx8, h⟩ := o_bind h
          obtain ⟨x9, gx9, h⟩ := o_bind h
          obtain ⟨x10, u11, gx10, h⟩ := o_bnd2 h
          refine ft (fr_mono rfl (frX4_run_8_33 x8 x9 u gx10)) ?_
          rcases oi h with ⟨c12, h⟩ | ⟨c12, h⟩
          · skip
            exact fbX4_tell_8_33_90 hk3 l1 l3 l4 u11 h
          · skip
            exact fbX4_tell_8_33_70 l4 u11 h
theorem flX4_tell_8_33_3 {v : Int32} {u' : Mem} : ∀ (n : Nat) (l1 l3 l4 : Int32) (u : Mem), FX4_tell_8_33_L3 n l1 l3 l4 u = some (v, u') → FrL [14] u u' := by
  intro n
  induction n with
  | zero =>
    intro l1 l3 l4 u h
    exact nn_ h
  | succ n ih =>
    intro l1 l3 l4 u h
    exact fbX4_tell_8_33_3 ih l1 l3 l4 u h
theorem frX4_tell_8_33 (p1 p3 : Int32) (u : Mem) {v : Int32} {u' : Mem} (h : FX4_tell_8_33 p1 p3 u = some (v, u')) : FrL [14] u u' := by
  unfold FX4_tell_8_33 at h
  exact flX4_tell_8_33_3 FU p1 p3 0 u h
theorem fbX3_asked_32_195 {v : Int32} {u' : Mem} (l1 l2 t1 t2 : Int32) (u : Mem) (h : FX3_asked_32_b195 l1 l2 t1 t2 u = some (v, u')) : FrL [14, 33] u u' := by
  unfold FX3_asked_32_b195 at h
  obtain ⟨u1, gu1, h⟩ := o_bind h
  refine ft (fr_wr rfl gu1) ?_
  by_cases c2 : l2 = 0
  · have h := it h c2
    obtain ⟨x3, gx3, h⟩ := o_bind h
    obtain ⟨x4, u5, gx4, h⟩ := o_bnd2 h
    refine ft (fr_mono rfl (frX4_tell_8_33 0 (x3 - 59) u1 gx4)) ?_
    obtain ⟨x6, gx6, h⟩ := o_bind h
    cases h
    exact fr_refl _ _
  · have h := ie h c2
    by_cases c7 : l2 = 1
    · have h := it h c7
      obtain ⟨x8, gx8, h⟩ := o_bind h
      obtain ⟨x9, u10, gx9, h⟩ := o_bnd2 h
      refine ft (fr_mono rfl (frX4_tell_8_33 1 x8 u1 gx9)) ?_
      obtain ⟨x11, gx11, h⟩ := o_bind h
      cases h
      exact fr_refl _ _
    · have h := ie h c7
      by_cases c12 : l2 = 2
      · have h := it h c12
        obtain ⟨x13, u14, gx13, h⟩ := o_bnd2 h
        refine ft (fr_mono rfl (frX4_tell_8_33 2 0 u1 gx13)) ?_
        obtain ⟨x15, gx15, h⟩ := o_bind h
        cases h
        exact fr_refl _ _
      · have h := ie h c12
        obtain ⟨x16, u17, gx16, h⟩ := o_bnd2 h
        refine ft (fr_mono rfl (frX4_tell_8_33 3 50 u1 gx16)) ?_
        obtain ⟨x18, gx18, h⟩ := o_bind h
        cases h
        exact fr_refl _ _
theorem fbX3_asked_32_132 {v : Int32} {u' : Mem} (l1 l2 l3 t1 t2 : Int32) (u : Mem) (h : FX3_asked_32_b132 l1 l2 l3 t1 t2 u = some (v, u')) : FrL [14, 33] u u' := by
  unfold FX3_asked_32_b132 at h
  obtain ⟨u1, gu1, h⟩ := o_bind h
  refine ft (fr_wr rfl gu1) ?_
  obtain ⟨u2, gu2, h⟩ := o_bind h
  refine ft (fr_upd rfl gu2) ?_
  obtain ⟨u3, gu3, h⟩ := o_bind h
  refine ft (fr_upd rfl gu3) ?_
  rcases io h with ⟨c4, h⟩ | ⟨c4, h⟩
  · skip
    exact fbX3_asked_32_195 l1 l2 8 0 u3 h
  · skip
    obtain ⟨x5, gx5, h⟩ := o_bind h
    obtain ⟨x6, gx6, h⟩ := o_bind h
    rcases io h with ⟨c7, h⟩ | ⟨c7, h⟩
    · skip
      exact fbX3_asked_32_195 l1 l2 8 0 u3 h
    · skip
      exact fbX3_asked_32_195 l1 l2 8 1 u3 h
theorem fbX3_asked_32_31 {v : Int32} {u' : Mem} (l1 l2 t0 : Int32) (u : Mem) (h : FX3_asked_32_b31 l1 l2 t0 u = some (v, u')) : FrL [14, 33] u u' := by
  unfold FX3_asked_32_b31 at h
  obtain ⟨x1, gx1, h⟩ := o_bind h
  obtain ⟨u2, gu2, h⟩ := o_bind h
  refine ft (fr_upd rfl gu2) ?_
  obtain ⟨x3, gx3, h⟩ := o_bind h
  obtain ⟨u4, gu4, h⟩ := o_bind h
  refine ft (fr_upd rfl gu4) ?_
  obtain ⟨x5, gx5, h⟩ := o_bind h
  obtain ⟨u6, gu6, h⟩ := o_bind h
  refine ft (fr_upd rfl gu6) ?_
  obtain ⟨x7, gx7, h⟩ := o_bind h
  obtain ⟨u8, gu8, h⟩ := o_bind h
  refine ft (fr_upd rfl gu8) ?_
  obtain ⟨x9, gx9, h⟩ := o_bind h
  obtain ⟨x10, gx10, h⟩ := o_bind h
  obtain ⟨u11, gu11, h⟩ := o_bind h
  refine ft (fr_upd rfl gu11) ?_
  rcases io h with ⟨c12, h⟩ | ⟨c12, h⟩
  · skip
    exact fbX3_asked_32_132 l1 l2 t0 5 0 u11 h
  · skip
    obtain ⟨x13, gx13, h⟩ := o_bind h
    exact fbX3_asked_32_132 l1 l2 t0 5 x13 u11 h
theorem frX3_asked_32 (p1 p2 : Int32) (u : Mem) {v : Int32} {u' : Mem} (h : FX3_asked_32 p1 p2 u = some (v, u')) : FrL [14, 33] u u' := by
  unfold FX3_asked_32 at h
  obtain ⟨x1, gx1, h⟩ := o_bind h
  rcases oi h with ⟨c2, h⟩ | ⟨c2, h⟩
  · skip
    obtain ⟨x3, gx3, h⟩ := o_bind h
    rcases oi h with ⟨c4, h⟩ | ⟨c4, h⟩
    · skip
      exact fbX3_asked_32_31 p1 p2 0 u h
    · skip
      exact fbX3_asked_32_31 p1 p2 1 u h
  · skip
    cases h
    exact fr_refl _ _
theorem frX1_write_30 (p1 p2 p3 p4 p5 : Int32) (u : Mem) {u' : Mem} (h : FX1_write_30 p1 p2 p3 p4 p5 u = some u') : FrL [31] u u' := by
  unfold FX1_write_30 at h
  rcases io h with ⟨c1, h⟩ | ⟨c1, h⟩
  · skip
    cases h
    exact fr_refl _ _
  · skip
    rcases io h with ⟨c2, h⟩ | ⟨c2, h⟩
    · skip
      cases h
      exact fr_refl _ _
    · skip
      obtain ⟨u3, gu3, h⟩ := o_bind h
      refine ft (fr_wr rfl gu3) ?_
      obtain ⟨u4, gu4, h⟩ := o_bind h
      refine ft (fr_wr rfl gu4) ?_
      obtain ⟨u5, gu5, h⟩ := o_bind h
      refine ft (fr_wr rfl gu5) ?_
      obtain ⟨u6, gu6, h⟩ := o_bind h
      refine ft (fr_wr rfl gu6) ?_
      cases h
      exact fr_refl _ _
theorem frX3_note_32 (p1 p2 p3 : Int32) (u : Mem) {u' : Mem} (h : FX3_note_32 p1 p2 p3 u = some u') : FrL [23, 31] u u' := by
  unfold FX3_note_32 at h
  rcases io h with ⟨c1, h⟩ | ⟨c1, h⟩
  · skip
    cases h
    exact fr_refl _ _
  · skip
    rcases io h with ⟨c2, h⟩ | ⟨c2, h⟩
    · skip
      cases h
      exact fr_refl _ _
    · skip
      obtain ⟨u4, gu4, h⟩ := o_bind h
      refine ft (fr_mono rfl (frX1_write_30 (u 23 9) (u 23 7) p1 p2 p3 u gu4)) ?_
      obtain ⟨u5, gu5, h⟩ := o_bind h
      refine ft (fr_upd rfl gu5) ?_
      cases h
      exact fr_refl _ _
theorem fbX3_callUp_32_175 {u' : Mem} (l1 l2 : Int32) (u : Mem) (h : FX3_callUp_32_b175 l1 l2 u = some u') : FrL [14, 23, 27, 28, 31, 33] u u' := by
  unfold FX3_callUp_32_b175 at h
  rcases io h with ⟨c1, h⟩ | ⟨c1, h⟩
  · skip
    cases h
    exact fr_refl _ _
  · skip
    obtain ⟨u2, gu2, h⟩ := o_bind h
    refine ft (fr_wr rfl gu2) ?_
    obtain ⟨x3, gx3, h⟩ := o_bind h
    obtain ⟨u4, gu4, h⟩ := o_bind h
    refine ft (fr_wr rfl gu4) ?_
    obtain ⟨x5, gx5, h⟩ := o_bind h
    obtain ⟨u7, gu7, h⟩ := o_bind h
    refine ft (fr_mono rfl (frX3_note_32 0 l2 x5 u4 gu7)) ?_
    cases h
    exact fr_refl _ _
theorem fbX3_callUp_32_169 {u' : Mem} {k32 : Int32 → Int32 → Int32 → Int32 → Mem → Option Mem} (hk32 : ∀ (l1 l2 l3 l4 : Int32) (u : Mem), k32 l1 l2 l3 l4 u = some u' → FrL [14, 23, 27, 28, 31, 33] u u') (l1 l2 l3 l4 : Int32) (u : Mem) (h : FX3_callUp_32_b169 k32 l1 l2 l3 l4 u = some u') : FrL [14, 23, 27, 28, 31, 33] u u' := by
  unfold FX3_callUp_32_b169 at h
  exact hk32 l1 l2 l3 (l4 + 1) u h
theorem fbX3_callUp_32_163 {u' : Mem} {k32 : Int32 → Int32 → Int32 → Int32 → Mem → Option Mem} (hk32 : ∀ (l1 l2 l3 l4 : Int32) (u : Mem), k32 l1 l2 l3 l4 u = some u' → FrL [14, 23, 27, 28, 31, 33] u u') (l1 l4 l5 : Int32) (u : Mem) (h : FX3_callUp_32_b163 k32 l1 l4 l5 u = some u') : FrL [14, 23, 27, 28, 31, 33] u u' := by
  unfold FX3_callUp_32_b163 at h
  exact fbX3_callUp_32_169 hk32 l1 l4 l5 l4 u h
theorem fbX3_callUp_32_139 {u' : Mem} {k32 : Int32 → Int32 → Int32 → Int32 → Mem → Option Mem} (hk32 : ∀ (l1 l2 l3 l4 : Int32) (u : Mem), k32 l1 l2 l3 l4 u = some u' → FrL [14, 23, 27, 28, 31, 33] u u') (l1 l2 l3 l4 l5 t0 : Int32) (u : Mem) (h : FX3_callUp_32_b139 k32 l1 l2 l3 l4 l5 t0 u = some u') : FrL [14, 23, 27, 28, 31, 33] u u' := by
  unfold FX3_callUp_32_b139 at h
  rcases io h with ⟨c1, h⟩ | ⟨c1, h⟩
  · skip
    exact fbX3_callUp_32_163 hk32 l1 l4 l5 u h
  · skip
    rcases io h with ⟨c2, h⟩ | ⟨c2, h⟩
    · skip
      exact fbX3_callUp_32_169 hk32 l1 l2 l3 l4 u h
    · skip
      rcases oi h with ⟨c3, h⟩ | ⟨c3, h⟩
      · skip
        exact fbX3_callUp_32_169 hk32 l1 l2 l3 l4 u h
      · skip
        rcases io h with ⟨c4, h⟩ | ⟨c4, h⟩
        · skip
          exact fbX3_callUp_32_169 hk32 l1 l2 l3 l4 u h
        · skip
          exact fbX3_callUp_32_163 hk32 l1 l4 l5 u h
theorem fbX3_callUp_32_32 {u' : Mem} {k32 : Int32 → Int32 → Int32 → Int32 → Mem → Option Mem} (hk32 : ∀ (l1 l2 l3 l4 : Int32) (u : Mem), k32 l1 l2 l3 l4 u = some u' → FrL [14, 23, 27, 28, 31, 33] u u') (l1 l2 l3 l4 : Int32) (u : Mem) (h : FX3_callUp_32_b32 k32 l1 l2 l3 l4 u = some u') : FrL [14, 23, 27, 28, 31, 33] u u' := by
  unfold FX3_callUp_32_b32 at h
  rcases io h with ⟨c1, h⟩ | ⟨c1, h⟩
  · skip
    exact fbX3_callUp_32_175 l1 l2 u h
  · skip
    rcases io h with ⟨c2, h⟩ | ⟨c2, h⟩
    · skip
      exact fbX3_callUp_32_175 l1 l2 u h
    · skip
      obtain ⟨x3, gx3, h⟩ := o_bind h
      rcases oi h with ⟨c4, h⟩ | ⟨c4, h⟩
      · skip
        exact fbX3_callUp_32_169 hk32 l1 l2 l3 l4 u h
      · skip
        obtain ⟨x5, gx5, h⟩ := o_bind h
        rcases oi h with ⟨c6, h⟩ | ⟨c6, h⟩
        · skip
          exact fbX3_callUp_32_169 hk32 l1 l2 l3 l4 u h
        · skip
          obtain ⟨x7, gx7, h⟩ := o_bind h
          rcases io h with ⟨c8, h⟩ | ⟨c8, h⟩
          · skip
            obtain ⟨x9, u10, gx9, h⟩ := o_bnd2 h
            refine ft (fr_mono rfl (frX3_asked_32 l4 0 u gx9)) ?_
            rcases io h with ⟨c11, h⟩ | ⟨c11, h⟩
            · skip
              exact fbX3_callUp_32_139 hk32 l1 l2 l3 l4 x9 0 u10 h
            · skip
              obtain ⟨x12, gx12, h⟩ := o_bind h
              obtain ⟨x13, gx13, h⟩ := o_bind h
              rcases io h with ⟨c14, h⟩ | ⟨c14, h⟩
              · skip
                exact fbX3_callUp_32_139 hk32 l1 l2 l3 l4 x9 0 u10 h
              · skip
                exact fbX3_callUp_32_139 hk32 l1 l2 l3 l4 x9 1 u10 h
          · skip
            exact fbX3_callUp_32_169 hk32 l1 l2 l3 l4 u h
theorem flX3_callUp_32_32 {u' : Mem} : ∀ (n : Nat) (l1 l2 l3 l4 : Int32) (u : Mem), FX3_callUp_32_L32 n l1 l2 l3 l4 u = some u' → FrL [14, 23, 27, 28, 31, 33] u u' := by
  intro n
  induction n with
  | zero =>
    intro l1 l2 l3 l4 u h
    exact nn_ h
  | succ n ih =>
    intro l1 l2 l3 l4 u h
    exact fbX3_callUp_32_32 ih l1 l2 l3 l4 u h
theorem frX3_callUp_32 (p1 : Int32) (u : Mem) {u' : Mem} (h : FX3_callUp_32 p1 u = some u') : FrL [14, 23, 27, 28, 31, 33] u u' := by
  unfold FX3_callUp_32 at h
  obtain ⟨x1, gx1, h⟩ := o_bind h
  rcases io h with ⟨c2, h⟩ | ⟨c2, h⟩
  · skip
    cases h
    exact fr_refl _ _
  · skip
    obtain ⟨x3, gx3, h⟩ := o_bind h
    obtain ⟨x4, gx4, h⟩ := o_bind h
    rcases io h with ⟨c5, h⟩ | ⟨c5, h⟩
    · skip
      exact flX3_callUp_32_32 FU p1 (-1) 0 0 u h
    · skip
      cases h
      exact fr_refl _ _
theorem fbX3_walk_32_110 {u' : Mem} {k48 : Int32 → Int32 → Int32 → Int32 → Int32 → Mem → Option Mem} (hk48 : ∀ (l1 l4 l5 l6 l7 : Int32) (u : Mem), k48 l1 l4 l5 l6 l7 u = some u' → FrL [28] u u') (l1 l4 l5 l6 l7 l8 l9 t0 : Int32) (u : Mem) (h : FX3_walk_32_b110 k48 l1 l4 l5 l6 l7 l8 l9 t0 u = some u') : FrL [28] u u' := by
  unfold FX3_walk_32_b110 at h
  rcases oi h with ⟨c1, h⟩ | ⟨c1, h⟩
  · skip
    cases h
    exact fr_refl _ _
  · skip
    rcases io h with ⟨c2, h⟩ | ⟨c2, h⟩
    · skip
      cases h
      exact fr_refl _ _
    · skip
      obtain ⟨x3, gx3, h⟩ := o_bind h
      obtain ⟨x4, gx4, h⟩ := o_bind h
      rcases io h with ⟨c5, h⟩ | ⟨c5, h⟩
      · skip
        obtain ⟨u6, gu6, h⟩ := o_bind h
        refine ft (fr_wr rfl gu6) ?_
        exact hk48 l1 l4 l5 (l6 - l9) (l7 + 1) u6 h
      · skip
        cases h
        exact fr_refl _ _
theorem fbX3_walk_32_91 {u' : Mem} {k48 : Int32 → Int32 → Int32 → Int32 → Int32 → Mem → Option Mem} (hk48 : ∀ (l1 l4 l5 l6 l7 : Int32) (u : Mem), k48 l1 l4 l5 l6 l7 u = some u' → FrL [28] u u') (l1 l4 l5 l6 l7 l8 t0 : Int32) (u : Mem) (h : FX3_walk_32_b91 k48 l1 l4 l5 l6 l7 l8 t0 u = some u') : FrL [28] u u' := by
  unfold FX3_walk_32_b91 at h
  rcases io h with ⟨c1, h⟩ | ⟨c1, h⟩
  · skip
    exact fbX3_walk_32_110 hk48 l1 l4 l5 l6 l7 l8 t0 1 u h
  · skip
    rcases io h with ⟨c2, h⟩ | ⟨c2, h⟩
    · skip
      exact fbX3_walk_32_110 hk48 l1 l4 l5 l6 l7 l8 t0 0 u h
    · skip
      exact fbX3_walk_32_110 hk48 l1 l4 l5 l6 l7 l8 t0 1 u h
theorem fbX3_walk_32_48 {u' : Mem} {k48 : Int32 → Int32 → Int32 → Int32 → Int32 → Mem → Option Mem} (hk48 : ∀ (l1 l4 l5 l6 l7 : Int32) (u : Mem), k48 l1 l4 l5 l6 l7 u = some u' → FrL [28] u u') (l1 l4 l5 l6 l7 : Int32) (u : Mem) (h : FX3_walk_32_b48 k48 l1 l4 l5 l6 l7 u = some u') : FrL [28] u u' := by
  unfold FX3_walk_32_b48 at h
  rcases io h with ⟨c1, h⟩ | ⟨c1, h⟩
  · skip
    cases h
    exact fr_refl _ _
  · skip
    rcases io h with ⟨c2, h⟩ | ⟨c2, h⟩
    · skip
      cases h
      exact fr_refl _ _
    · skip
      obtain ⟨x3, gx3, h⟩ := o_bind h
      obtain ⟨x4, gx4, h⟩ := o_bind h
      rcases io h with ⟨c5, h⟩ | ⟨c5, h⟩
      · skip
        exact fbX3_walk_32_91 hk48 l1 l4 l5 l6 l7 (x3 + l4) 1 u h
      · skip
        exact fbX3_walk_32_91 hk48 l1 l4 l5 l6 l7 (x3 + l4) 2 u h
theorem flX3_walk_32_48 {u' : Mem} : ∀ (n : Nat) (l1 l4 l5 l6 l7 : Int32) (u : Mem), FX3_walk_32_L48 n l1 l4 l5 l6 l7 u = some u' → FrL [28] u u' := by
  intro n
  induction n with
  | zero =>
    intro l1 l4 l5 l6 l7 u h
    exact nn_ h
  | succ n ih =>
    intro l1 l4 l5 l6 l7 u h
    exact fbX3_walk_32_48 ih l1 l4 l5 l6 l7 u h
theorem fbX3_walk_32_31 {u' : Mem} (l1 l2 l3 t0 : Int32) (u : Mem) (h : FX3_walk_32_b31 l1 l2 l3 t0 u = some u') : FrL [28] u u' := by
  unfold FX3_walk_32_b31 at h
  obtain ⟨x1, gx1, h⟩ := o_bind h
  exact flX3_walk_32_48 FU l1 t0 x1 l2 0 u h
theorem frX3_walk_32 (p1 p2 : Int32) (u : Mem) {u' : Mem} (h : FX3_walk_32 p1 p2 u = some u') : FrL [28] u u' := by
  unfold FX3_walk_32 at h
  obtain ⟨x1, gx1, h⟩ := o_bind h
  rcases oi h with ⟨c2, h⟩ | ⟨c2, h⟩
  · skip
    obtain ⟨x3, gx3, h⟩ := o_bind h
    rcases oi h with ⟨c4, h⟩ | ⟨c4, h⟩
    · skip
      exact fbX3_walk_32_31 p1 p2 x3 (-1) u h
    · skip
      exact fbX3_walk_32_31 p1 p2 x3 1 u h
  · skip
    cases h
    exact fr_refl _ _
theorem fbX3_goOn_32_155 {u' : Mem} {k40 : Int32 → Int32 → Int32 → Mem → Option Mem} (hk40 : ∀ (l1 l2 l3 : Int32) (u : Mem), k40 l1 l2 l3 u = some u' → FrL [14, 24, 28, 33] u u') (l1 l2 l3 : Int32) (u : Mem) (h : FX3_goOn_32_b155 k40 l1 l2 l3 u = some u') : FrL [14, 24, 28, 33] u u' := by
  unfold FX3_goOn_32_b155 at h
  exact hk40 l1 l2 (l3 + 1) u h
theorem fbX3_goOn_32_108 {u' : Mem} {k40 : Int32 → Int32 → Int32 → Mem → Option Mem} (hk40 : ∀ (l1 l2 l3 : Int32) (u : Mem), k40 l1 l2 l3 u = some u' → FrL [14, 24, 28, 33] u u') (l1 l2 l3 t0 : Int32) (u : Mem) (h : FX3_goOn_32_b108 k40 l1 l2 l3 t0 u = some u') : FrL [14, 24, 28, 33] u u' := by
  unfold FX3_goOn_32_b108 at h
  rcases io h with ⟨c1, h⟩ | ⟨c1, h⟩
  · skip
    obtain ⟨x2, u3, gx2, h⟩ := o_bnd2 h
    refine ft (fr_mono rfl (frX3_asked_32 l3 1 u gx2)) ?_
    obtain ⟨u5, gu5, h⟩ := o_bind h
    refine ft (fr_mono rfl (frX3_walk_32 l3 x2 u3 gu5)) ?_
    exact fbX3_goOn_32_155 hk40 l1 l2 l3 u5 h
  · skip
    obtain ⟨x6, gx6, h⟩ := o_bind h
    obtain ⟨u7, gu7, h⟩ := o_bind h
    refine ft (fr_wr rfl gu7) ?_
    exact fbX3_goOn_32_155 hk40 l1 l2 l3 u7 h
theorem fbX3_goOn_32_90 {u' : Mem} {k40 : Int32 → Int32 → Int32 → Mem → Option Mem} (hk40 : ∀ (l1 l2 l3 : Int32) (u : Mem), k40 l1 l2 l3 u = some u' → FrL [14, 24, 28, 33] u u') (l1 l2 l3 t0 : Int32) (u : Mem) (h : FX3_goOn_32_b90 k40 l1 l2 l3 t0 u = some u') : FrL [14, 24, 28, 33] u u' := by
  unfold FX3_goOn_32_b90 at h
  rcases io h with ⟨c1, h⟩ | ⟨c1, h⟩
  · skip
    obtain ⟨x2, u3, gx2, h⟩ := o_bnd2 h
    refine ft (fr_mono rfl (frX3_asked_32 l3 2 u gx2)) ?_
    exact fbX3_goOn_32_108 hk40 l1 l2 l3 x2 u3 h
  · skip
    exact fbX3_goOn_32_108 hk40 l1 l2 l3 10 u h
theorem fbX3_goOn_32_40 {u' : Mem} {k40 : Int32 → Int32 → Int32 → Mem → Option Mem} (hk40 : ∀ (l1 l2 l3 : Int32) (u : Mem), k40 l1 l2 l3 u = some u' → FrL [14, 24, 28, 33] u u') (l1 l2 l3 : Int32) (u : Mem) (h : FX3_goOn_32_b40 k40 l1 l2 l3 u = some u') : FrL [14, 24, 28, 33] u u' := by
  unfold FX3_goOn_32_b40 at h
  rcases io h with ⟨c1, h⟩ | ⟨c1, h⟩
  · skip
    cases h
    exact fr_refl _ _
  · skip
    rcases io h with ⟨c2, h⟩ | ⟨c2, h⟩
    · skip
      cases h
      exact fr_refl _ _
    · skip
      obtain ⟨x3, gx3, h⟩ := o_bind h
      rcases io h with ⟨c4, h⟩ | ⟨c4, h⟩
      · skip
        obtain ⟨x5, gx5, h⟩ := o_bind h
        rcases oi h with ⟨c6, h⟩ | ⟨c6, h⟩
        · skip
          exact fbX3_goOn_32_90 hk40 l1 l2 l3 l2 u h
        · skip
          exact fbX3_goOn_32_90 hk40 l1 l2 l3 l1 u h
      · skip
        exact fbX3_goOn_32_155 hk40 l1 l2 l3 u h
theorem flX3_goOn_32_40 {u' : Mem} : ∀ (n : Nat) (l1 l2 l3 : Int32) (u : Mem), FX3_goOn_32_L40 n l1 l2 l3 u = some u' → FrL [14, 24, 28, 33] u u' := by
  intro n
  induction n with
  | zero =>
    intro l1 l2 l3 u h
    exact nn_ h
  | succ n ih =>
    intro l1 l2 l3 u h
    exact fbX3_goOn_32_40 ih l1 l2 l3 u h
theorem frX3_goOn_32 (u : Mem) {u' : Mem} (h : FX3_goOn_32 u = some u') : FrL [14, 24, 28, 33] u u' := by
  unfold FX3_goOn_32 at h
  obtain ⟨x1, gx1, h⟩ := o_bind h
  obtain ⟨x2, gx2, h⟩ := o_bind h
  exact flX3_goOn_32_40 FU x1 x2 0 u h
theorem fbX3_halve_32_41 {u' : Mem} {k2 : Int32 → Int32 → Mem → Option Mem} (hk2 : ∀ (l1 l2 : Int32) (u : Mem), k2 l1 l2 u = some u' → FrL [24] u u') (l1 l2 : Int32) (u : Mem) (h : FX3_halve_32_b41 k2 l1 l2 u = some u') : FrL [24] u u' := by
  unfold FX3_halve_32_b41 at h
  exact hk2 l1 (l2 + 1) u h
theorem fbX3_halve_32_2 {u' : Mem} {k2 : Int32 → Int32 → Mem → Option Mem} (hk2 : ∀ (l1 l2 : Int32) (u : Mem), k2 l1 l2 u = some u' → FrL [24] u u') (l1 l2 : Int32) (u : Mem) (h : FX3_halve_32_b2 k2 l1 l2 u = some u') : FrL [24] u u' := by
  unfold FX3_halve_32_b2 at h
  rcases io h with ⟨c1, h⟩ | ⟨c1, h⟩
  · skip
    cases h
    exact fr_refl _ _
  · skip
    rcases io h with ⟨c2, h⟩ | ⟨c2, h⟩
    · skip
      cases h
      exact fr_refl _ _
    · skip
      obtain ⟨x3, gx3, h⟩ := o_bind h
      rcases io h with ⟨c4, h⟩ | ⟨c4, h⟩
      · skip
        exact fbX3_halve_32_41 hk2 l1 l2 u h
      · skip
        obtain ⟨x5, gx5, h⟩ := o_bind h
        obtain ⟨x6, gx6, h⟩ := o_bind h
        obtain ⟨u7, gu7, h⟩ := o_bind h
        refine ft (fr_wr rfl gu7) ?_
        exact fbX3_halve_32_41 hk2 l1 l2 u7 h
theorem flX3_halve_32_2 {u' : Mem} : ∀ (n : Nat) (l1 l2 : Int32) (u : Mem), FX3_halve_32_L2 n l1 l2 u = some u' → FrL [24] u u' := by
  intro n
  induction n with
  | zero =>
    intro l1 l2 u h
    exact nn_ h
  | succ n ih =>
    intro l1 l2 u h
    exact fbX3_halve_32_2 ih l1 l2 u h
theorem frX3_halve_32 (p1 : Int32) (u : Mem) {u' : Mem} (h : FX3_halve_32 p1 u = some u') : FrL [24] u u' := by
  unfold FX3_halve_32 at h
  exact flX3_halve_32_2 FU p1 0 u h
theorem fbX3_catchYoungest_32_96 {u' : Mem} (l2 l3 : Int32) (u : Mem) (h : FX3_catchYoungest_32_b96 l2 l3 u = some u') : FrL [23, 27, 29, 31, 32] u u' := by
  unfold FX3_catchYoungest_32_b96 at h
  rcases io h with ⟨c1, h⟩ | ⟨c1, h⟩
  · skip
    cases h
    exact fr_refl _ _
  · skip
    obtain ⟨u2, gu2, h⟩ := o_bind h
    refine ft (fr_wr rfl gu2) ?_
    obtain ⟨u3, gu3, h⟩ := o_bind h
    refine ft (fr_wr rfl gu3) ?_
    obtain ⟨u4, gu4, h⟩ := o_bind h
    refine ft (fr_upd rfl gu4) ?_
    obtain ⟨u6, gu6, h⟩ := o_bind h
    refine ft (fr_mono rfl (frX3_note_32 1 l3 l2 u4 gu6)) ?_
    cases h
    exact fr_refl _ _
theorem fbX3_catchYoungest_32_90 {u' : Mem} {k5 : Int32 → Int32 → Int32 → Int32 → Mem → Option Mem} (hk5 : ∀ (l1 l2 l3 l4 : Int32) (u : Mem), k5 l1 l2 l3 l4 u = some u' → FrL [23, 27, 29, 31, 32] u u') (l1 l2 l3 l4 : Int32) (u : Mem) (h : FX3_catchYoungest_32_b90 k5 l1 l2 l3 l4 u = some u') : FrL [23, 27, 29, 31, 32] u u' := by
  unfold FX3_catchYoungest_32_b90 at h
  exact hk5 l1 l2 l3 (l4 + 1) u h
theorem fbX3_catchYoungest_32_87 {u' : Mem} {k5 : Int32 → Int32 → Int32 → Int32 → Mem → Option Mem} (hk5 : ∀ (l1 l2 l3 l4 : Int32) (u : Mem), k5 l1 l2 l3 l4 u = some u' → FrL [23, 27, 29, 31, 32] u u') (l1 l2 l4 : Int32) (u : Mem) (h : FX3_catchYoungest_32_b87 k5 l1 l2 l4 u = some u') : FrL [23, 27, 29, 31, 32] u u' := by
  unfold FX3_catchYoungest_32_b87 at h
  exact fbX3_catchYoungest_32_90 hk5 l1 l2 l4 l4 u h
theorem fbX3_catchYoungest_32_53 {u' : Mem} {k5 : Int32 → Int32 → Int32 → Int32 → Mem → Option Mem} (hk5 : ∀ (l1 l2 l3 l4 : Int32) (u : Mem), k5 l1 l2 l3 l4 u = some u' → FrL [23, 27, 29, 31, 32] u u') (l1 l2 l3 l4 t0 : Int32) (u : Mem) (h : FX3_catchYoungest_32_b53 k5 l1 l2 l3 l4 t0 u = some u') : FrL [23, 27, 29, 31, 32] u u' := by
  unfold FX3_catchYoungest_32_b53 at h
  rcases io h with ⟨c1, h⟩ | ⟨c1, h⟩
  · skip
    exact fbX3_catchYoungest_32_90 hk5 l1 l2 l3 l4 u h
  · skip
    rcases io h with ⟨c2, h⟩ | ⟨c2, h⟩
    · skip
      exact fbX3_catchYoungest_32_87 hk5 l1 l2 l4 u h
    · skip
      obtain ⟨x3, gx3, h⟩ := o_bind h
      obtain ⟨x4, gx4, h⟩ := o_bind h
      rcases io h with ⟨c5, h⟩ | ⟨c5, h⟩
      · skip
        exact fbX3_catchYoungest_32_90 hk5 l1 l2 l3 l4 u h
      · skip
        exact fbX3_catchYoungest_32_87 hk5 l1 l2 l4 u h
theorem fbX3_catchYoungest_32_5 {u' : Mem} {k5 : Int32 → Int32 → Int32 → Int32 → Mem → Option Mem} (hk5 : ∀ (l1 l2 l3 l4 : Int32) (u : Mem), k5 l1 l2 l3 l4 u = some u' → FrL [23, 27, 29, 31, 32] u u') (l1 l2 l3 l4 : Int32) (u : Mem) (h : FX3_catchYoungest_32_b5 k5 l1 l2 l3 l4 u = some u') : FrL [23, 27, 29, 31, 32] u u' := by
  unfold FX3_catchYoungest_32_b5 at h
  rcases io h with ⟨c1, h⟩ | ⟨c1, h⟩
  · skip
    exact fbX3_catchYoungest_32_96 l2 l3 u h
  · skip
    rcases io h with ⟨c2, h⟩ | ⟨c2, h⟩
    · skip
      exact fbX3_catchYoungest_32_96 l2 l3 u h
    · skip
      obtain ⟨x3, gx3, h⟩ := o_bind h
      rcases oi h with ⟨c4, h⟩ | ⟨c4, h⟩
      · skip
        exact fbX3_catchYoungest_32_53 hk5 l1 l2 l3 l4 0 u h
      · skip
        obtain ⟨x5, gx5, h⟩ := o_bind h
        rcases io h with ⟨c6, h⟩ | ⟨c6, h⟩
        · skip
          exact fbX3_catchYoungest_32_53 hk5 l1 l2 l3 l4 0 u h
        · skip
          exact fbX3_catchYoungest_32_53 hk5 l1 l2 l3 l4 1 u h
theorem flX3_catchYoungest_32_5 {u' : Mem} : ∀ (n : Nat) (l1 l2 l3 l4 : Int32) (u : Mem), FX3_catchYoungest_32_L5 n l1 l2 l3 l4 u = some u' → FrL [23, 27, 29, 31, 32] u u' := by
  intro n
  induction n with
  | zero =>
    intro l1 l2 l3 l4 u h
    exact nn_ h
  | succ n ih =>
    intro l1 l2 l3 l4 u h
    exact fbX3_catchYoungest_32_5 ih l1 l2 l3 l4 u h
theorem frX3_catchYoungest_32 (p1 p2 : Int32) (u : Mem) {u' : Mem} (h : FX3_catchYoungest_32 p1 p2 u = some u') : FrL [23, 27, 29, 31, 32] u u' := by
  unfold FX3_catchYoungest_32 at h
  exact flX3_catchYoungest_32_5 FU p1 p2 (-1) 0 u h
theorem fbX3_beat_32_102 {u' : Mem} {k2 : Int32 → Int32 → Int32 → Mem → Option Mem} (hk2 : ∀ (l1 l2 l3 : Int32) (u : Mem), k2 l1 l2 l3 u = some u' → FrL [23, 24, 27, 31] u u') (l1 l2 l3 : Int32) (u : Mem) (h : FX3_beat_32_b102 k2 l1 l2 l3 u = some u') : FrL [23, 24, 27, 31] u u' := by
  unfold FX3_beat_32_b102 at h
  exact hk2 l1 l2 (l3 + 1) u h
theorem fbX3_beat_32_2 {u' : Mem} {k2 : Int32 → Int32 → Int32 → Mem → Option Mem} (hk2 : ∀ (l1 l2 l3 : Int32) (u : Mem), k2 l1 l2 l3 u = some u' → FrL [23, 24, 27, 31] u u') (l1 l2 l3 : Int32) (u : Mem) (h : FX3_beat_32_b2 k2 l1 l2 l3 u = some u') : FrL [23, 24, 27, 31] u u' := by
  unfold FX3_beat_32_b2 at h
  rcases io h with ⟨c1, h⟩ | ⟨c1, h⟩
  · skip
    cases h
    exact fr_refl _ _
  · skip
    rcases io h with ⟨c2, h⟩ | ⟨c2, h⟩
    · skip
      cases h
      exact fr_refl _ _
    · skip
      obtain ⟨x3, gx3, h⟩ := o_bind h
      rcases oi h with ⟨c4, h⟩ | ⟨c4, h⟩
      · skip
        obtain ⟨x5, gx5, h⟩ := o_bind h
        rcases io h with ⟨c6, h⟩ | ⟨c6, h⟩
        · skip
          obtain ⟨u7, gu7, h⟩ := o_bind h
          refine ft (fr_wr rfl gu7) ?_
          obtain ⟨x8, gx8, h⟩ := o_bind h
          obtain ⟨x9, gx9, h⟩ := o_bind h
          obtain ⟨u10, gu10, h⟩ := o_bind h
          refine ft (fr_wr rfl gu10) ?_
          obtain ⟨u12, gu12, h⟩ := o_bind h
          refine ft (fr_mono rfl (frX3_note_32 2 l3 l2 u10 gu12)) ?_
          exact fbX3_beat_32_102 hk2 l1 l2 l3 u12 h
        · skip
          obtain ⟨x13, gx13, h⟩ := o_bind h
          obtain ⟨u14, gu14, h⟩ := o_bind h
          refine ft (fr_wr rfl gu14) ?_
          exact fbX3_beat_32_102 hk2 l1 l2 l3 u14 h
      · skip
        exact fbX3_beat_32_102 hk2 l1 l2 l3 u h
theorem flX3_beat_32_2 {u' : Mem} : ∀ (n : Nat) (l1 l2 l3 : Int32) (u : Mem), FX3_beat_32_L2 n l1 l2 l3 u = some u' → FrL [23, 24, 27, 31] u u' := by
  intro n
  induction n with
  | zero =>
    intro l1 l2 l3 u h
    exact nn_ h
  | succ n ih =>
    intro l1 l2 l3 u h
    exact fbX3_beat_32_2 ih l1 l2 l3 u h
theorem frX3_beat_32 (p1 p2 : Int32) (u : Mem) {u' : Mem} (h : FX3_beat_32 p1 p2 u = some u') : FrL [23, 24, 27, 31] u u' := by
  unfold FX3_beat_32 at h
  exact flX3_beat_32_2 FU p1 p2 0 u h
theorem fbX3_fight_32_85 {u' : Mem} {k14 : Int32 → Int32 → Mem → Option Mem} (hk14 : ∀ (l1 l2 : Int32) (u : Mem), k14 l1 l2 u = some u' → FrL [23, 24, 27, 29, 31, 32] u u') (l1 l2 : Int32) (u : Mem) (h : FX3_fight_32_b85 k14 l1 l2 u = some u') : FrL [23, 24, 27, 29, 31, 32] u u' := by
  unfold FX3_fight_32_b85 at h
  exact hk14 l1 (l2 + 1) u h
theorem fbX3_fight_32_81 {u' : Mem} {k14 : Int32 → Int32 → Mem → Option Mem} (hk14 : ∀ (l1 l2 : Int32) (u : Mem), k14 l1 l2 u = some u' → FrL [23, 24, 27, 29, 31, 32] u u') (l1 l2 t1 : Int32) (u : Mem) (h : FX3_fight_32_b81 k14 l1 l2 t1 u = some u') : FrL [23, 24, 27, 29, 31, 32] u u' := by
  unfold FX3_fight_32_b81 at h
  obtain ⟨u2, gu2, h⟩ := o_bind h
  refine ft (fr_mono rfl (frX3_beat_32 t1 l2 u gu2)) ?_
  exact fbX3_fight_32_85 hk14 l1 l2 u2 h
theorem fbX3_fight_32_67 {u' : Mem} {k14 : Int32 → Int32 → Mem → Option Mem} (hk14 : ∀ (l1 l2 : Int32) (u : Mem), k14 l1 l2 u = some u' → FrL [23, 24, 27, 29, 31, 32] u u') (l1 l2 l3 t1 : Int32) (u : Mem) (h : FX3_fight_32_b67 k14 l1 l2 l3 t1 u = some u') : FrL [23, 24, 27, 29, 31, 32] u u' := by
  unfold FX3_fight_32_b67 at h
  obtain ⟨u2, gu2, h⟩ := o_bind h
  refine ft (fr_mono rfl (frX3_catchYoungest_32 t1 l2 u gu2)) ?_
  rcases io h with ⟨c3, h⟩ | ⟨c3, h⟩
  · skip
    exact fbX3_fight_32_81 hk14 l1 l2 1 u2 h
  · skip
    exact fbX3_fight_32_81 hk14 l1 l2 0 u2 h
theorem fbX3_fight_32_14 {u' : Mem} {k14 : Int32 → Int32 → Mem → Option Mem} (hk14 : ∀ (l1 l2 : Int32) (u : Mem), k14 l1 l2 u = some u' → FrL [23, 24, 27, 29, 31, 32] u u') (l1 l2 : Int32) (u : Mem) (h : FX3_fight_32_b14 k14 l1 l2 u = some u') : FrL [23, 24, 27, 29, 31, 32] u u' := by
  unfold FX3_fight_32_b14 at h
  rcases io h with ⟨c1, h⟩ | ⟨c1, h⟩
  · skip
    cases h
    exact fr_refl _ _
  · skip
    obtain ⟨x2, gx2, h⟩ := o_bind h
    rcases oi h with ⟨c3, h⟩ | ⟨c3, h⟩
    · skip
      obtain ⟨x4, gx4, h⟩ := o_bind h
      obtain ⟨x5, gx5, h⟩ := o_bind h
      rcases oi h with ⟨c6, h⟩ | ⟨c6, h⟩
      · skip
        rcases io h with ⟨c7, h⟩ | ⟨c7, h⟩
        · skip
          exact fbX3_fight_32_67 hk14 l1 l2 (x4 - x5) 1 u h
        · skip
          exact fbX3_fight_32_67 hk14 l1 l2 (x4 - x5) 0 u h
      · skip
        obtain ⟨u9, gu9, h⟩ := o_bind h
        refine ft (fr_mono rfl (frX3_halve_32 l2 u gu9)) ?_
        exact fbX3_fight_32_85 hk14 l1 l2 u9 h
    · skip
      exact fbX3_fight_32_85 hk14 l1 l2 u h
theorem flX3_fight_32_14 {u' : Mem} : ∀ (n : Nat) (l1 l2 : Int32) (u : Mem), FX3_fight_32_L14 n l1 l2 u = some u' → FrL [23, 24, 27, 29, 31, 32] u u' := by
  intro n
  induction n with
  | zero =>
    intro l1 l2 u h
    exact nn_ h
  | succ n ih =>
    intro l1 l2 u h
    exact fbX3_fight_32_14 ih l1 l2 u h
theorem frX3_fight_32 (u : Mem) {u' : Mem} (h : FX3_fight_32 u = some u') : FrL [23, 24, 27, 29, 31, 32] u u' := by
  unfold FX3_fight_32 at h
  obtain ⟨x1, gx1, h⟩ := o_bind h
  obtain ⟨x2, gx2, h⟩ := o_bind h
  exact flX3_fight_32_14 FU (x1 &&& x2) 0 u h
theorem fbX3_arrive_32_66 {u' : Mem} (u : Mem) (h : FX3_arrive_32_b66 u = some u') : FrL [23] u u' := by
  unfold FX3_arrive_32_b66 at h
  obtain ⟨u1, gu1, h⟩ := o_bind h
  refine ft (fr_upd rfl gu1) ?_
  cases h
  exact fr_refl _ _
theorem fbX3_arrive_32_39 {u' : Mem} (l1 l2 t0 : Int32) (u : Mem) (h : FX3_arrive_32_b39 l1 l2 t0 u = some u') : FrL [23] u u' := by
  unfold FX3_arrive_32_b39 at h
  rcases oi h with ⟨c1, h⟩ | ⟨c1, h⟩
  · skip
    exact fbX3_arrive_32_66 u h
  · skip
    obtain ⟨x2, gx2, h⟩ := o_bind h
    obtain ⟨x3, gx3, h⟩ := o_bind h
    rcases io h with ⟨c4, h⟩ | ⟨c4, h⟩
    · skip
      cases h
      exact fr_refl _ _
    · skip
      obtain ⟨x5, gx5, h⟩ := o_bind h
      obtain ⟨x6, gx6, h⟩ := o_bind h
      rcases oi h with ⟨c7, h⟩ | ⟨c7, h⟩
      · skip
        cases h
        exact fr_refl _ _
      · skip
        exact fbX3_arrive_32_66 u h
theorem frX3_arrive_32 (u : Mem) {u' : Mem} (h : FX3_arrive_32 u = some u') : FrL [23] u u' := by
  unfold FX3_arrive_32 at h
  obtain ⟨x1, gx1, h⟩ := o_bind h
  obtain ⟨x2, gx2, h⟩ := o_bind h
  obtain ⟨x3, gx3, h⟩ := o_bind h
  obtain ⟨x4, gx4, h⟩ := o_bind h
  rcases io h with ⟨c5, h⟩ | ⟨c5, h⟩
  · skip
    exact fbX3_arrive_32_39 x1 x2 0 u h
  · skip
    obtain ⟨x6, gx6, h⟩ := o_bind h
    obtain ⟨x7, gx7, h⟩ := o_bind h
    rcases oi h with ⟨c8, h⟩ | ⟨c8, h⟩
    · skip
      exact fbX3_arrive_32_39 x1 x2 0 u h
    · skip
      exact fbX3_arrive_32_39 x1 x2 1 u h
theorem fbX3_tellOn_32_115 {u' : Mem} {k2 : Int32 → Mem → Option Mem} (hk2 : ∀ (l1 : Int32) (u : Mem), k2 l1 u = some u' → FrL [25] u u') (l1 : Int32) (u : Mem) (h : FX3_tellOn_32_b115 k2 l1 u = some u') : FrL [25] u u' := by
  unfold FX3_tellOn_32_b115 at h
  exact hk2 (l1 + 1) u h
theorem fbX3_tellOn_32_109 {u' : Mem} {k21 : Int32 → Int32 → Mem → Option Mem} (hk21 : ∀ (l1 l2 : Int32) (u : Mem), k21 l1 l2 u = some u' → FrL [25] u u') (l1 l2 : Int32) (u : Mem) (h : FX3_tellOn_32_b109 k21 l1 l2 u = some u') : FrL [25] u u' := by
  unfold FX3_tellOn_32_b109 at h
  exact hk21 l1 (l2 + 1) u h
theorem fbX3_tellOn_32_67 {u' : Mem} {k21 : Int32 → Int32 → Mem → Option Mem} (hk21 : ∀ (l1 l2 : Int32) (u : Mem), k21 l1 l2 u = some u' → FrL [25] u u') (l1 l2 t0 : Int32) (u : Mem) (h : FX3_tellOn_32_b67 k21 l1 l2 t0 u = some u') : FrL [25] u u' := by
  unfold FX3_tellOn_32_b67 at h
  rcases io h with ⟨c1, h⟩ | ⟨c1, h⟩
  · skip
    exact fbX3_tellOn_32_109 hk21 l1 l2 u h
  · skip
    obtain ⟨x2, gx2, h⟩ := o_bind h
    obtain ⟨x3, gx3, h⟩ := o_bind h
    rcases io h with ⟨c4, h⟩ | ⟨c4, h⟩
    · skip
      exact fbX3_tellOn_32_109 hk21 l1 l2 u h
    · skip
      obtain ⟨x5, gx5, h⟩ := o_bind h
      obtain ⟨x6, gx6, h⟩ := o_bind h
      obtain ⟨u7, gu7, h⟩ := o_bind h
      refine ft (fr_wr rfl gu7) ?_
      exact fbX3_tellOn_32_109 hk21 l1 l2 u7 h
theorem fbX3_tellOn_32_21 {u' : Mem} {k2 : Int32 → Mem → Option Mem} (hk2 : ∀ (l1 : Int32) (u : Mem), k2 l1 u = some u' → FrL [25] u u') {k21 : Int32 → Int32 → Mem → Option Mem} (hk21 : ∀ (l1 l2 : Int32) (u : Mem), k21 l1 l2 u = some u' → FrL [25] u u') (l1 l2 : Int32) (u : Mem) (h : FX3_tellOn_32_b21 k2 k21 l1 l2 u = some u') : FrL [25] u u' := by
  unfold FX3_tellOn_32_b21 at h
  rcases io h with ⟨c1, h⟩ | ⟨c1, h⟩
  · skip
    exact fbX3_tellOn_32_115 hk2 l1 u h
  · skip
    rcases io h with ⟨c2, h⟩ | ⟨c2, h⟩
    · skip
      exact fbX3_tellOn_32_115 hk2 l1 u h
    · skip
      obtain ⟨x3, gx3, h⟩ := o_bind h
      rcases oi h with ⟨c4, h⟩ | ⟨c4, h⟩
      · skip
        exact fbX3_tellOn_32_67 hk21 l1 l2 0 u h
      · skip
        obtain ⟨x5, gx5, h⟩ := o_bind h
        rcases oi h with ⟨c6, h⟩ | ⟨c6, h⟩
        · skip
          exact fbX3_tellOn_32_67 hk21 l1 l2 0 u h
        · skip
          exact fbX3_tellOn_32_67 hk21 l1 l2 1 u h
theorem flX3_tellOn_32_21 {u' : Mem} {k2 : Int32 → Mem → Option Mem} (hk2 : ∀ (l1 : Int32) (u : Mem), k2 l1 u = some u' → FrL [25] u u') : ∀ (n : Nat) (l1 l2 : Int32) (u : Mem), FX3_tellOn_32_L21 k2 n l1 l2 u = some u' → FrL [25] u u' := by
  intro n
  induction n with
  | zero =>
    intro l1 l2 u h
    exact nn_ h
  | succ n ih =>
    intro l1 l2 u h
    exact fbX3_tellOn_32_21 hk2 ih l1 l2 u h
theorem fbX3_tellOn_32_2 {u' : Mem} {k2 : Int32 → Mem → Option Mem} (hk2 : ∀ (l1 : Int32) (u : Mem), k2 l1 u = some u' → FrL [25] u u') (l1 : Int32) (u : Mem) (h : FX3_tellOn_32_b2 k2 l1 u = some u') : FrL [25] u u' := by
  unfold FX3_tellOn_32_b2 at h
  rcases io h with ⟨c1, h⟩ | ⟨c1, h⟩
  · skip
    cases h
    exact fr_refl _ _
  · skip
    rcases io h with ⟨c2, h⟩ | ⟨c2, h⟩
    · skip
      cases h
      exact fr_refl _ _
    · skip
      exact flX3_tellOn_32_21 hk2 FU l1 0 u h
theorem flX3_tellOn_32_2 {u' : Mem} : ∀ (n : Nat) (l1 : Int32) (u : Mem), FX3_tellOn_32_L2 n l1 u = some u' → FrL [25] u u' := by
  intro n
  induction n with
  | zero =>
    intro l1 u h
    exact nn_ h
  | succ n ih =>
    intro l1 u h
    exact fbX3_tellOn_32_2 ih l1 u h
theorem frX3_tellOn_32 (u : Mem) {u' : Mem} (h : FX3_tellOn_32 u = some u') : FrL [25] u u' := by
  unfold FX3_tellOn_32 at h
  exact flX3_tellOn_32_2 FU 0 u h
theorem frX0_draw_23 (p1 : Int32) (u : Mem) {v : Int32} {u' : Mem} (h : FX0_draw_23 p1 u = some (v, u')) : FrL [23] u u' := by
  unfold FX0_draw_23 at h
  obtain ⟨u1, gu1, h⟩ := o_bind h
  refine ft (fr_upd rfl gu1) ?_
  rcases io h with ⟨c2, h⟩ | ⟨c2, h⟩
  · skip
    cases h
    exact fr_refl _ _
  · skip
    obtain ⟨x3, gx3, h⟩ := o_bind h
    cases h
    exact fr_refl _ _
theorem fbX3_fade_32_87 {u' : Mem} {k2 : Int32 → Mem → Option Mem} (hk2 : ∀ (l1 : Int32) (u : Mem), k2 l1 u = some u' → FrL [14, 23, 25, 31, 33] u u') (l1 : Int32) (u : Mem) (h : FX3_fade_32_b87 k2 l1 u = some u') : FrL [14, 23, 25, 31, 33] u u' := by
  unfold FX3_fade_32_b87 at h
  exact hk2 (l1 + 1) u h
theorem fbX3_fade_32_2 {u' : Mem} {k2 : Int32 → Mem → Option Mem} (hk2 : ∀ (l1 : Int32) (u : Mem), k2 l1 u = some u' → FrL [14, 23, 25, 31, 33] u u') (l1 : Int32) (u : Mem) (h : FX3_fade_32_b2 k2 l1 u = some u') : FrL [14, 23, 25, 31, 33] u u' := by
  unfold FX3_fade_32_b2 at h
  rcases io h with ⟨c1, h⟩ | ⟨c1, h⟩
  · skip
    cases h
    exact fr_refl _ _
  · skip
    rcases io h with ⟨c2, h⟩ | ⟨c2, h⟩
    · skip
      cases h
      exact fr_refl _ _
    · skip
      obtain ⟨x3, gx3, h⟩ := o_bind h
      rcases io h with ⟨c4, h⟩ | ⟨c4, h⟩
      · skip
        exact fbX3_fade_32_87 hk2 l1 u h
      · skip
        obtain ⟨x5, u6, gx5, h⟩ := o_bnd2 h
        refine ft (fr_mono rfl (frX0_draw_23 1000 u gx5)) ?_
        obtain ⟨x7, u8, gx7, h⟩ := o_bnd2 h
        refine ft (fr_mono rfl (frX3_asked_32 l1 3 u6 gx7)) ?_
        rcases io h with ⟨c9, h⟩ | ⟨c9, h⟩
        · skip
          exact fbX3_fade_32_87 hk2 l1 u8 h
        · skip
          obtain ⟨x10, gx10, h⟩ := o_bind h
          obtain ⟨x11, gx11, h⟩ := o_bind h
          obtain ⟨x12, gx12, h⟩ := o_bind h
          obtain ⟨u13, gu13, h⟩ := o_bind h
          refine ft (fr_wr rfl gu13) ?_
          obtain ⟨u15, gu15, h⟩ := o_bind h
          refine ft (fr_mono rfl (frX3_note_32 3 l1 x11 u13 gu15)) ?_
          exact fbX3_fade_32_87 hk2 l1 u15 h
theorem flX3_fade_32_2 {u' : Mem} : ∀ (n : Nat) (l1 : Int32) (u : Mem), FX3_fade_32_L2 n l1 u = some u' → FrL [14, 23, 25, 31, 33] u u' := by
  intro n
  induction n with
  | zero =>
    intro l1 u h
    exact nn_ h
  | succ n ih =>
    intro l1 u h
    exact fbX3_fade_32_2 ih l1 u h
theorem frX3_fade_32 (u : Mem) {u' : Mem} (h : FX3_fade_32 u = some u') : FrL [14, 23, 25, 31, 33] u u' := by
  unfold FX3_fade_32 at h
  exact flX3_fade_32_2 FU 0 u h
theorem fbJ7_fill_53178_27_5 {u' : Mem} {k5 : Int32 → Int32 → Int32 → Mem → Option Mem} (hk5 : ∀ (l1 l2 l3 : Int32) (u : Mem), k5 l1 l2 l3 u = some u' → FrL [27] u u') (l1 l2 l3 : Int32) (u : Mem) (h : FJ7_fill_53178_27_b5 k5 l1 l2 l3 u = some u') : FrL [27] u u' := by
  unfold FJ7_fill_53178_27_b5 at h
  rcases io h with ⟨c1, h⟩ | ⟨c1, h⟩
  · skip
    cases h
    exact fr_refl _ _
  · skip
    obtain ⟨u2, gu2, h⟩ := o_bind h
    refine ft (fr_wr rfl gu2) ?_
    exact hk5 l1 (l2 + 1) l3 u2 h
theorem flJ7_fill_53178_27_5 {u' : Mem} : ∀ (n : Nat) (l1 l2 l3 : Int32) (u : Mem), FJ7_fill_53178_27_L5 n l1 l2 l3 u = some u' → FrL [27] u u' := by
  intro n
  induction n with
  | zero =>
    intro l1 l2 l3 u h
    exact nn_ h
  | succ n ih =>
    intro l1 l2 l3 u h
    exact fbJ7_fill_53178_27_5 ih l1 l2 l3 u h
theorem frJ7_fill_53178_27 (p1 : Int32) (u : Mem) {u' : Mem} (h : FJ7_fill_53178_27 p1 u = some u') : FrL [27] u u' := by
  unfold FJ7_fill_53178_27 at h
  exact flJ7_fill_53178_27_5 FU p1 0 12 u h
theorem fbX3_endDay_32_134 {u' : Mem} (u : Mem) (h : FX3_endDay_32_b134 u = some u') : FrL [23, 27, 31] u u' := by
  unfold FX3_endDay_32_b134 at h
  rcases oi h with ⟨c1, h⟩ | ⟨c1, h⟩
  · skip
    cases h
    exact fr_refl _ _
  · skip
    obtain ⟨u3, gu3, h⟩ := o_bind h
    refine ft (fr_mono rfl (frJ7_fill_53178_27 0 u gu3)) ?_
    obtain ⟨u5, gu5, h⟩ := o_bind h
    refine ft (fr_mono rfl (frX3_note_32 4 (-1) 0 u3 gu5)) ?_
    cases h
    exact fr_refl _ _
theorem fbX3_endDay_32_128 {u' : Mem} {k54 : Int32 → Mem → Option Mem} (hk54 : ∀ (l1 : Int32) (u : Mem), k54 l1 u = some u' → FrL [23, 27, 31] u u') (l1 : Int32) (u : Mem) (h : FX3_endDay_32_b128 k54 l1 u = some u') : FrL [23, 27, 31] u u' := by
  unfold FX3_endDay_32_b128 at h
  exact hk54 (l1 + 1) u h
theorem fbX3_endDay_32_54 {u' : Mem} {k54 : Int32 → Mem → Option Mem} (hk54 : ∀ (l1 : Int32) (u : Mem), k54 l1 u = some u' → FrL [23, 27, 31] u u') (l1 : Int32) (u : Mem) (h : FX3_endDay_32_b54 k54 l1 u = some u') : FrL [23, 27, 31] u u' := by
  unfold FX3_endDay_32_b54 at h
  rcases io h with ⟨c1, h⟩ | ⟨c1, h⟩
  · skip
    exact fbX3_endDay_32_134 u h
  · skip
    rcases io h with ⟨c2, h⟩ | ⟨c2, h⟩
    · skip
      exact fbX3_endDay_32_134 u h
    · skip
      obtain ⟨x3, gx3, h⟩ := o_bind h
      rcases oi h with ⟨c4, h⟩ | ⟨c4, h⟩
      · skip
        exact fbX3_endDay_32_128 hk54 l1 u h
      · skip
        obtain ⟨x5, gx5, h⟩ := o_bind h
        rcases io h with ⟨c6, h⟩ | ⟨c6, h⟩
        · skip
          exact fbX3_endDay_32_128 hk54 l1 u h
        · skip
          obtain ⟨u7, gu7, h⟩ := o_bind h
          refine ft (fr_wr rfl gu7) ?_
          obtain ⟨u9, gu9, h⟩ := o_bind h
          refine ft (fr_mono rfl (frX3_note_32 5 l1 0 u7 gu9)) ?_
          exact fbX3_endDay_32_128 hk54 l1 u9 h
theorem flX3_endDay_32_54 {u' : Mem} : ∀ (n : Nat) (l1 : Int32) (u : Mem), FX3_endDay_32_L54 n l1 u = some u' → FrL [23, 27, 31] u u' := by
  intro n
  induction n with
  | zero =>
    intro l1 u h
    exact nn_ h
  | succ n ih =>
    intro l1 u h
    exact fbX3_endDay_32_54 ih l1 u h
theorem fbX3_endDay_32_52 {u' : Mem} (u : Mem) (h : FX3_endDay_32_b52 u = some u') : FrL [23, 27, 31] u u' := by
  unfold FX3_endDay_32_b52 at h
  exact flX3_endDay_32_54 FU 0 u h
theorem fbX3_endDay_32_44 {u' : Mem} (u : Mem) (h : FX3_endDay_32_b44 u = some u') : FrL [23, 27, 31] u u' := by
  unfold FX3_endDay_32_b44 at h
  obtain ⟨u1, gu1, h⟩ := o_bind h
  refine ft (fr_upd rfl gu1) ?_
  exact fbX3_endDay_32_52 u1 h
theorem frX3_endDay_32 (u : Mem) {u' : Mem} (h : FX3_endDay_32 u = some u') : FrL [23, 27, 31] u u' := by
  unfold FX3_endDay_32 at h
  obtain ⟨x1, gx1, h⟩ := o_bind h
  obtain ⟨x2, gx2, h⟩ := o_bind h
  rcases io h with ⟨c3, h⟩ | ⟨c3, h⟩
  · skip
    exact fbX3_endDay_32_44 u h
  · skip
    obtain ⟨x4, gx4, h⟩ := o_bind h
    obtain ⟨x5, gx5, h⟩ := o_bind h
    rcases io h with ⟨c6, h⟩ | ⟨c6, h⟩
    · skip
      exact fbX3_endDay_32_52 u h
    · skip
      exact fbX3_endDay_32_44 u h
theorem fbX3_pass_32_79 {u' : Mem} (u : Mem) (h : FX3_pass_32_b79 u = some u') : FrL [14, 23, 24, 25, 27, 28, 29, 31, 32, 33] u u' := by
  unfold FX3_pass_32_b79 at h
  obtain ⟨u1, gu1, h⟩ := o_bind h
  refine ft (fr_upd rfl gu1) ?_
  cases h
  exact fr_refl _ _
theorem fbX3_pass_32_71 {u' : Mem} (l1 : Int32) (u : Mem) (h : FX3_pass_32_b71 l1 u = some u') : FrL [14, 23, 24, 25, 27, 28, 29, 31, 32, 33] u u' := by
  unfold FX3_pass_32_b71 at h
  rcases io h with ⟨c1, h⟩ | ⟨c1, h⟩
  · skip
    exact fbX3_pass_32_79 u h
  · skip
    obtain ⟨u3, gu3, h⟩ := o_bind h
    refine ft (fr_mono rfl (frX3_endDay_32 u gu3)) ?_
    exact fbX3_pass_32_79 u3 h
theorem fbX3_pass_32_60 {u' : Mem} (l1 : Int32) (u : Mem) (h : FX3_pass_32_b60 l1 u = some u') : FrL [14, 23, 24, 25, 27, 28, 29, 31, 32, 33] u u' := by
  unfold FX3_pass_32_b60 at h
  rcases io h with ⟨c1, h⟩ | ⟨c1, h⟩
  · skip
    exact fbX3_pass_32_71 l1 u h
  · skip
    obtain ⟨u3, gu3, h⟩ := o_bind h
    refine ft (fr_mono rfl (frX3_fade_32 u gu3)) ?_
    exact fbX3_pass_32_71 l1 u3 h
theorem fbX3_pass_32_43 {u' : Mem} (l1 : Int32) (u : Mem) (h : FX3_pass_32_b43 l1 u = some u') : FrL [14, 23, 24, 25, 27, 28, 29, 31, 32, 33] u u' := by
  unfold FX3_pass_32_b43 at h
  obtain ⟨x1, gx1, h⟩ := o_bind h
  rcases oi h with ⟨c2, h⟩ | ⟨c2, h⟩
  · skip
    exact fbX3_pass_32_60 l1 u h
  · skip
    obtain ⟨u4, gu4, h⟩ := o_bind h
    refine ft (fr_mono rfl (frX3_tellOn_32 u gu4)) ?_
    exact fbX3_pass_32_60 l1 u4 h
theorem fbX3_pass_32_16 {u' : Mem} (t0 : Int32) (u : Mem) (h : FX3_pass_32_b16 t0 u = some u') : FrL [14, 23, 24, 25, 27, 28, 29, 31, 32, 33] u u' := by
  unfold FX3_pass_32_b16 at h
  rcases io h with ⟨c1, h⟩ | ⟨c1, h⟩
  · skip
    exact fbX3_pass_32_43 t0 u h
  · skip
    obtain ⟨u3, gu3, h⟩ := o_bind h
    refine ft (fr_mono rfl (frX3_callUp_32 0 u gu3)) ?_
    obtain ⟨u5, gu5, h⟩ := o_bind h
    refine ft (fr_mono rfl (frX3_callUp_32 1 u3 gu5)) ?_
    obtain ⟨u7, gu7, h⟩ := o_bind h
    refine ft (fr_mono rfl (frX3_goOn_32 u5 gu7)) ?_
    obtain ⟨u9, gu9, h⟩ := o_bind h
    refine ft (fr_mono rfl (frX3_fight_32 u7 gu9)) ?_
    obtain ⟨u11, gu11, h⟩ := o_bind h
    refine ft (fr_mono rfl (frX3_arrive_32 u9 gu11)) ?_
    exact fbX3_pass_32_43 t0 u11 h
theorem frX3_pass_32 (u : Mem) {u' : Mem} (h : FX3_pass_32 u = some u') : FrL [14, 23, 24, 25, 27, 28, 29, 31, 32, 33] u u' := by
  unfold FX3_pass_32 at h
  rcases oi h with ⟨c1, h⟩ | ⟨c1, h⟩
  · skip
    exact fbX3_pass_32_16 0 u h
  · skip
    exact fbX3_pass_32_16 1 u h
theorem fbX11_days_0_32 {v : Int32} {u' : Mem} {k32 : Int32 → Int32 → Int32 → Mem → Option (Int32 × Mem)} (hk32 : ∀ (l1 l2 l3 : Int32) (u : Mem), k32 l1 l2 l3 u = some (v, u') → FrL [14, 23, 24, 25, 27, 28, 29, 31, 32, 33, 52, 54, 55, 56, 57, 58, 59, 60, 61, 62, 63, 64, 65, 66, 67, 68, 69, 70, 71, 72, 73, 74, 75, 76, 77, 78, 79, 80, 81, 82, 83, 84, 85, 86, 87, 88, 89, 90, 91, 92, 93, 94, 95] u u') (l1 l2 l3 : Int32) (u : Mem) (h : FX11_days_0_b32 k32 l1 l2 l3 u = some (v, u')) : FrL [14, 23, 24, 25, 27, 28, 29, 31, 32, 33, 52, 54, 55, 56, 57, 58, 59, 60, 61, 62, 63, 64, 65, 66, 67, 68, 69, 70, 71, 72, 73, 74, 75, 76, 77, 78, 79, 80, 81, 82, 83, 84, 85, 86, 87, 88, 89, 90, 91, 92, 93, 94, 95] u u' := by
  unfold FX11_days_0_b32 at h
  rcases io h with ⟨c1, h⟩ | ⟨c1, h⟩
  · skip
    cases h
    exact fr_refl _ _
  · skip
    obtain ⟨u3, gu3, h⟩ := o_bind h
    refine ft (fr_mono rfl (frX10_remember_52_23 u gu3)) ?_
    obtain ⟨u5, gu5, h⟩ := o_bind h
    refine ft (fr_mono rfl (frX3_pass_32 u3 gu5)) ?_
    exact hk32 l1 (l2 + (u3 23 6)) (l3 + 1) u5 h
theorem flX11_days_0_32 {v : Int32} {u' : Mem} : ∀ (n : Nat) (l1 l2 l3 : Int32) (u : Mem), FX11_days_0_L32 n l1 l2 l3 u = some (v, u') → FrL [14, 23, 24, 25, 27, 28, 29, 31, 32, 33, 52, 54, 55, 56, 57, 58, 59, 60, 61, 62, 63, 64, 65, 66, 67, 68, 69, 70, 71, 72, 73, 74, 75, 76, 77, 78, 79, 80, 81, 82, 83, 84, 85, 86, 87, 88, 89, 90, 91, 92, 93, 94, 95] u u' := by
  intro n
  induction n with
  | zero =>
    intro l1 l2 l3 u h
    exact nn_ h
  | succ n ih =>
    intro l1 l2 l3 u h
    exact fbX11_days_0_32 ih l1 l2 l3 u h
theorem frX11_days_0 (p1 : Int32) (u : Mem) {v : Int32} {u' : Mem} (h : FX11_days_0 p1 u = some (v, u')) : FrL [14, 23, 24, 25, 27, 28, 29, 31, 32, 33, 52, 54, 55, 56, 57, 58, 59, 60, 61, 62, 63, 64, 65, 66, 67, 68, 69, 70, 71, 72, 73, 74, 75, 76, 77, 78, 79, 80, 81, 82, 83, 84, 85, 86, 87, 88, 89, 90, 91, 92, 93, 94, 95] u u' := by
  unfold FX11_days_0 at h
  rcases io h with ⟨c1, h⟩ | ⟨c1, h⟩
  · skip
    cases h
    exact fr_refl _ _
  · skip
    rcases io h with ⟨c2, h⟩ | ⟨c2, h⟩
    · skip
      cases h
      exact fr_refl _ _
    · skip
      rcases io h with ⟨c3, h⟩ | ⟨c3, h⟩
      · skip
        exact flX11_days_0_32 FU p1 0 0 u h
      · skip
        cases h
        exact fr_refl _ _
theorem frX12_takesField_146 (p1 : Int32) (u : Mem) {u' : Mem} (h : FX12_takesField_146 p1 u = some u') : FrL [147] u u' := by
  unfold FX12_takesField_146 at h
  obtain ⟨u1, gu1, h⟩ := o_bind h
  refine ft (fr_wr rfl gu1) ?_
  obtain ⟨x2, gx2, h⟩ := o_bind h
  obtain ⟨x3, gx3, h⟩ := o_bind h
  obtain ⟨u4, gu4, h⟩ := o_bind h
  refine ft (fr_wr rfl gu4) ?_
  cases h
  exact fr_refl _ _
theorem frX12_notes_146 (p1 p2 p3 : Int32) (u : Mem) {u' : Mem} (h : FX12_notes_146 p1 p2 p3 u = some u') : FrL [147] u u' := by
  unfold FX12_notes_146 at h
  rcases io h with ⟨c1, h⟩ | ⟨c1, h⟩
  · skip
    cases h
    exact fr_refl _ _
  · skip
    rcases oi h with ⟨c2, h⟩ | ⟨c2, h⟩
    · skip
      obtain ⟨u3, gu3, h⟩ := o_bind h
      refine ft (fr_wr rfl gu3) ?_
      obtain ⟨u4, gu4, h⟩ := o_bind h
      refine ft (fr_wr rfl gu4) ?_
      obtain ⟨u5, gu5, h⟩ := o_bind h
      refine ft (fr_wr rfl gu5) ?_
      obtain ⟨u6, gu6, h⟩ := o_bind h
      refine ft (fr_wr rfl gu6) ?_
      obtain ⟨u7, gu7, h⟩ := o_bind h
      refine ft (fr_upd rfl gu7) ?_
      cases h
      exact fr_refl _ _
    · skip
      cases h
      exact fr_refl _ _
theorem fbX12_comesTo_146_180 {v : Int32} {u' : Mem} {k6 : Int32 → Int32 → Int32 → Int32 → Mem → Option (Int32 × Mem)} (hk6 : ∀ (l1 l3 l4 l5 : Int32) (u : Mem), k6 l1 l3 l4 l5 u = some (v, u') → FrL [155] u u') (l1 l3 l4 l5 : Int32) (u : Mem) (h : FX12_comesTo_146_b180 k6 l1 l3 l4 l5 u = some (v, u')) : FrL [155] u u' := by
  unfold FX12_comesTo_146_b180 at h
  exact hk6 l1 l3 l4 (l5 + 1) u h
theorem fbX12_comesTo_146_86 {v : Int32} {u' : Mem} {k6 : Int32 → Int32 → Int32 → Int32 → Mem → Option (Int32 × Mem)} (hk6 : ∀ (l1 l3 l4 l5 : Int32) (u : Mem), k6 l1 l3 l4 l5 u = some (v, u') → FrL [155] u u') (l1 l3 l4 l5 t1 t2 : Int32) (u : Mem) (h : FX12_comesTo_146_b86 k6 l1 l3 l4 l5 t1 t2 u = some (v, u')) : FrL [155] u u' := by
  unfold FX12_comesTo_146_b86 at h
  obtain ⟨u1, gu1, h⟩ := o_bind h
  refine ft (fr_wr rfl gu1) ?_
  exact fbX12_comesTo_146_180 hk6 l1 l3 (l4 + 1) l5 u1 h
theorem fbX12_comesTo_146_6 {v : Int32} {u' : Mem} {k6 : Int32 → Int32 → Int32 → Int32 → Mem → Option (Int32 × Mem)} (hk6 : ∀ (l1 l3 l4 l5 : Int32) (u : Mem), k6 l1 l3 l4 l5 u = some (v, u') → FrL [155] u u') (l1 l3 l4 l5 : Int32) (u : Mem) (h : FX12_comesTo_146_b6 k6 l1 l3 l4 l5 u = some (v, u')) : FrL [155] u u' := by
  unfold FX12_comesTo_146_b6 at h
  rcases io h with ⟨c1, h⟩ | ⟨c1, h⟩
  · skip
    cases h
    exact fr_refl _ _
  · skip
    obtain ⟨x2, gx2, h⟩ := o_bind h
    obtain ⟨x3, gx3, h⟩ := o_bind h
    rcases io h with ⟨c4, h⟩ | ⟨c4, h⟩
    · skip
      rcases oi h with ⟨c5, h⟩ | ⟨c5, h⟩
      · skip
        rcases oi h with ⟨c6, h⟩ | ⟨c6, h⟩
        · skip
          obtain ⟨x7, gx7, h⟩ := o_bind h
          obtain ⟨x8, gx8, h⟩ := o_bind h
          obtain ⟨x9, gx9, h⟩ := o_bind h
          obtain ⟨u10, gu10, h⟩ := o_bind h
          refine ft (fr_wr rfl gu10) ?_
          exact fbX12_comesTo_146_180 hk6 l1 l3 (l4 + (-1)) l5 u10 h
        · skip
          obtain ⟨x11, gx11, h⟩ := o_bind h
          obtain ⟨u12, gu12, h⟩ := o_bind h
          refine ft (fr_wr rfl gu12) ?_
          exact fbX12_comesTo_146_180 hk6 l1 l3 l4 l5 u12 h
      · skip
        obtain ⟨x13, gx13, h⟩ := o_bind h
        obtain ⟨x14, gx14, h⟩ := o_bind h
        obtain ⟨u15, gu15, h⟩ := o_bind h
        refine ft (fr_wr rfl gu15) ?_
        exact fbX12_comesTo_146_180 hk6 l1 l3 l4 l5 u15 h
    · skip
      rcases oi h with ⟨c16, h⟩ | ⟨c16, h⟩
      · skip
        obtain ⟨x17, gx17, h⟩ := o_bind h
        exact fbX12_comesTo_146_86 hk6 l1 l3 l4 l5 l4 x17 u h
      · skip
        exact fbX12_comesTo_146_86 hk6 l1 l3 l4 l5 l4 x3 u h
theorem flX12_comesTo_146_6 {v : Int32} {u' : Mem} : ∀ (n : Nat) (l1 l3 l4 l5 : Int32) (u : Mem), FX12_comesTo_146_L6 n l1 l3 l4 l5 u = some (v, u') → FrL [155] u u' := by
  intro n
  induction n with
  | zero =>
    intro l1 l3 l4 l5 u h
    exact nn_ h
  | succ n ih =>
    intro l1 l3 l4 l5 u h
    exact fbX12_comesTo_146_6 ih l1 l3 l4 l5 u h
theorem frX12_comesTo_146 (p1 p2 p3 : Int32) (u : Mem) {v : Int32} {u' : Mem} (h : FX12_comesTo_146 p1 p2 p3 u = some (v, u')) : FrL [155] u u' := by
  unfold FX12_comesTo_146 at h
  exact flX12_comesTo_146_6 FU p1 p3 0 p2 u h
theorem frX12_isSo_146 (p1 : Int32) (u : Mem) {v : Int32} {u' : Mem} (h : FX12_isSo_146 p1 u = some (v, u')) : FrL [155] u u' := by
  unfold FX12_isSo_146 at h
  obtain ⟨x1, gx1, h⟩ := o_bind h
  obtain ⟨x2, gx2, h⟩ := o_bind h
  rcases io h with ⟨c3, h⟩ | ⟨c3, h⟩
  · skip
    cases h
    exact fr_refl _ _
  · skip
    obtain ⟨x4, gx4, h⟩ := o_bind h
    obtain ⟨x5, gx5, h⟩ := o_bind h
    obtain ⟨x6, u7, gx6, h⟩ := o_bnd2 h
    refine ft (fr_mono rfl (frX12_comesTo_146 0 x4 x5 u gx6)) ?_
    rcases oi h with ⟨c8, h⟩ | ⟨c8, h⟩
    · skip
      cases h
      exact fr_refl _ _
    · skip
      cases h
      exact fr_refl _ _
theorem fbX12_says_146_258 {v : Int32} {u' : Mem} {k185 : Int32 → Int32 → Int32 → Int32 → Mem → Option (Int32 × Mem)} (hk185 : ∀ (l1 l3 l4 l6 : Int32) (u : Mem), k185 l1 l3 l4 l6 u = some (v, u') → FrL [155, 156] u u') (l1 l3 l4 l6 : Int32) (u : Mem) (h : FX12_says_146_b258 k185 l1 l3 l4 l6 u = some (v, u')) : FrL [155, 156] u u' := by
  unfold FX12_says_146_b258 at h
  exact hk185 l1 l3 l4 (l6 + 1) u h
theorem fbX12_says_146_185 {v : Int32} {u' : Mem} {k185 : Int32 → Int32 → Int32 → Int32 → Mem → Option (Int32 × Mem)} (hk185 : ∀ (l1 l3 l4 l6 : Int32) (u : Mem), k185 l1 l3 l4 l6 u = some (v, u') → FrL [155, 156] u u') (l1 l3 l4 l6 : Int32) (u : Mem) (h : FX12_says_146_b185 k185 l1 l3 l4 l6 u = some (v, u')) : FrL [155, 156] u u' := by
  unfold FX12_says_146_b185 at h
  rcases io h with ⟨c1, h⟩ | ⟨c1, h⟩
  · skip
    obtain ⟨x2, gx2, h⟩ := o_bind h
    obtain ⟨x3, gx3, h⟩ := o_bind h
    cases h
    exact fr_refl _ _
  · skip
    obtain ⟨x4, gx4, h⟩ := o_bind h
    rcases oi h with ⟨c5, h⟩ | ⟨c5, h⟩
    · skip
      exact fbX12_says_146_258 hk185 l1 l3 l4 l6 u h
    · skip
      obtain ⟨x6, u7, gx6, h⟩ := o_bnd2 h
      refine ft (fr_mono rfl (frX12_isSo_146 l6 u gx6)) ?_
      rcases io h with ⟨c8, h⟩ | ⟨c8, h⟩
      · skip
        exact fbX12_says_146_258 hk185 l1 l3 l4 l6 u7 h
      · skip
        obtain ⟨x9, gx9, h⟩ := o_bind h
        obtain ⟨x10, gx10, h⟩ := o_bind h
        obtain ⟨x11, u12, gx11, h⟩ := o_bnd2 h
        refine ft (fr_mono rfl (frX12_comesTo_146 0 x9 x10 u7 gx11)) ?_
        obtain ⟨x13, gx13, h⟩ := o_bind h
        obtain ⟨x14, gx14, h⟩ := o_bind h
        cases h
        exact fr_refl _ _
theorem flX12_says_146_185 {v : Int32} {u' : Mem} : ∀ (n : Nat) (l1 l3 l4 l6 : Int32) (u : Mem), FX12_says_146_L185 n l1 l3 l4 l6 u = some (v, u') → FrL [155, 156] u u' := by
  intro n
  induction n with
  | zero =>
    intro l1 l3 l4 l6 u h
    exact nn_ h
  | succ n ih =>
    intro l1 l3 l4 l6 u h
    exact fbX12_says_146_185 ih l1 l3 l4 l6 u h
theorem fbX12_says_146_181 {v : Int32} {u' : Mem} (l1 l3 l4 t1 t2 : Int32) (u : Mem) (h : FX12_says_146_b181 l1 l3 l4 t1 t2 u = some (v, u')) : FrL [155, 156] u u' := by
  unfold FX12_says_146_b181 at h
  obtain ⟨u1, gu1, h⟩ := o_bind h
  refine ft (fr_wr rfl gu1) ?_
  exact flX12_says_146_185 FU l1 l3 l4 0 u1 h
theorem fbX12_says_146_121 {v : Int32} {u' : Mem} (l1 l2 l3 l4 l5 t1 t2 : Int32) (u : Mem) (h : FX12_says_146_b121 l1 l2 l3 l4 l5 t1 t2 u = some (v, u')) : FrL [155, 156] u u' := by
  unfold FX12_says_146_b121 at h
  obtain ⟨u1, gu1, h⟩ := o_bind h
  refine ft (fr_wr rfl gu1) ?_
  obtain ⟨u2, gu2, h⟩ := o_bind h
  refine ft (fr_upd rfl gu2) ?_
  obtain ⟨u3, gu3, h⟩ := o_bind h
  refine ft (fr_upd rfl gu3) ?_
  rcases io h with ⟨c4, h⟩ | ⟨c4, h⟩
  · skip
    exact fbX12_says_146_181 l1 l3 l4 9 0 u3 h
  · skip
    obtain ⟨x5, gx5, h⟩ := o_bind h
    obtain ⟨x6, gx6, h⟩ := o_bind h
    exact fbX12_says_146_181 l1 l3 l4 9 x6 u3 h
theorem fbX12_says_146_18 {v : Int32} {u' : Mem} (l1 l2 l3 l4 t0 : Int32) (u : Mem) (h : FX12_says_146_b18 l1 l2 l3 l4 t0 u = some (v, u')) : FrL [155, 156] u u' := by
  unfold FX12_says_146_b18 at h
  obtain ⟨x1, gx1, h⟩ := o_bind h
  obtain ⟨u2, gu2, h⟩ := o_bind h
  refine ft (fr_upd rfl gu2) ?_
  obtain ⟨x3, gx3, h⟩ := o_bind h
  obtain ⟨u4, gu4, h⟩ := o_bind h
  refine ft (fr_upd rfl gu4) ?_
  obtain ⟨x5, gx5, h⟩ := o_bind h
  obtain ⟨u6, gu6, h⟩ := o_bind h
  refine ft (fr_upd rfl gu6) ?_
  obtain ⟨x7, gx7, h⟩ := o_bind h
  obtain ⟨u8, gu8, h⟩ := o_bind h
  refine ft (fr_upd rfl gu8) ?_
  obtain ⟨x9, gx9, h⟩ := o_bind h
  obtain ⟨x10, gx10, h⟩ := o_bind h
  obtain ⟨u11, gu11, h⟩ := o_bind h
  refine ft (fr_upd rfl gu11) ?_
  rcases io h with ⟨c12, h⟩ | ⟨c12, h⟩
  · skip
    exact fbX12_says_146_121 l1 l2 l3 l4 t0 6 0 u11 h
  · skip
    obtain ⟨x13, gx13, h⟩ := o_bind h
    exact fbX12_says_146_121 l1 l2 l3 l4 t0 6 x13 u11 h
theorem frX12_says_146 (p1 p2 p3 p4 : Int32) (u : Mem) {v : Int32} {u' : Mem} (h : FX12_says_146 p1 p2 p3 p4 u = some (v, u')) : FrL [155, 156] u u' := by
  unfold FX12_says_146 at h
  obtain ⟨x1, gx1, h⟩ := o_bind h
  rcases oi h with ⟨c2, h⟩ | ⟨c2, h⟩
  · skip
    exact fbX12_says_146_18 p1 p2 p3 p4 0 u h
  · skip
    exact fbX12_says_146_18 p1 p2 p3 p4 1 u h
theorem frX12_callOf_146 (p1 : Int32) (u : Mem) {v : Int32} {u' : Mem} (h : FX12_callOf_146 p1 u = some (v, u')) : FrL [155, 156] u u' := by
  unfold FX12_callOf_146 at h
  obtain ⟨x1, gx1, h⟩ := o_bind h
  rcases io h with ⟨c2, h⟩ | ⟨c2, h⟩
  · skip
    obtain ⟨x3, gx3, h⟩ := o_bind h
    obtain ⟨x4, u5, gx4, h⟩ := o_bnd2 h
    refine ft (fr_mono rfl (frX12_says_146 20 p1 (x3 - 59) 120 u gx4)) ?_
    cases h
    exact fr_refl _ _
  · skip
    cases h
    exact fr_refl _ _
theorem frX12_isCalledFirst_146 (p1 p2 : Int32) (u : Mem) {v : Int32} {u' : Mem} (h : FX12_isCalledFirst_146 p1 p2 u = some (v, u')) : FrL [155, 156] u u' := by
  unfold FX12_isCalledFirst_146 at h
  rcases oi h with ⟨c1, h⟩ | ⟨c1, h⟩
  · skip
    obtain ⟨x2, u3, gx2, h⟩ := o_bnd2 h
    refine ft (fr_mono rfl (frX12_callOf_146 p1 u gx2)) ?_
    obtain ⟨x4, u5, gx4, h⟩ := o_bnd2 h
    refine ft (fr_mono rfl (frX12_callOf_146 p2 u3 gx4)) ?_
    rcases io h with ⟨c6, h⟩ | ⟨c6, h⟩
    · skip
      cases h
      exact fr_refl _ _
    · skip
      rcases oi h with ⟨c7, h⟩ | ⟨c7, h⟩
      · skip
        cases h
        exact fr_refl _ _
      · skip
        obtain ⟨x8, gx8, h⟩ := o_bind h
        obtain ⟨x9, gx9, h⟩ := o_bind h
        rcases io h with ⟨c10, h⟩ | ⟨c10, h⟩
        · skip
          cases h
          exact fr_refl _ _
        · skip
          cases h
          exact fr_refl _ _
  · skip
    cases h
    exact fr_refl _ _
theorem fbX12_calls_146_44 {u' : Mem} {k4 : Int32 → Int32 → Int32 → Mem → Option Mem} (hk4 : ∀ (l1 l2 l3 : Int32) (u : Mem), k4 l1 l2 l3 u = some u' → FrL [147, 155, 156] u u') (l1 l2 l3 : Int32) (u : Mem) (h : FX12_calls_146_b44 k4 l1 l2 l3 u = some u') : FrL [147, 155, 156] u u' := by
  unfold FX12_calls_146_b44 at h
  exact hk4 l1 l2 (l3 + 1) u h
theorem fbX12_calls_146_4 {u' : Mem} {k4 : Int32 → Int32 → Int32 → Mem → Option Mem} (hk4 : ∀ (l1 l2 l3 : Int32) (u : Mem), k4 l1 l2 l3 u = some u' → FrL [147, 155, 156] u u') (l1 l2 l3 : Int32) (u : Mem) (h : FX12_calls_146_b4 k4 l1 l2 l3 u = some u') : FrL [147, 155, 156] u u' := by
  unfold FX12_calls_146_b4 at h
  rcases io h with ⟨c1, h⟩ | ⟨c1, h⟩
  · skip
    rcases oi h with ⟨c2, h⟩ | ⟨c2, h⟩
    · skip
      obtain ⟨u4, gu4, h⟩ := o_bind h
      refine ft (fr_mono rfl (frX12_takesField_146 l2 u gu4)) ?_
      obtain ⟨x5, gx5, h⟩ := o_bind h
      obtain ⟨u7, gu7, h⟩ := o_bind h
      refine ft (fr_mono rfl (frX12_notes_146 0 l2 x5 u4 gu7)) ?_
      cases h
      exact fr_refl _ _
    · skip
      cases h
      exact fr_refl _ _
  · skip
    obtain ⟨x8, gx8, h⟩ := o_bind h
    rcases io h with ⟨c9, h⟩ | ⟨c9, h⟩
    · skip
      exact fbX12_calls_146_44 hk4 l1 l2 l3 u h
    · skip
      obtain ⟨x10, u11, gx10, h⟩ := o_bnd2 h
      refine ft (fr_mono rfl (frX12_callOf_146 l3 u gx10)) ?_
      rcases io h with ⟨c12, h⟩ | ⟨c12, h⟩
      · skip
        exact fbX12_calls_146_44 hk4 l1 l2 l3 u11 h
      · skip
        obtain ⟨x13, u14, gx13, h⟩ := o_bnd2 h
        refine ft (fr_mono rfl (frX12_isCalledFirst_146 l3 l2 u11 gx13)) ?_
        rcases io h with ⟨c15, h⟩ | ⟨c15, h⟩
        · skip
          exact fbX12_calls_146_44 hk4 l1 l2 l3 u14 h
        · skip
          exact fbX12_calls_146_44 hk4 l1 l3 l3 u14 h
theorem flX12_calls_146_4 {u' : Mem} : ∀ (n : Nat) (l1 l2 l3 : Int32) (u : Mem), FX12_calls_146_L4 n l1 l2 l3 u = some u' → FrL [147, 155, 156] u u' := by
  intro n
  induction n with
  | zero =>
    intro l1 l2 l3 u h
    exact nn_ h
  | succ n ih =>
    intro l1 l2 l3 u h
    exact fbX12_calls_146_4 ih l1 l2 l3 u h
theorem frX12_calls_146 (p1 : Int32) (u : Mem) {u' : Mem} (h : FX12_calls_146 p1 u = some u') : FrL [147, 155, 156] u u' := by
  unfold FX12_calls_146 at h
  exact flX12_calls_146_4 FU p1 (-1) 0 u h
theorem frX12_napOf_146 (p1 : Int32) (u : Mem) {v : Int32} {u' : Mem} (h : FX12_napOf_146 p1 u = some (v, u')) : FrL [155, 156] u u' := by
  unfold FX12_napOf_146 at h
  obtain ⟨x1, u2, gx1, h⟩ := o_bnd2 h
  refine ft (fr_mono rfl (frX12_says_146 22 p1 0 99 u gx1)) ?_
  cases h
  exact fr_refl _ _
theorem frX12_stepOf_146 (p1 : Int32) (u : Mem) {v : Int32} {u' : Mem} (h : FX12_stepOf_146 p1 u = some (v, u')) : FrL [155, 156] u u' := by
  unfold FX12_stepOf_146 at h
  obtain ⟨x1, gx1, h⟩ := o_bind h
  obtain ⟨x2, u3, gx2, h⟩ := o_bnd2 h
  refine ft (fr_mono rfl (frX12_says_146 21 p1 x1 9 u gx2)) ?_
  cases h
  exact fr_refl _ _
theorem fbX12_goesOn_146_143 {u' : Mem} {k19 : Int32 → Int32 → Int32 → Int32 → Mem → Option Mem} (hk19 : ∀ (l1 l2 l3 l4 : Int32) (u : Mem), k19 l1 l2 l3 l4 u = some u' → FrL [147, 155, 156] u u') (l1 l2 l3 l4 l6 : Int32) (u : Mem) (h : FX12_goesOn_146_b143 k19 l1 l2 l3 l4 l6 u = some u') : FrL [147, 155, 156] u u' := by
  unfold FX12_goesOn_146_b143 at h
  exact hk19 l1 l2 (l3 - l6) l4 u h
theorem fbX12_goesOn_146_125 {u' : Mem} {k19 : Int32 → Int32 → Int32 → Int32 → Mem → Option Mem} (hk19 : ∀ (l1 l2 l3 l4 : Int32) (u : Mem), k19 l1 l2 l3 l4 u = some u' → FrL [147, 155, 156] u u') (l1 l2 l3 l5 l6 t0 : Int32) (u : Mem) (h : FX12_goesOn_146_b125 k19 l1 l2 l3 l5 l6 t0 u = some u') : FrL [147, 155, 156] u u' := by
  unfold FX12_goesOn_146_b125 at h
  rcases io h with ⟨c1, h⟩ | ⟨c1, h⟩
  · skip
    exact fbX12_goesOn_146_143 hk19 l1 l2 l3 t0 l6 u h
  · skip
    obtain ⟨u2, gu2, h⟩ := o_bind h
    refine ft (fr_wr rfl gu2) ?_
    exact fbX12_goesOn_146_143 hk19 l1 l2 l3 t0 l6 u2 h
theorem fbX12_goesOn_146_107 {u' : Mem} {k19 : Int32 → Int32 → Int32 → Int32 → Mem → Option Mem} (hk19 : ∀ (l1 l2 l3 l4 : Int32) (u : Mem), k19 l1 l2 l3 l4 u = some u' → FrL [147, 155, 156] u u') (l1 l2 l3 l4 l5 t0 : Int32) (u : Mem) (h : FX12_goesOn_146_b107 k19 l1 l2 l3 l4 l5 t0 u = some u') : FrL [147, 155, 156] u u' := by
  unfold FX12_goesOn_146_b107 at h
  rcases io h with ⟨c1, h⟩ | ⟨c1, h⟩
  · skip
    exact fbX12_goesOn_146_125 hk19 l1 l2 l3 l5 t0 0 u h
  · skip
    rcases io h with ⟨c2, h⟩ | ⟨c2, h⟩
    · skip
      exact fbX12_goesOn_146_125 hk19 l1 l2 l3 l5 t0 0 u h
    · skip
      exact fbX12_goesOn_146_125 hk19 l1 l2 l3 l5 t0 1 u h
theorem fbX12_goesOn_146_84 {u' : Mem} {k19 : Int32 → Int32 → Int32 → Int32 → Mem → Option Mem} (hk19 : ∀ (l1 l2 l3 l4 : Int32) (u : Mem), k19 l1 l2 l3 l4 u = some u' → FrL [147, 155, 156] u u') (l1 l2 l3 l5 t0 : Int32) (u : Mem) (h : FX12_goesOn_146_b84 k19 l1 l2 l3 l5 t0 u = some u') : FrL [147, 155, 156] u u' := by
  unfold FX12_goesOn_146_b84 at h
  rcases io h with ⟨c1, h⟩ | ⟨c1, h⟩
  · skip
    exact fbX12_goesOn_146_107 hk19 l1 l2 l3 t0 l5 0 u h
  · skip
    obtain ⟨x2, gx2, h⟩ := o_bind h
    exact fbX12_goesOn_146_107 hk19 l1 l2 l3 t0 l5 (1 + x2) u h
theorem fbX12_goesOn_146_42 {u' : Mem} {k19 : Int32 → Int32 → Int32 → Int32 → Mem → Option Mem} (hk19 : ∀ (l1 l2 l3 l4 : Int32) (u : Mem), k19 l1 l2 l3 l4 u = some u' → FrL [147, 155, 156] u u') (l1 l2 l3 t0 t1 : Int32) (u : Mem) (h : FX12_goesOn_146_b42 k19 l1 l2 l3 t0 t1 u = some u') : FrL [147, 155, 156] u u' := by
  unfold FX12_goesOn_146_b42 at h
  rcases io h with ⟨c1, h⟩ | ⟨c1, h⟩
  · skip
    exact fbX12_goesOn_146_84 hk19 l1 l2 l3 (t0 + t1) 0 u h
  · skip
    obtain ⟨x2, gx2, h⟩ := o_bind h
    rcases io h with ⟨c3, h⟩ | ⟨c3, h⟩
    · skip
      exact fbX12_goesOn_146_84 hk19 l1 l2 l3 (t0 + t1) 0 u h
    · skip
      obtain ⟨x4, gx4, h⟩ := o_bind h
      obtain ⟨x5, gx5, h⟩ := o_bind h
      rcases oi h with ⟨c6, h⟩ | ⟨c6, h⟩
      · skip
        exact fbX12_goesOn_146_84 hk19 l1 l2 l3 (t0 + t1) 0 u h
      · skip
        exact fbX12_goesOn_146_84 hk19 l1 l2 l3 (t0 + t1) 1 u h
theorem fbX12_goesOn_146_19 {u' : Mem} {k19 : Int32 → Int32 → Int32 → Int32 → Mem → Option Mem} (hk19 : ∀ (l1 l2 l3 l4 : Int32) (u : Mem), k19 l1 l2 l3 l4 u = some u' → FrL [147, 155, 156] u u') (l1 l2 l3 l4 : Int32) (u : Mem) (h : FX12_goesOn_146_b19 k19 l1 l2 l3 l4 u = some u') : FrL [147, 155, 156] u u' := by
  unfold FX12_goesOn_146_b19 at h
  rcases io h with ⟨c1, h⟩ | ⟨c1, h⟩
  · skip
    cases h
    exact fr_refl _ _
  · skip
    obtain ⟨x2, gx2, h⟩ := o_bind h
    rcases oi h with ⟨c3, h⟩ | ⟨c3, h⟩
    · skip
      exact fbX12_goesOn_146_42 hk19 l1 l2 l3 x2 (-1) u h
    · skip
      exact fbX12_goesOn_146_42 hk19 l1 l2 l3 x2 1 u h
theorem flX12_goesOn_146_19 {u' : Mem} : ∀ (n : Nat) (l1 l2 l3 l4 : Int32) (u : Mem), FX12_goesOn_146_L19 n l1 l2 l3 l4 u = some u' → FrL [147, 155, 156] u u' := by
  intro n
  induction n with
  | zero =>
    intro l1 l2 l3 l4 u h
    exact nn_ h
  | succ n ih =>
    intro l1 l2 l3 l4 u h
    exact fbX12_goesOn_146_19 ih l1 l2 l3 l4 u h
theorem frX12_goesOn_146 (p1 : Int32) (u : Mem) {u' : Mem} (h : FX12_goesOn_146 p1 u = some u') : FrL [147, 155, 156] u u' := by
  unfold FX12_goesOn_146 at h
  obtain ⟨x1, gx1, h⟩ := o_bind h
  obtain ⟨x2, u3, gx2, h⟩ := o_bnd2 h
  refine ft (fr_mono rfl (frX12_stepOf_146 p1 u gx2)) ?_
  exact flX12_goesOn_146_19 FU p1 x1 x2 1 u3 h
theorem frX12_breathes_146 (p1 p2 : Int32) (u : Mem) {u' : Mem} (h : FX12_breathes_146 p1 p2 u = some u') : FrL [147] u u' := by
  unfold FX12_breathes_146 at h
  obtain ⟨x1, gx1, h⟩ := o_bind h
  obtain ⟨x2, gx2, h⟩ := o_bind h
  obtain ⟨u3, gu3, h⟩ := o_bind h
  refine ft (fr_wr rfl gu3) ?_
  cases h
  exact fr_refl _ _
theorem frX12_marches_146 (p1 : Int32) (u : Mem) {u' : Mem} (h : FX12_marches_146 p1 u = some u') : FrL [147, 155, 156] u u' := by
  unfold FX12_marches_146 at h
  obtain ⟨x1, gx1, h⟩ := o_bind h
  rcases io h with ⟨c2, h⟩ | ⟨c2, h⟩
  · skip
    obtain ⟨x3, gx3, h⟩ := o_bind h
    obtain ⟨x4, gx4, h⟩ := o_bind h
    rcases io h with ⟨c5, h⟩ | ⟨c5, h⟩
    · skip
      obtain ⟨x6, u7, gx6, h⟩ := o_bnd2 h
      refine ft (fr_mono rfl (frX12_napOf_146 p1 u gx6)) ?_
      rcases io h with ⟨c8, h⟩ | ⟨c8, h⟩
      · skip
        obtain ⟨u10, gu10, h⟩ := o_bind h
        refine ft (fr_mono rfl (frX12_goesOn_146 p1 u7 gu10)) ?_
        cases h
        exact fr_refl _ _
      · skip
        obtain ⟨u12, gu12, h⟩ := o_bind h
        refine ft (fr_mono rfl (frX12_breathes_146 p1 x6 u7 gu12)) ?_
        cases h
        exact fr_refl _ _
    · skip
      obtain ⟨u14, gu14, h⟩ := o_bind h
      refine ft (fr_mono rfl (frX12_breathes_146 p1 10 u gu14)) ?_
      cases h
      exact fr_refl _ _
  · skip
    cases h
    exact fr_refl _ _
theorem fbX12_isBeaten_146_169 {u' : Mem} {k52 : Int32 → Int32 → Int32 → Mem → Option Mem} (hk52 : ∀ (l1 l2 l4 : Int32) (u : Mem), k52 l1 l2 l4 u = some u' → FrL [146, 147] u u') (l1 l2 l4 : Int32) (u : Mem) (h : FX12_isBeaten_146_b169 k52 l1 l2 l4 u = some u') : FrL [146, 147] u u' := by
  unfold FX12_isBeaten_146_b169 at h
  exact hk52 l1 l2 (l4 + 1) u h
theorem fbX12_isBeaten_146_52 {u' : Mem} {k52 : Int32 → Int32 → Int32 → Mem → Option Mem} (hk52 : ∀ (l1 l2 l4 : Int32) (u : Mem), k52 l1 l2 l4 u = some u' → FrL [146, 147] u u') (l1 l2 l4 : Int32) (u : Mem) (h : FX12_isBeaten_146_b52 k52 l1 l2 l4 u = some u') : FrL [146, 147] u u' := by
  unfold FX12_isBeaten_146_b52 at h
  rcases io h with ⟨c1, h⟩ | ⟨c1, h⟩
  · skip
    cases h
    exact fr_refl _ _
  · skip
    obtain ⟨x2, gx2, h⟩ := o_bind h
    rcases oi h with ⟨c3, h⟩ | ⟨c3, h⟩
    · skip
      exact fbX12_isBeaten_146_169 hk52 l1 l2 l4 u h
    · skip
      obtain ⟨x4, gx4, h⟩ := o_bind h
      rcases io h with ⟨c5, h⟩ | ⟨c5, h⟩
      · skip
        obtain ⟨x6, gx6, h⟩ := o_bind h
        rcases io h with ⟨c7, h⟩ | ⟨c7, h⟩
        · skip
          obtain ⟨u8, gu8, h⟩ := o_bind h
          refine ft (fr_wr rfl gu8) ?_
          obtain ⟨x9, gx9, h⟩ := o_bind h
          obtain ⟨x10, gx10, h⟩ := o_bind h
          obtain ⟨u11, gu11, h⟩ := o_bind h
          refine ft (fr_wr rfl gu11) ?_
          obtain ⟨u13, gu13, h⟩ := o_bind h
          refine ft (fr_mono rfl (frX12_notes_146 2 l4 l2 u11 gu13)) ?_
          exact fbX12_isBeaten_146_169 hk52 l1 l2 l4 u13 h
        · skip
          obtain ⟨x14, gx14, h⟩ := o_bind h
          obtain ⟨x15, gx15, h⟩ := o_bind h
          obtain ⟨u16, gu16, h⟩ := o_bind h
          refine ft (fr_wr rfl gu16) ?_
          exact fbX12_isBeaten_146_169 hk52 l1 l2 l4 u16 h
      · skip
        exact fbX12_isBeaten_146_169 hk52 l1 l2 l4 u h
theorem flX12_isBeaten_146_52 {u' : Mem} : ∀ (n : Nat) (l1 l2 l4 : Int32) (u : Mem), FX12_isBeaten_146_L52 n l1 l2 l4 u = some u' → FrL [146, 147] u u' := by
  intro n
  induction n with
  | zero =>
    intro l1 l2 l4 u h
    exact nn_ h
  | succ n ih =>
    intro l1 l2 l4 u h
    exact fbX12_isBeaten_146_52 ih l1 l2 l4 u h
theorem frX12_isBeaten_146 (p1 p2 : Int32) (u : Mem) {u' : Mem} (h : FX12_isBeaten_146 p1 p2 u = some u') : FrL [146, 147] u u' := by
  unfold FX12_isBeaten_146 at h
  obtain ⟨x1, gx1, h⟩ := o_bind h
  obtain ⟨u2, gu2, h⟩ := o_bind h
  refine ft (fr_wr rfl gu2) ?_
  obtain ⟨u3, gu3, h⟩ := o_bind h
  refine ft (fr_wr rfl gu3) ?_
  obtain ⟨u4, gu4, h⟩ := o_bind h
  refine ft (fr_upd rfl gu4) ?_
  obtain ⟨u6, gu6, h⟩ := o_bind h
  refine ft (fr_mono rfl (frX12_notes_146 1 x1 p2 u4 gu6)) ?_
  exact flX12_isBeaten_146_52 FU p1 p2 0 u6 h
theorem fbX12_fights_146_103 {u' : Mem} {k54 : Int32 → Int32 → Mem → Option Mem} (hk54 : ∀ (l1 l3 : Int32) (u : Mem), k54 l1 l3 u = some u' → FrL [146, 147] u u') (l1 l3 : Int32) (u : Mem) (h : FX12_fights_146_b103 k54 l1 l3 u = some u') : FrL [146, 147] u u' := by
  unfold FX12_fights_146_b103 at h
  exact hk54 l1 (l3 + 1) u h
theorem fbX12_fights_146_54 {u' : Mem} {k54 : Int32 → Int32 → Mem → Option Mem} (hk54 : ∀ (l1 l3 : Int32) (u : Mem), k54 l1 l3 u = some u' → FrL [146, 147] u u') (l1 l3 : Int32) (u : Mem) (h : FX12_fights_146_b54 k54 l1 l3 u = some u') : FrL [146, 147] u u' := by
  unfold FX12_fights_146_b54 at h
  rcases io h with ⟨c1, h⟩ | ⟨c1, h⟩
  · skip
    cases h
    exact fr_refl _ _
  · skip
    obtain ⟨x2, gx2, h⟩ := o_bind h
    rcases oi h with ⟨c3, h⟩ | ⟨c3, h⟩
    · skip
      exact fbX12_fights_146_103 hk54 l1 l3 u h
    · skip
      obtain ⟨x4, gx4, h⟩ := o_bind h
      rcases oi h with ⟨c5, h⟩ | ⟨c5, h⟩
      · skip
        exact fbX12_fights_146_103 hk54 l1 l3 u h
      · skip
        obtain ⟨x6, gx6, h⟩ := o_bind h
        obtain ⟨x7, gx7, h⟩ := o_bind h
        obtain ⟨u8, gu8, h⟩ := o_bind h
        refine ft (fr_wr rfl gu8) ?_
        exact fbX12_fights_146_103 hk54 l1 l3 u8 h
theorem flX12_fights_146_54 {u' : Mem} : ∀ (n : Nat) (l1 l3 : Int32) (u : Mem), FX12_fights_146_L54 n l1 l3 u = some u' → FrL [146, 147] u u' := by
  intro n
  induction n with
  | zero =>
    intro l1 l3 u h
    exact nn_ h
  | succ n ih =>
    intro l1 l3 u h
    exact fbX12_fights_146_54 ih l1 l3 u h
theorem fbX12_fights_146_47 {u' : Mem} (l1 t1 : Int32) (u : Mem) (h : FX12_fights_146_b47 l1 t1 u = some u') : FrL [146, 147] u u' := by
  unfold FX12_fights_146_b47 at h
  obtain ⟨u2, gu2, h⟩ := o_bind h
  refine ft (fr_mono rfl (frX12_isBeaten_146 t1 l1 u gu2)) ?_
  cases h
  exact fr_refl _ _
theorem frX12_fights_146 (p1 : Int32) (u : Mem) {u' : Mem} (h : FX12_fights_146 p1 u = some u') : FrL [146, 147] u u' := by
  unfold FX12_fights_146 at h
  obtain ⟨x1, gx1, h⟩ := o_bind h
  rcases io h with ⟨c2, h⟩ | ⟨c2, h⟩
  · skip
    cases h
    exact fr_refl _ _
  · skip
    obtain ⟨x3, gx3, h⟩ := o_bind h
    rcases oi h with ⟨c4, h⟩ | ⟨c4, h⟩
    · skip
      obtain ⟨x5, gx5, h⟩ := o_bind h
      obtain ⟨x6, gx6, h⟩ := o_bind h
      rcases io h with ⟨c7, h⟩ | ⟨c7, h⟩
      · skip
        exact flX12_fights_146_54 FU p1 0 u h
      · skip
        rcases io h with ⟨c8, h⟩ | ⟨c8, h⟩
        · skip
          exact fbX12_fights_146_47 p1 1 u h
        · skip
          exact fbX12_fights_146_47 p1 0 u h
    · skip
      cases h
      exact fr_refl _ _
theorem fbX12_wages_146_94 {u' : Mem} (u : Mem) (h : FX12_wages_146_b94 u = some u') : FrL [146, 147, 155, 156] u u' := by
  unfold FX12_wages_146_b94 at h
  obtain ⟨u1, gu1, h⟩ := o_bind h
  refine ft (fr_upd rfl gu1) ?_
  cases h
  exact fr_refl _ _
theorem fbX12_wages_146_61 {u' : Mem} {k61 : Int32 → Mem → Option Mem} (hk61 : ∀ (l1 : Int32) (u : Mem), k61 l1 u = some u' → FrL [146, 147, 155, 156] u u') (l1 : Int32) (u : Mem) (h : FX12_wages_146_b61 k61 l1 u = some u') : FrL [146, 147, 155, 156] u u' := by
  unfold FX12_wages_146_b61 at h
  rcases io h with ⟨c1, h⟩ | ⟨c1, h⟩
  · skip
    obtain ⟨x2, gx2, h⟩ := o_bind h
    rcases oi h with ⟨c3, h⟩ | ⟨c3, h⟩
    · skip
      exact fbX12_wages_146_94 u h
    · skip
      obtain ⟨x4, gx4, h⟩ := o_bind h
      rcases io h with ⟨c5, h⟩ | ⟨c5, h⟩
      · skip
        cases h
        exact fr_refl _ _
      · skip
        exact fbX12_wages_146_94 u h
  · skip
    obtain ⟨u7, gu7, h⟩ := o_bind h
    refine ft (fr_mono rfl (frX12_fights_146 l1 u gu7)) ?_
    exact hk61 (l1 + 1) u7 h
theorem flX12_wages_146_61 {u' : Mem} : ∀ (n : Nat) (l1 : Int32) (u : Mem), FX12_wages_146_L61 n l1 u = some u' → FrL [146, 147, 155, 156] u u' := by
  intro n
  induction n with
  | zero =>
    intro l1 u h
    exact nn_ h
  | succ n ih =>
    intro l1 u h
    exact fbX12_wages_146_61 ih l1 u h
theorem fbX12_wages_146_37 {u' : Mem} {k37 : Int32 → Mem → Option Mem} (hk37 : ∀ (l1 : Int32) (u : Mem), k37 l1 u = some u' → FrL [146, 147, 155, 156] u u') (l1 : Int32) (u : Mem) (h : FX12_wages_146_b37 k37 l1 u = some u') : FrL [146, 147, 155, 156] u u' := by
  unfold FX12_wages_146_b37 at h
  rcases io h with ⟨c1, h⟩ | ⟨c1, h⟩
  · skip
    exact flX12_wages_146_61 FU 0 u h
  · skip
    obtain ⟨u3, gu3, h⟩ := o_bind h
    refine ft (fr_mono rfl (frX12_marches_146 l1 u gu3)) ?_
    exact hk37 (l1 + 1) u3 h
theorem flX12_wages_146_37 {u' : Mem} : ∀ (n : Nat) (l1 : Int32) (u : Mem), FX12_wages_146_L37 n l1 u = some u' → FrL [146, 147, 155, 156] u u' := by
  intro n
  induction n with
  | zero =>
    intro l1 u h
    exact nn_ h
  | succ n ih =>
    intro l1 u h
    exact fbX12_wages_146_37 ih l1 u h
theorem fbX12_wages_146_29 {u' : Mem} {k2 : Int32 → Mem → Option Mem} (hk2 : ∀ (l1 : Int32) (u : Mem), k2 l1 u = some u' → FrL [146, 147, 155, 156] u u') (l1 : Int32) (u : Mem) (h : FX12_wages_146_b29 k2 l1 u = some u') : FrL [146, 147, 155, 156] u u' := by
  unfold FX12_wages_146_b29 at h
  exact hk2 (l1 + 1) u h
theorem fbX12_wages_146_2 {u' : Mem} {k2 : Int32 → Mem → Option Mem} (hk2 : ∀ (l1 : Int32) (u : Mem), k2 l1 u = some u' → FrL [146, 147, 155, 156] u u') (l1 : Int32) (u : Mem) (h : FX12_wages_146_b2 k2 l1 u = some u') : FrL [146, 147, 155, 156] u u' := by
  unfold FX12_wages_146_b2 at h
  rcases io h with ⟨c1, h⟩ | ⟨c1, h⟩
  · skip
    exact flX12_wages_146_37 FU 0 u h
  · skip
    obtain ⟨x2, gx2, h⟩ := o_bind h
    obtain ⟨x3, gx3, h⟩ := o_bind h
    rcases io h with ⟨c4, h⟩ | ⟨c4, h⟩
    · skip
      exact fbX12_wages_146_29 hk2 l1 u h
    · skip
      obtain ⟨u6, gu6, h⟩ := o_bind h
      refine ft (fr_mono rfl (frX12_calls_146 l1 u gu6)) ?_
      exact fbX12_wages_146_29 hk2 l1 u6 h
theorem flX12_wages_146_2 {u' : Mem} : ∀ (n : Nat) (l1 : Int32) (u : Mem), FX12_wages_146_L2 n l1 u = some u' → FrL [146, 147, 155, 156] u u' := by
  intro n
  induction n with
  | zero =>
    intro l1 u h
    exact nn_ h
  | succ n ih =>
    intro l1 u h
    exact fbX12_wages_146_2 ih l1 u h
theorem frX12_wages_146 (u : Mem) {u' : Mem} (h : FX12_wages_146 u = some u') : FrL [146, 147, 155, 156] u u' := by
  unfold FX12_wages_146 at h
  exact flX12_wages_146_2 FU 0 u h
theorem fbX12_tells_146_108 {u' : Mem} {k15 : Int32 → Mem → Option Mem} (hk15 : ∀ (l1 : Int32) (u : Mem), k15 l1 u = some u' → FrL [147] u u') (l1 : Int32) (u : Mem) (h : FX12_tells_146_b108 k15 l1 u = some u') : FrL [147] u u' := by
  unfold FX12_tells_146_b108 at h
  exact hk15 (l1 + 1) u h
theorem fbX12_tells_146_102 {u' : Mem} {k49 : Int32 → Int32 → Int32 → Mem → Option Mem} (hk49 : ∀ (l1 l2 l3 : Int32) (u : Mem), k49 l1 l2 l3 u = some u' → FrL [147] u u') (l1 l2 l3 : Int32) (u : Mem) (h : FX12_tells_146_b102 k49 l1 l2 l3 u = some u') : FrL [147] u u' := by
  unfold FX12_tells_146_b102 at h
  exact hk49 l1 l2 (l3 + 1) u h
theorem fbX12_tells_146_49 {u' : Mem} {k15 : Int32 → Mem → Option Mem} (hk15 : ∀ (l1 : Int32) (u : Mem), k15 l1 u = some u' → FrL [147] u u') {k49 : Int32 → Int32 → Int32 → Mem → Option Mem} (hk49 : ∀ (l1 l2 l3 : Int32) (u : Mem), k49 l1 l2 l3 u = some u' → FrL [147] u u') (l1 l2 l3 : Int32) (u : Mem) (h : FX12_tells_146_b49 k15 k49 l1 l2 l3 u = some u') : FrL [147] u u' := by
  unfold FX12_tells_146_b49 at h
  rcases io h with ⟨c1, h⟩ | ⟨c1, h⟩
  · skip
    exact fbX12_tells_146_108 hk15 l1 u h
  · skip
    rcases oi h with ⟨c2, h⟩ | ⟨c2, h⟩
    · skip
      exact fbX12_tells_146_102 hk49 l1 l2 l3 u h
    · skip
      obtain ⟨x3, gx3, h⟩ := o_bind h
      rcases oi h with ⟨c4, h⟩ | ⟨c4, h⟩
      · skip
        exact fbX12_tells_146_102 hk49 l1 l2 l3 u h
      · skip
        obtain ⟨x5, gx5, h⟩ := o_bind h
        obtain ⟨x6, gx6, h⟩ := o_bind h
        obtain ⟨u7, gu7, h⟩ := o_bind h
        refine ft (fr_wr rfl gu7) ?_
        exact fbX12_tells_146_102 hk49 l1 l2 l3 u7 h
theorem flX12_tells_146_49 {u' : Mem} {k15 : Int32 → Mem → Option Mem} (hk15 : ∀ (l1 : Int32) (u : Mem), k15 l1 u = some u' → FrL [147] u u') : ∀ (n : Nat) (l1 l2 l3 : Int32) (u : Mem), FX12_tells_146_L49 k15 n l1 l2 l3 u = some u' → FrL [147] u u' := by
  intro n
  induction n with
  | zero =>
    intro l1 l2 l3 u h
    exact nn_ h
  | succ n ih =>
    intro l1 l2 l3 u h
    exact fbX12_tells_146_49 hk15 ih l1 l2 l3 u h
theorem fbX12_tells_146_15 {u' : Mem} {k15 : Int32 → Mem → Option Mem} (hk15 : ∀ (l1 : Int32) (u : Mem), k15 l1 u = some u' → FrL [147] u u') (l1 : Int32) (u : Mem) (h : FX12_tells_146_b15 k15 l1 u = some u') : FrL [147] u u' := by
  unfold FX12_tells_146_b15 at h
  rcases io h with ⟨c1, h⟩ | ⟨c1, h⟩
  · skip
    cases h
    exact fr_refl _ _
  · skip
    obtain ⟨x2, gx2, h⟩ := o_bind h
    rcases io h with ⟨c3, h⟩ | ⟨c3, h⟩
    · skip
      obtain ⟨x4, gx4, h⟩ := o_bind h
      exact flX12_tells_146_49 hk15 FU l1 x4 0 u h
    · skip
      exact fbX12_tells_146_108 hk15 l1 u h
theorem flX12_tells_146_15 {u' : Mem} : ∀ (n : Nat) (l1 : Int32) (u : Mem), FX12_tells_146_L15 n l1 u = some u' → FrL [147] u u' := by
  intro n
  induction n with
  | zero =>
    intro l1 u h
    exact nn_ h
  | succ n ih =>
    intro l1 u h
    exact fbX12_tells_146_15 ih l1 u h
theorem frX12_tells_146 (u : Mem) {u' : Mem} (h : FX12_tells_146 u = some u') : FrL [147] u u' := by
  unfold FX12_tells_146 at h
  obtain ⟨x1, gx1, h⟩ := o_bind h
  rcases io h with ⟨c2, h⟩ | ⟨c2, h⟩
  · skip
    exact flX12_tells_146_15 FU 0 u h
  · skip
    cases h
    exact fr_refl _ _
theorem frX12_draw_146 (p1 : Int32) (u : Mem) {v : Int32} {u' : Mem} (h : FX12_draw_146 p1 u = some (v, u')) : FrL [147] u u' := by
  unfold FX12_draw_146 at h
  obtain ⟨u1, gu1, h⟩ := o_bind h
  refine ft (fr_upd rfl gu1) ?_
  obtain ⟨x2, gx2, h⟩ := o_bind h
  cases h
  exact fr_refl _ _
theorem frX12_fadeOf_146 (p1 : Int32) (u : Mem) {v : Int32} {u' : Mem} (h : FX12_fadeOf_146 p1 u = some (v, u')) : FrL [155, 156] u u' := by
  unfold FX12_fadeOf_146 at h
  obtain ⟨x1, u2, gx1, h⟩ := o_bnd2 h
  refine ft (fr_mono rfl (frX12_says_146 23 p1 50 1000 u gx1)) ?_
  cases h
  exact fr_refl _ _
theorem fbX12_fades_146_98 {u' : Mem} {k2 : Int32 → Mem → Option Mem} (hk2 : ∀ (l1 : Int32) (u : Mem), k2 l1 u = some u' → FrL [147, 155, 156] u u') (l1 : Int32) (u : Mem) (h : FX12_fades_146_b98 k2 l1 u = some u') : FrL [147, 155, 156] u u' := by
  unfold FX12_fades_146_b98 at h
  exact hk2 (l1 + 1) u h
theorem fbX12_fades_146_52 {u' : Mem} {k2 : Int32 → Mem → Option Mem} (hk2 : ∀ (l1 : Int32) (u : Mem), k2 l1 u = some u' → FrL [147, 155, 156] u u') {k52 : Int32 → Int32 → Mem → Option Mem} (hk52 : ∀ (l1 l2 : Int32) (u : Mem), k52 l1 l2 u = some u' → FrL [147, 155, 156] u u') (l1 l2 : Int32) (u : Mem) (h : FX12_fades_146_b52 k2 k52 l1 l2 u = some u') : FrL [147, 155, 156] u u' := by
  unfold FX12_fades_146_b52 at h
  obtain ⟨x1, gx1, h⟩ := o_bind h
  rcases oi h with ⟨c2, h⟩ | ⟨c2, h⟩
  · skip
    obtain ⟨x3, gx3, h⟩ := o_bind h
    obtain ⟨u4, gu4, h⟩ := o_bind h
    refine ft (fr_wr rfl gu4) ?_
    obtain ⟨u6, gu6, h⟩ := o_bind h
    refine ft (fr_mono rfl (frX12_notes_146 3 l1 l2 u4 gu6)) ?_
    exact fbX12_fades_146_98 hk2 l1 u6 h
  · skip
    exact hk52 l1 (l2 + 1) u h
theorem flX12_fades_146_52 {u' : Mem} {k2 : Int32 → Mem → Option Mem} (hk2 : ∀ (l1 : Int32) (u : Mem), k2 l1 u = some u' → FrL [147, 155, 156] u u') : ∀ (n : Nat) (l1 l2 : Int32) (u : Mem), FX12_fades_146_L52 k2 n l1 l2 u = some u' → FrL [147, 155, 156] u u' := by
  intro n
  induction n with
  | zero =>
    intro l1 l2 u h
    exact nn_ h
  | succ n ih =>
    intro l1 l2 u h
    exact fbX12_fades_146_52 hk2 ih l1 l2 u h
theorem fbX12_fades_146_2 {u' : Mem} {k2 : Int32 → Mem → Option Mem} (hk2 : ∀ (l1 : Int32) (u : Mem), k2 l1 u = some u' → FrL [147, 155, 156] u u') (l1 : Int32) (u : Mem) (h : FX12_fades_146_b2 k2 l1 u = some u') : FrL [147, 155, 156] u u' := by
  unfold FX12_fades_146_b2 at h
  rcases io h with ⟨c1, h⟩ | ⟨c1, h⟩
  · skip
    cases h
    exact fr_refl _ _
  · skip
    rcases io h with ⟨c2, h⟩ | ⟨c2, h⟩
    · skip
      exact fbX12_fades_146_98 hk2 l1 u h
    · skip
      obtain ⟨x3, gx3, h⟩ := o_bind h
      rcases io h with ⟨c4, h⟩ | ⟨c4, h⟩
      · skip
        exact fbX12_fades_146_98 hk2 l1 u h
      · skip
        obtain ⟨x5, u6, gx5, h⟩ := o_bnd2 h
        refine ft (fr_mono rfl (frX12_draw_146 1000 u gx5)) ?_
        obtain ⟨x7, u8, gx7, h⟩ := o_bnd2 h
        refine ft (fr_mono rfl (frX12_fadeOf_146 l1 u6 gx7)) ?_
        rcases io h with ⟨c9, h⟩ | ⟨c9, h⟩
        · skip
          exact flX12_fades_146_52 hk2 FU l1 0 u8 h
        · skip
          exact fbX12_fades_146_98 hk2 l1 u8 h
theorem flX12_fades_146_2 {u' : Mem} : ∀ (n : Nat) (l1 : Int32) (u : Mem), FX12_fades_146_L2 n l1 u = some u' → FrL [147, 155, 156] u u' := by
  intro n
  induction n with
  | zero =>
    intro l1 u h
    exact nn_ h
  | succ n ih =>
    intro l1 u h
    exact fbX12_fades_146_2 ih l1 u h
theorem frX12_fades_146 (u : Mem) {u' : Mem} (h : FX12_fades_146 u = some u') : FrL [147, 155, 156] u u' := by
  unfold FX12_fades_146 at h
  exact flX12_fades_146_2 FU 0 u h
theorem frX12_comesBack_146 (p1 : Int32) (u : Mem) {u' : Mem} (h : FX12_comesBack_146 p1 u = some u') : FrL [147] u u' := by
  unfold FX12_comesBack_146 at h
  obtain ⟨x1, gx1, h⟩ := o_bind h
  rcases oi h with ⟨c2, h⟩ | ⟨c2, h⟩
  · skip
    cases h
    exact fr_refl _ _
  · skip
    obtain ⟨x3, gx3, h⟩ := o_bind h
    rcases io h with ⟨c4, h⟩ | ⟨c4, h⟩
    · skip
      obtain ⟨u5, gu5, h⟩ := o_bind h
      refine ft (fr_wr rfl gu5) ?_
      obtain ⟨u7, gu7, h⟩ := o_bind h
      refine ft (fr_mono rfl (frX12_notes_146 5 p1 0 u5 gu7)) ?_
      cases h
      exact fr_refl _ _
    · skip
      cases h
      exact fr_refl _ _
theorem fbX12_ends_146_60 {u' : Mem} {k60 : Int32 → Mem → Option Mem} (hk60 : ∀ (l1 : Int32) (u : Mem), k60 l1 u = some u' → FrL [147] u u') (l1 : Int32) (u : Mem) (h : FX12_ends_146_b60 k60 l1 u = some u') : FrL [147] u u' := by
  unfold FX12_ends_146_b60 at h
  rcases io h with ⟨c1, h⟩ | ⟨c1, h⟩
  · skip
    obtain ⟨u3, gu3, h⟩ := o_bind h
    refine ft (fr_mono rfl (frX12_notes_146 4 (-1) 0 u gu3)) ?_
    cases h
    exact fr_refl _ _
  · skip
    obtain ⟨u4, gu4, h⟩ := o_bind h
    refine ft (fr_wr rfl gu4) ?_
    exact hk60 (l1 + 1) u4 h
theorem flX12_ends_146_60 {u' : Mem} : ∀ (n : Nat) (l1 : Int32) (u : Mem), FX12_ends_146_L60 n l1 u = some u' → FrL [147] u u' := by
  intro n
  induction n with
  | zero =>
    intro l1 u h
    exact nn_ h
  | succ n ih =>
    intro l1 u h
    exact fbX12_ends_146_60 ih l1 u h
theorem fbX12_ends_146_25 {u' : Mem} {k25 : Int32 → Mem → Option Mem} (hk25 : ∀ (l1 : Int32) (u : Mem), k25 l1 u = some u' → FrL [147] u u') (l1 : Int32) (u : Mem) (h : FX12_ends_146_b25 k25 l1 u = some u') : FrL [147] u u' := by
  unfold FX12_ends_146_b25 at h
  rcases io h with ⟨c1, h⟩ | ⟨c1, h⟩
  · skip
    rcases oi h with ⟨c2, h⟩ | ⟨c2, h⟩
    · skip
      exact flX12_ends_146_60 FU 0 u h
    · skip
      cases h
      exact fr_refl _ _
  · skip
    obtain ⟨u4, gu4, h⟩ := o_bind h
    refine ft (fr_mono rfl (frX12_comesBack_146 l1 u gu4)) ?_
    exact hk25 (l1 + 1) u4 h
theorem flX12_ends_146_25 {u' : Mem} : ∀ (n : Nat) (l1 : Int32) (u : Mem), FX12_ends_146_L25 n l1 u = some u' → FrL [147] u u' := by
  intro n
  induction n with
  | zero =>
    intro l1 u h
    exact nn_ h
  | succ n ih =>
    intro l1 u h
    exact fbX12_ends_146_25 ih l1 u h
theorem fbX12_ends_146_23 {u' : Mem} (u : Mem) (h : FX12_ends_146_b23 u = some u') : FrL [147] u u' := by
  unfold FX12_ends_146_b23 at h
  exact flX12_ends_146_25 FU 0 u h
theorem fbX12_ends_146_16 {u' : Mem} (u : Mem) (h : FX12_ends_146_b16 u = some u') : FrL [147] u u' := by
  unfold FX12_ends_146_b16 at h
  obtain ⟨u1, gu1, h⟩ := o_bind h
  refine ft (fr_upd rfl gu1) ?_
  exact fbX12_ends_146_23 u1 h
theorem frX12_ends_146 (u : Mem) {u' : Mem} (h : FX12_ends_146 u = some u') : FrL [147] u u' := by
  unfold FX12_ends_146 at h
  obtain ⟨x1, gx1, h⟩ := o_bind h
  rcases oi h with ⟨c2, h⟩ | ⟨c2, h⟩
  · skip
    exact fbX12_ends_146_16 u h
  · skip
    obtain ⟨x3, gx3, h⟩ := o_bind h
    rcases io h with ⟨c4, h⟩ | ⟨c4, h⟩
    · skip
      exact fbX12_ends_146_23 u h
    · skip
      exact fbX12_ends_146_16 u h
theorem fbX12_aDay_146_40 {u' : Mem} (u : Mem) (h : FX12_aDay_146_b40 u = some u') : FrL [146, 147, 155, 156] u u' := by
  unfold FX12_aDay_146_b40 at h
  obtain ⟨u1, gu1, h⟩ := o_bind h
  refine ft (fr_upd rfl gu1) ?_
  cases h
  exact fr_refl _ _
theorem fbX12_aDay_146_24 {u' : Mem} (l1 : Int32) (u : Mem) (h : FX12_aDay_146_b24 l1 u = some u') : FrL [146, 147, 155, 156] u u' := by
  unfold FX12_aDay_146_b24 at h
  obtain ⟨u2, gu2, h⟩ := o_bind h
  refine ft (fr_mono rfl (frX12_tells_146 u gu2)) ?_
  obtain ⟨u4, gu4, h⟩ := o_bind h
  refine ft (fr_mono rfl (frX12_fades_146 u2 gu4)) ?_
  rcases io h with ⟨c5, h⟩ | ⟨c5, h⟩
  · skip
    exact fbX12_aDay_146_40 u4 h
  · skip
    obtain ⟨u7, gu7, h⟩ := o_bind h
    refine ft (fr_mono rfl (frX12_ends_146 u4 gu7)) ?_
    exact fbX12_aDay_146_40 u7 h
theorem fbX12_aDay_146_15 {u' : Mem} (t0 : Int32) (u : Mem) (h : FX12_aDay_146_b15 t0 u = some u') : FrL [146, 147, 155, 156] u u' := by
  unfold FX12_aDay_146_b15 at h
  rcases io h with ⟨c1, h⟩ | ⟨c1, h⟩
  · skip
    exact fbX12_aDay_146_24 t0 u h
  · skip
    obtain ⟨u3, gu3, h⟩ := o_bind h
    refine ft (fr_mono rfl (frX12_wages_146 u gu3)) ?_
    exact fbX12_aDay_146_24 t0 u3 h
theorem frX12_aDay_146 (u : Mem) {u' : Mem} (h : FX12_aDay_146 u = some u') : FrL [146, 147, 155, 156] u u' := by
  unfold FX12_aDay_146 at h
  rcases oi h with ⟨c1, h⟩ | ⟨c1, h⟩
  · skip
    exact fbX12_aDay_146_15 0 u h
  · skip
    exact fbX12_aDay_146_15 1 u h
theorem fbX12_days_146_40 {v : Int32} {u' : Mem} {k40 : Int32 → Int32 → Int32 → Mem → Option (Int32 × Mem)} (hk40 : ∀ (l1 l2 l3 : Int32) (u : Mem), k40 l1 l2 l3 u = some (v, u') → FrL [146, 147, 149, 155, 156] u u') (l1 l2 l3 : Int32) (u : Mem) (h : FX12_days_146_b40 k40 l1 l2 l3 u = some (v, u')) : FrL [146, 147, 149, 155, 156] u u' := by
  unfold FX12_days_146_b40 at h
  rcases io h with ⟨c1, h⟩ | ⟨c1, h⟩
  · skip
    cases h
    exact fr_refl _ _
  · skip
    obtain ⟨u3, gu3, h⟩ := o_bind h
    refine ft (fr_mono rfl (frX12_keeps_146 u gu3)) ?_
    obtain ⟨u5, gu5, h⟩ := o_bind h
    refine ft (fr_mono rfl (frX12_aDay_146 u3 gu5)) ?_
    exact hk40 l1 (l2 + (u3 147 1)) (l3 + 1) u5 h
theorem flX12_days_146_40 {v : Int32} {u' : Mem} : ∀ (n : Nat) (l1 l2 l3 : Int32) (u : Mem), FX12_days_146_L40 n l1 l2 l3 u = some (v, u') → FrL [146, 147, 149, 155, 156] u u' := by
  intro n
  induction n with
  | zero =>
    intro l1 l2 l3 u h
    exact nn_ h
  | succ n ih =>
    intro l1 l2 l3 u h
    exact fbX12_days_146_40 ih l1 l2 l3 u h
theorem frX12_days_146 (p1 : Int32) (u : Mem) {v : Int32} {u' : Mem} (h : FX12_days_146 p1 u = some (v, u')) : FrL [146, 147, 149, 155, 156] u u' := by
  unfold FX12_days_146 at h
  obtain ⟨x1, gx1, h⟩ := o_bind h
  rcases io h with ⟨c2, h⟩ | ⟨c2, h⟩
  · skip
    cases h
    exact fr_refl _ _
  · skip
    rcases io h with ⟨c3, h⟩ | ⟨c3, h⟩
    · skip
      obtain ⟨u4, gu4, h⟩ := o_bind h
      refine ft (fr_upd rfl gu4) ?_
      obtain ⟨u5, gu5, h⟩ := o_bind h
      refine ft (fr_upd rfl gu5) ?_
      exact flX12_days_146_40 FU p1 0 0 u5 h
    · skip
      cases h
      exact fr_refl _ _
theorem fbX6_add_34_50 {u' : Mem} {k3 : Int32 → Int32 → Mem → Option Mem} (hk3 : ∀ (l1 l2 : Int32) (u : Mem), k3 l1 l2 u = some u' → FrL [34, 35] u u') (l1 l2 : Int32) (u : Mem) (h : FX6_add_34_b50 k3 l1 l2 u = some u') : FrL [34, 35] u u' := by
  unfold FX6_add_34_b50 at h
  exact hk3 l1 (l2 + (-8)) u h
theorem fbX6_add_34_3 {u' : Mem} {k3 : Int32 → Int32 → Mem → Option Mem} (hk3 : ∀ (l1 l2 : Int32) (u : Mem), k3 l1 l2 u = some u' → FrL [34, 35] u u') (l1 l2 : Int32) (u : Mem) (h : FX6_add_34_b3 k3 l1 l2 u = some u') : FrL [34, 35] u u' := by
  unfold FX6_add_34_b3 at h
  rcases io h with ⟨c1, h⟩ | ⟨c1, h⟩
  · skip
    cases h
    exact fr_refl _ _
  · skip
    rcases io h with ⟨c2, h⟩ | ⟨c2, h⟩
    · skip
      exact fbX6_add_34_50 hk3 l1 l2 u h
    · skip
      rcases io h with ⟨c3, h⟩ | ⟨c3, h⟩
      · skip
        exact fbX6_add_34_50 hk3 l1 l2 u h
      · skip
        obtain ⟨u4, gu4, h⟩ := o_bind h
        refine ft (fr_wr rfl gu4) ?_
        obtain ⟨u5, gu5, h⟩ := o_bind h
        refine ft (fr_upd rfl gu5) ?_
        exact fbX6_add_34_50 hk3 l1 l2 u5 h
theorem flX6_add_34_3 {u' : Mem} : ∀ (n : Nat) (l1 l2 : Int32) (u : Mem), FX6_add_34_L3 n l1 l2 u = some u' → FrL [34, 35] u u' := by
  intro n
  induction n with
  | zero =>
    intro l1 l2 u h
    exact nn_ h
  | succ n ih =>
    intro l1 l2 u h
    exact fbX6_add_34_3 ih l1 l2 u h
theorem frX6_add_34 (p1 : Int32) (u : Mem) {u' : Mem} (h : FX6_add_34 p1 u = some u') : FrL [34, 35] u u' := by
  unfold FX6_add_34 at h
  exact flX6_add_34_3 FU p1 24 u h
theorem frX11_feed_0 (p1 p2 p3 p4 p5 : Int32) (u : Mem) {v : Int32} {u' : Mem} (h : FX11_feed_0 p1 p2 p3 p4 p5 u = some (v, u')) : FrL [34, 35] u u' := by
  unfold FX11_feed_0 at h
  obtain ⟨x1, gx1, h⟩ := o_bind h
  rcases oi h with ⟨c2, h⟩ | ⟨c2, h⟩
  · skip
    obtain ⟨u4, gu4, h⟩ := o_bind h
    refine ft (fr_mono rfl (frX6_add_34 p1 u gu4)) ?_
    obtain ⟨u6, gu6, h⟩ := o_bind h
    refine ft (fr_mono rfl (frX6_add_34 p2 u4 gu6)) ?_
    obtain ⟨u8, gu8, h⟩ := o_bind h
    refine ft (fr_mono rfl (frX6_add_34 p3 u6 gu8)) ?_
    obtain ⟨u10, gu10, h⟩ := o_bind h
    refine ft (fr_mono rfl (frX6_add_34 p4 u8 gu10)) ?_
    obtain ⟨u12, gu12, h⟩ := o_bind h
    refine ft (fr_mono rfl (frX6_add_34 p5 u10 gu12)) ?_
    cases h
    exact fr_refl _ _
  · skip
    cases h
    exact fr_refl _ _
theorem fbX12_feed_146_71 {v : Int32} {u' : Mem} {k18 : Int32 → Int32 → Int32 → Int32 → Int32 → Int32 → Mem → Option (Int32 × Mem)} (hk18 : ∀ (l1 l2 l3 l4 l5 l6 : Int32) (u : Mem), k18 l1 l2 l3 l4 l5 l6 u = some (v, u') → FrL [146, 154] u u') (l1 l2 l3 l4 l5 l6 t0 : Int32) (u : Mem) (h : FX12_feed_146_b71 k18 l1 l2 l3 l4 l5 l6 t0 u = some (v, u')) : FrL [146, 154] u u' := by
  unfold FX12_feed_146_b71 at h
  obtain ⟨x1, gx1, h⟩ := o_bind h
  obtain ⟨u2, gu2, h⟩ := o_bind h
  refine ft (fr_wr rfl gu2) ?_
  obtain ⟨u3, gu3, h⟩ := o_bind h
  refine ft (fr_upd rfl gu3) ?_
  exact hk18 l1 l2 l3 l4 l5 (l6 + 1) u3 h
theorem fbX12_feed_146_18 {v : Int32} {u' : Mem} {k18 : Int32 → Int32 → Int32 → Int32 → Int32 → Int32 → Mem → Option (Int32 × Mem)} (hk18 : ∀ (l1 l2 l3 l4 l5 l6 : Int32) (u : Mem), k18 l1 l2 l3 l4 l5 l6 u = some (v, u') → FrL [146, 154] u u') (l1 l2 l3 l4 l5 l6 : Int32) (u : Mem) (h : FX12_feed_146_b18 k18 l1 l2 l3 l4 l5 l6 u = some (v, u')) : FrL [146, 154] u u' := by
  unfold FX12_feed_146_b18 at h
  rcases io h with ⟨c1, h⟩ | ⟨c1, h⟩
  · skip
    cases h
    exact fr_refl _ _
  · skip
    rcases io h with ⟨c2, h⟩ | ⟨c2, h⟩
    · skip
      rcases io h with ⟨c3, h⟩ | ⟨c3, h⟩
      · skip
        rcases io h with ⟨c4, h⟩ | ⟨c4, h⟩
        · skip
          rcases io h with ⟨c5, h⟩ | ⟨c5, h⟩
          · skip
            exact fbX12_feed_146_71 hk18 l1 l2 l3 l4 l5 l6 l5 u h
          · skip
            exact fbX12_feed_146_71 hk18 l1 l2 l3 l4 l5 l6 l4 u h
        · skip
          exact fbX12_feed_146_71 hk18 l1 l2 l3 l4 l5 l6 l3 u h
      · skip
        exact fbX12_feed_146_71 hk18 l1 l2 l3 l4 l5 l6 l2 u h
    · skip
      exact fbX12_feed_146_71 hk18 l1 l2 l3 l4 l5 l6 l1 u h
theorem flX12_feed_146_18 {v : Int32} {u' : Mem} : ∀ (n : Nat) (l1 l2 l3 l4 l5 l6 : Int32) (u : Mem), FX12_feed_146_L18 n l1 l2 l3 l4 l5 l6 u = some (v, u') → FrL [146, 154] u u' := by
  intro n
  induction n with
  | zero =>
    intro l1 l2 l3 l4 l5 l6 u h
    exact nn_ h
  | succ n ih =>
    intro l1 l2 l3 l4 l5 l6 u h
    exact fbX12_feed_146_18 ih l1 l2 l3 l4 l5 l6 u h
theorem frX12_feed_146 (p1 p2 p3 p4 p5 : Int32) (u : Mem) {v : Int32} {u' : Mem} (h : FX12_feed_146 p1 p2 p3 p4 p5 u = some (v, u')) : FrL [146, 154] u u' := by
  unfold FX12_feed_146 at h
  rcases io h with ⟨c1, h⟩ | ⟨c1, h⟩
  · skip
    exact flX12_feed_146_18 FU p1 p2 p3 p4 p5 0 u h
  · skip
    cases h
    exact fr_refl _ _
theorem frX11_end_0 (p1 : Int32) (u : Mem) {v : Int32} {u' : Mem} (h : FX11_end_0 p1 u = some (v, u')) : FrL [34] u u' := by
  unfold FX11_end_0 at h
  rcases io h with ⟨c1, h⟩ | ⟨c1, h⟩
  · skip
    cases h
    exact fr_refl _ _
  · skip
    rcases io h with ⟨c2, h⟩ | ⟨c2, h⟩
    · skip
      obtain ⟨u3, gu3, h⟩ := o_bind h
      refine ft (fr_upd rfl gu3) ?_
      cases h
      exact fr_refl _ _
    · skip
      cases h
      exact fr_refl _ _
theorem frX12_end_146 (p1 : Int32) (u : Mem) {v : Int32} {u' : Mem} (h : FX12_end_146 p1 u = some (v, u')) : FrL [146] u u' := by
  unfold FX12_end_146 at h
  obtain ⟨x1, gx1, h⟩ := o_bind h
  rcases oi h with ⟨c2, h⟩ | ⟨c2, h⟩
  · skip
    obtain ⟨u3, gu3, h⟩ := o_bind h
    refine ft (fr_upd rfl gu3) ?_
    cases h
    exact fr_refl _ _
  · skip
    cases h
    exact fr_refl _ _
theorem frX6_token_34 (p1 p2 p3 : Int32) (u : Mem) {u' : Mem} (h : FX6_token_34 p1 p2 p3 u = some u') : FrL [34, 36, 37, 38] u u' := by
  unfold FX6_token_34 at h
  rcases io h with ⟨c1, h⟩ | ⟨c1, h⟩
  · skip
    cases h
    exact fr_refl _ _
  · skip
    rcases io h with ⟨c2, h⟩ | ⟨c2, h⟩
    · skip
      cases h
      exact fr_refl _ _
    · skip
      obtain ⟨u3, gu3, h⟩ := o_bind h
      refine ft (fr_wr rfl gu3) ?_
      obtain ⟨u4, gu4, h⟩ := o_bind h
      refine ft (fr_wr rfl gu4) ?_
      obtain ⟨u5, gu5, h⟩ := o_bind h
      refine ft (fr_wr rfl gu5) ?_
      obtain ⟨u6, gu6, h⟩ := o_bind h
      refine ft (fr_upd rfl gu6) ?_
      cases h
      exact fr_refl _ _
theorem fbX6_cut_34_177 {u' : Mem} (l1 : Int32) (u : Mem) (h : FX6_cut_34_b177 l1 u = some u') : FrL [34, 36, 37, 38] u u' := by
  unfold FX6_cut_34_b177 at h
  obtain ⟨u2, gu2, h⟩ := o_bind h
  refine ft (fr_mono rfl (frX6_token_34 0 l1 0 u gu2)) ?_
  cases h
  exact fr_refl _ _
theorem fbX6_cut_34_168 {u' : Mem} {k10 : Int32 → Int32 → Int32 → Int32 → Mem → Option Mem} (hk10 : ∀ (l1 l2 l3 l4 : Int32) (u : Mem), k10 l1 l2 l3 l4 u = some u' → FrL [34, 36, 37, 38] u u') (l1 l2 l4 l6 : Int32) (u : Mem) (h : FX6_cut_34_b168 k10 l1 l2 l4 l6 u = some u') : FrL [34, 36, 37, 38] u u' := by
  unfold FX6_cut_34_b168 at h
  exact hk10 l1 l2 l6 (l4 + 1) u h
theorem fbX6_cut_34_163 {u' : Mem} {k10 : Int32 → Int32 → Int32 → Int32 → Mem → Option Mem} (hk10 : ∀ (l1 l2 l3 l4 : Int32) (u : Mem), k10 l1 l2 l3 l4 u = some u' → FrL [34, 36, 37, 38] u u') (l1 l2 l3 l4 l6 t1 : Int32) (u : Mem) (h : FX6_cut_34_b163 k10 l1 l2 l3 l4 l6 t1 u = some u') : FrL [34, 36, 37, 38] u u' := by
  unfold FX6_cut_34_b163 at h
  obtain ⟨u2, gu2, h⟩ := o_bind h
  refine ft (fr_mono rfl (frX6_token_34 t1 l3 0 u gu2)) ?_
  exact fbX6_cut_34_168 hk10 l1 l2 l4 l6 u2 h
theorem fbX6_cut_34_117 {u' : Mem} {k10 : Int32 → Int32 → Int32 → Int32 → Mem → Option Mem} (hk10 : ∀ (l1 l2 l3 l4 : Int32) (u : Mem), k10 l1 l2 l3 l4 u = some u' → FrL [34, 36, 37, 38] u u') (l1 l2 l3 l4 l6 t1 : Int32) (u : Mem) (h : FX6_cut_34_b117 k10 l1 l2 l3 l4 l6 t1 u = some u') : FrL [34, 36, 37, 38] u u' := by
  unfold FX6_cut_34_b117 at h
  obtain ⟨x1, gx1, h⟩ := o_bind h
  obtain ⟨u3, gu3, h⟩ := o_bind h
  refine ft (fr_mono rfl (frX6_token_34 t1 l3 x1 u gu3)) ?_
  exact fbX6_cut_34_168 hk10 l1 l2 l4 l6 u3 h
theorem fbX6_cut_34_10 {u' : Mem} {k10 : Int32 → Int32 → Int32 → Int32 → Mem → Option Mem} (hk10 : ∀ (l1 l2 l3 l4 : Int32) (u : Mem), k10 l1 l2 l3 l4 u = some u' → FrL [34, 36, 37, 38] u u') (l1 l2 l3 l4 : Int32) (u : Mem) (h : FX6_cut_34_b10 k10 l1 l2 l3 l4 u = some u') : FrL [34, 36, 37, 38] u u' := by
  unfold FX6_cut_34_b10 at h
  rcases io h with ⟨c1, h⟩ | ⟨c1, h⟩
  · skip
    exact fbX6_cut_34_177 l1 u h
  · skip
    rcases io h with ⟨c2, h⟩ | ⟨c2, h⟩
    · skip
      exact fbX6_cut_34_177 l1 u h
    · skip
      rcases io h with ⟨c3, h⟩ | ⟨c3, h⟩
      · skip
        exact fbX6_cut_34_177 l1 u h
      · skip
        rcases io h with ⟨c4, h⟩ | ⟨c4, h⟩
        · skip
          exact fbX6_cut_34_177 l1 u h
        · skip
          obtain ⟨x5, gx5, h⟩ := o_bind h
          obtain ⟨x6, gx6, h⟩ := o_bind h
          rcases io h with ⟨c7, h⟩ | ⟨c7, h⟩
          · skip
            obtain ⟨x8, gx8, h⟩ := o_bind h
            rcases io h with ⟨c9, h⟩ | ⟨c9, h⟩
            · skip
              rcases io h with ⟨c10, h⟩ | ⟨c10, h⟩
              · skip
                exact fbX6_cut_34_168 hk10 l1 l2 l4 (l3 + 1) u h
              · skip
                rcases io h with ⟨c11, h⟩ | ⟨c11, h⟩
                · skip
                  exact fbX6_cut_34_168 hk10 l1 l2 l4 (l3 + 1) u h
                · skip
                  obtain ⟨x12, gx12, h⟩ := o_bind h
                  rcases io h with ⟨c13, h⟩ | ⟨c13, h⟩
                  · skip
                    exact fbX6_cut_34_163 hk10 l1 l2 l3 l4 (l3 + 1) 2 u h
                  · skip
                    exact fbX6_cut_34_163 hk10 l1 l2 l3 l4 (l3 + 1) x5 u h
            · skip
              obtain ⟨x14, gx14, h⟩ := o_bind h
              rcases io h with ⟨c15, h⟩ | ⟨c15, h⟩
              · skip
                exact fbX6_cut_34_117 hk10 l1 l2 l3 l4 x14 2 u h
              · skip
                exact fbX6_cut_34_117 hk10 l1 l2 l3 l4 x14 1 u h
          · skip
            obtain ⟨x16, gx16, h⟩ := o_bind h
            obtain ⟨x17, gx17, h⟩ := o_bind h
            by_cases c18 : x17 = 2000000
            · have h := it h c18
              subst c18
              obtain ⟨x19, gx19, h⟩ := o_bind h
              obtain ⟨u21, gu21, h⟩ := o_bind h
              refine ft (fr_mono rfl (frX6_token_34 (256 + x19) l3 0 u gu21)) ?_
              exact fbX6_cut_34_168 hk10 l1 l2 l4 x16 u21 h
            · have h := ie h c18
              by_cases c22 : x17 = 2000001
              · have h := it h c22
                subst c22
                obtain ⟨x23, gx23, h⟩ := o_bind h
                obtain ⟨u25, gu25, h⟩ := o_bind h
                refine ft (fr_mono rfl (frX6_token_34 (256 + x23) l3 0 u gu25)) ?_
                exact fbX6_cut_34_168 hk10 l1 l2 l4 x16 u25 h
              · have h := ie h c22
                by_cases c26 : x17 = 2000002
                · have h := it h c26
                  subst c26
                  obtain ⟨x27, gx27, h⟩ := o_bind h
                  obtain ⟨u29, gu29, h⟩ := o_bind h
                  refine ft (fr_mono rfl (frX6_token_34 (256 + x27) l3 0 u gu29)) ?_
                  exact fbX6_cut_34_168 hk10 l1 l2 l4 x16 u29 h
                · have h := ie h c26
                  by_cases c30 : x17 = 2000003
                  · have h := it h c30
                    subst c30
                    obtain ⟨x31, gx31, h⟩ := o_bind h
                    obtain ⟨u33, gu33, h⟩ := o_bind h
                    refine ft (fr_mono rfl (frX6_token_34 (256 + x31) l3 0 u gu33)) ?_
                    exact fbX6_cut_34_168 hk10 l1 l2 l4 x16 u33 h
                  · have h := ie h c30
                    cases h
theorem flX6_cut_34_10 {u' : Mem} : ∀ (n : Nat) (l1 l2 l3 l4 : Int32) (u : Mem), FX6_cut_34_L10 n l1 l2 l3 l4 u = some u' → FrL [34, 36, 37, 38] u u' := by
  intro n
  induction n with
  | zero =>
    intro l1 l2 l3 l4 u h
    exact nn_ h
  | succ n ih =>
    intro l1 l2 l3 l4 u h
    exact fbX6_cut_34_10 ih l1 l2 l3 l4 u h
theorem frX6_cut_34 (p1 p2 : Int32) (u : Mem) {u' : Mem} (h : FX6_cut_34 p1 p2 u = some u') : FrL [34, 36, 37, 38] u u' := by
  unfold FX6_cut_34 at h
  obtain ⟨u1, gu1, h⟩ := o_bind h
  refine ft (fr_upd rfl gu1) ?_
  exact flX6_cut_34_10 FU p1 p2 0 0 u1 h
theorem fbX6_go_34_49 {u' : Mem} (t1 : Int32) (u : Mem) (h : FX6_go_34_b49 t1 u = some u') : FrL [34] u u' := by
  unfold FX6_go_34_b49 at h
  obtain ⟨u1, gu1, h⟩ := o_bind h
  refine ft (fr_upd rfl gu1) ?_
  cases h
  exact fr_refl _ _
theorem frX6_go_34 (p1 : Int32) (u : Mem) {u' : Mem} (h : FX6_go_34 p1 u = some u') : FrL [34] u u' := by
  unfold FX6_go_34 at h
  obtain ⟨u1, gu1, h⟩ := o_bind h
  refine ft (fr_upd rfl gu1) ?_
  rcases io h with ⟨c2, h⟩ | ⟨c2, h⟩
  · skip
    exact fbX6_go_34_49 0 u1 h
  · skip
    rcases io h with ⟨c3, h⟩ | ⟨c3, h⟩
    · skip
      exact fbX6_go_34_49 0 u1 h
    · skip
      rcases io h with ⟨c4, h⟩ | ⟨c4, h⟩
      · skip
        exact fbX6_go_34_49 0 u1 h
      · skip
        obtain ⟨x5, gx5, h⟩ := o_bind h
        exact fbX6_go_34_49 x5 u1 h
theorem frX4_clear_39 (u : Mem) {u' : Mem} (h : FX4_clear_39 u = some u') : FrL [39] u u' := by
  unfold FX4_clear_39 at h
  obtain ⟨u1, gu1, h⟩ := o_bind h
  refine ft (fr_upd rfl gu1) ?_
  obtain ⟨u2, gu2, h⟩ := o_bind h
  refine ft (fr_upd rfl gu2) ?_
  cases h
  exact fr_refl _ _
theorem fbJ7_fill_53178_50_5 {u' : Mem} {k5 : Int32 → Int32 → Int32 → Mem → Option Mem} (hk5 : ∀ (l1 l2 l3 : Int32) (u : Mem), k5 l1 l2 l3 u = some u' → FrL [50] u u') (l1 l2 l3 : Int32) (u : Mem) (h : FJ7_fill_53178_50_b5 k5 l1 l2 l3 u = some u') : FrL [50] u u' := by
  unfold FJ7_fill_53178_50_b5 at h
  rcases io h with ⟨c1, h⟩ | ⟨c1, h⟩
  · skip
    cases h
    exact fr_refl _ _
  · skip
    obtain ⟨u2, gu2, h⟩ := o_bind h
    refine ft (fr_wr rfl gu2) ?_
    exact hk5 l1 (l2 + 1) l3 u2 h
theorem flJ7_fill_53178_50_5 {u' : Mem} : ∀ (n : Nat) (l1 l2 l3 : Int32) (u : Mem), FJ7_fill_53178_50_L5 n l1 l2 l3 u = some u' → FrL [50] u u' := by
  intro n
  induction n with
  | zero =>
    intro l1 l2 l3 u h
    exact nn_ h
  | succ n ih =>
    intro l1 l2 l3 u h
    exact fbJ7_fill_53178_50_5 ih l1 l2 l3 u h
theorem frJ7_fill_53178_50 (p1 : Int32) (u : Mem) {u' : Mem} (h : FJ7_fill_53178_50 p1 u = some u') : FrL [50] u u' := by
  unfold FJ7_fill_53178_50 at h
  exact flJ7_fill_53178_50_5 FU p1 0 12 u h
theorem fbJ7_fill_53178_51_5 {u' : Mem} {k5 : Int32 → Int32 → Int32 → Mem → Option Mem} (hk5 : ∀ (l1 l2 l3 : Int32) (u : Mem), k5 l1 l2 l3 u = some u' → FrL [51] u u') (l1 l2 l3 : Int32) (u : Mem) (h : FJ7_fill_53178_51_b5 k5 l1 l2 l3 u = some u') : FrL [51] u u' := by
  unfold FJ7_fill_53178_51_b5 at h
  rcases io h with ⟨c1, h⟩ | ⟨c1, h⟩
  · skip
    cases h
    exact fr_refl _ _
  · skip
    obtain ⟨u2, gu2, h⟩ := o_bind h
    refine ft (fr_wr rfl gu2) ?_
    exact hk5 l1 (l2 + 1) l3 u2 h
theorem flJ7_fill_53178_51_5 {u' : Mem} : ∀ (n : Nat) (l1 l2 l3 : Int32) (u : Mem), FJ7_fill_53178_51_L5 n l1 l2 l3 u = some u' → FrL [51] u u' := by
  intro n
  induction n with
  | zero =>
    intro l1 l2 l3 u h
    exact nn_ h
  | succ n ih =>
    intro l1 l2 l3 u h
    exact fbJ7_fill_53178_51_5 ih l1 l2 l3 u h
theorem frJ7_fill_53178_51 (p1 : Int32) (u : Mem) {u' : Mem} (h : FJ7_fill_53178_51 p1 u = some u') : FrL [51] u u' := by
  unfold FJ7_fill_53178_51 at h
  exact flJ7_fill_53178_51_5 FU p1 0 8 u h
theorem frX6_clear_34 (u : Mem) {u' : Mem} (h : FX6_clear_34 u = some u') : FrL [34, 39, 46, 50, 51] u u' := by
  unfold FX6_clear_34 at h
  obtain ⟨u2, gu2, h⟩ := o_bind h
  refine ft (fr_mono rfl (frX6_go_34 0 u gu2)) ?_
  obtain ⟨u3, gu3, h⟩ := o_bind h
  refine ft (fr_upd rfl gu3) ?_
  obtain ⟨u5, gu5, h⟩ := o_bind h
  refine ft (fr_mono rfl (frX4_clear_39 u3 gu5)) ?_
  obtain ⟨u6, gu6, h⟩ := o_bind h
  refine ft (fr_upd rfl gu6) ?_
  obtain ⟨u8, gu8, h⟩ := o_bind h
  refine ft (fr_mono rfl (frJ7_fill_53178_50 0 u6 gu8)) ?_
  obtain ⟨u10, gu10, h⟩ := o_bind h
  refine ft (fr_mono rfl (frJ7_fill_53178_51 1 u8 gu10)) ?_
  cases h
  exact fr_refl _ _
theorem fbX6_fail_34_45 {u' : Mem} (t1 : Int32) (u : Mem) (h : FX6_fail_34_b45 t1 u = some u') : FrL [34] u u' := by
  unfold FX6_fail_34_b45 at h
  obtain ⟨u1, gu1, h⟩ := o_bind h
  refine ft (fr_upd rfl gu1) ?_
  obtain ⟨u2, gu2, h⟩ := o_bind h
  refine ft (fr_upd rfl gu2) ?_
  cases h
  exact fr_refl _ _
theorem frX6_fail_34 (p1 : Int32) (u : Mem) {u' : Mem} (h : FX6_fail_34 p1 u = some u') : FrL [34] u u' := by
  unfold FX6_fail_34 at h
  rcases oi h with ⟨c1, h⟩ | ⟨c1, h⟩
  · skip
    cases h
    exact fr_refl _ _
  · skip
    obtain ⟨u2, gu2, h⟩ := o_bind h
    refine ft (fr_upd rfl gu2) ?_
    rcases io h with ⟨c3, h⟩ | ⟨c3, h⟩
    · skip
      exact fbX6_fail_34_45 (-1) u2 h
    · skip
      rcases io h with ⟨c4, h⟩ | ⟨c4, h⟩
      · skip
        exact fbX6_fail_34_45 (-1) u2 h
      · skip
        obtain ⟨x5, gx5, h⟩ := o_bind h
        exact fbX6_fail_34_45 x5 u2 h
theorem frX6_take_34 (p1 : Int32) (u : Mem) {v : Int32} {u' : Mem} (h : FX6_take_34 p1 u = some (v, u')) : FrL [34] u u' := by
  unfold FX6_take_34 at h
  rcases io h with ⟨c1, h⟩ | ⟨c1, h⟩
  · skip
    obtain ⟨u3, gu3, h⟩ := o_bind h
    refine ft (fr_mono rfl (frX6_go_34 ((u 34 9) + 1) u gu3)) ?_
    cases h
    exact fr_refl _ _
  · skip
    cases h
    exact fr_refl _ _
theorem frX6_need_34 (p1 : Int32) (u : Mem) {u' : Mem} (h : FX6_need_34 p1 u = some u') : FrL [34] u u' := by
  unfold FX6_need_34 at h
  obtain ⟨x1, u2, gx1, h⟩ := o_bnd2 h
  refine ft (fr_mono rfl (frX6_take_34 p1 u gx1)) ?_
  rcases oi h with ⟨c3, h⟩ | ⟨c3, h⟩
  · skip
    cases h
    exact fr_refl _ _
  · skip
    obtain ⟨u5, gu5, h⟩ := o_bind h
    refine ft (fr_mono rfl (frX6_fail_34 1 u2 gu5)) ?_
    cases h
    exact fr_refl _ _
theorem fbX6_beginLine_34_25 {u' : Mem} (l1 : Int32) (u : Mem) (h : FX6_beginLine_34_b25 l1 u = some u') : FrL [34] u u' := by
  unfold FX6_beginLine_34_b25 at h
  obtain ⟨u2, gu2, h⟩ := o_bind h
  refine ft (fr_mono rfl (frX6_need_34 l1 u gu2)) ?_
  cases h
  exact fr_refl _ _
theorem frX6_beginLine_34 (p1 : Int32) (u : Mem) {u' : Mem} (h : FX6_beginLine_34 p1 u = some u') : FrL [34] u u' := by
  unfold FX6_beginLine_34 at h
  rcases oi h with ⟨c1, h⟩ | ⟨c1, h⟩
  · skip
    exact fbX6_beginLine_34_25 p1 u h
  · skip
    rcases oi h with ⟨c2, h⟩ | ⟨c2, h⟩
    · skip
      exact fbX6_beginLine_34_25 p1 u h
    · skip
      obtain ⟨u4, gu4, h⟩ := o_bind h
      refine ft (fr_mono rfl (frX6_fail_34 3 u gu4)) ?_
      cases h
      exact fr_refl _ _
theorem frX4_beginLine_39 (p1 : Int32) (u : Mem) {u' : Mem} (h : FX4_beginLine_39 p1 u = some u') : FrL [41, 42] u u' := by
  unfold FX4_beginLine_39 at h
  rcases io h with ⟨c1, h⟩ | ⟨c1, h⟩
  · skip
    cases h
    exact fr_refl _ _
  · skip
    rcases io h with ⟨c2, h⟩ | ⟨c2, h⟩
    · skip
      cases h
      exact fr_refl _ _
    · skip
      obtain ⟨u3, gu3, h⟩ := o_bind h
      refine ft (fr_wr rfl gu3) ?_
      obtain ⟨u4, gu4, h⟩ := o_bind h
      refine ft (fr_wr rfl gu4) ?_
      cases h
      exact fr_refl _ _
theorem frX4_put_39 (p1 : Int32) (u : Mem) {u' : Mem} (h : FX4_put_39 p1 u = some u') : FrL [39, 40] u u' := by
  unfold FX4_put_39 at h
  rcases io h with ⟨c1, h⟩ | ⟨c1, h⟩
  · skip
    cases h
    exact fr_refl _ _
  · skip
    rcases io h with ⟨c2, h⟩ | ⟨c2, h⟩
    · skip
      cases h
      exact fr_refl _ _
    · skip
      obtain ⟨u3, gu3, h⟩ := o_bind h
      refine ft (fr_wr rfl gu3) ?_
      obtain ⟨u4, gu4, h⟩ := o_bind h
      refine ft (fr_upd rfl gu4) ?_
      cases h
      exact fr_refl _ _
theorem fbX6_unit_34_98 {u' : Mem} (u : Mem) (h : FX6_unit_34_b98 u = some u') : FrL [34, 39, 40] u u' := by
  unfold FX6_unit_34_b98 at h
  obtain ⟨u2, gu2, h⟩ := o_bind h
  refine ft (fr_mono rfl (frX6_fail_34 1 u gu2)) ?_
  cases h
  exact fr_refl _ _
theorem fbX6_unit_34_42 {u' : Mem} (u : Mem) (h : FX6_unit_34_b42 u = some u') : FrL [34, 39, 40] u u' := by
  unfold FX6_unit_34_b42 at h
  rcases oi h with ⟨c1, h⟩ | ⟨c1, h⟩
  · skip
    exact fbX6_unit_34_98 u h
  · skip
    rcases io h with ⟨c2, h⟩ | ⟨c2, h⟩
    · skip
      exact fbX6_unit_34_98 u h
    · skip
      rcases io h with ⟨c3, h⟩ | ⟨c3, h⟩
      · skip
        exact fbX6_unit_34_98 u h
      · skip
        obtain ⟨x4, gx4, h⟩ := o_bind h
        obtain ⟨u6, gu6, h⟩ := o_bind h
        refine ft (fr_mono rfl (frX4_put_39 x4 u gu6)) ?_
        obtain ⟨u8, gu8, h⟩ := o_bind h
        refine ft (fr_mono rfl (frX6_go_34 ((u6 34 9) + 1) u6 gu8)) ?_
        cases h
        exact fr_refl _ _
theorem frX6_unit_34 (u : Mem) {u' : Mem} (h : FX6_unit_34 u = some u') : FrL [34, 39, 40] u u' := by
  unfold FX6_unit_34 at h
  rcases io h with ⟨c1, h⟩ | ⟨c1, h⟩
  · skip
    exact fbX6_unit_34_42 u h
  · skip
    rcases io h with ⟨c2, h⟩ | ⟨c2, h⟩
    · skip
      exact fbX6_unit_34_42 u h
    · skip
      obtain ⟨u4, gu4, h⟩ := o_bind h
      refine ft (fr_mono rfl (frX4_put_39 ((-1) - ((u 34 10) - 264)) u gu4)) ?_
      obtain ⟨u6, gu6, h⟩ := o_bind h
      refine ft (fr_mono rfl (frX6_go_34 ((u4 34 9) + 1) u4 gu6)) ?_
      cases h
      exact fr_refl _ _
theorem fbX6_number_34_54 {v : Int32} {u' : Mem} (u : Mem) (h : FX6_number_34_b54 u = some (v, u')) : FrL [34] u u' := by
  unfold FX6_number_34_b54 at h
  obtain ⟨u2, gu2, h⟩ := o_bind h
  refine ft (fr_mono rfl (frX6_fail_34 2 u gu2)) ?_
  cases h
  exact fr_refl _ _
theorem fbX6_number_34_27 {v : Int32} {u' : Mem} (u : Mem) (h : FX6_number_34_b27 u = some (v, u')) : FrL [34] u u' := by
  unfold FX6_number_34_b27 at h
  obtain ⟨u2, gu2, h⟩ := o_bind h
  refine ft (fr_mono rfl (frX6_fail_34 1 u gu2)) ?_
  cases h
  exact fr_refl _ _
theorem frX6_number_34 (p1 p2 : Int32) (u : Mem) {v : Int32} {u' : Mem} (h : FX6_number_34 p1 p2 u = some (v, u')) : FrL [34] u u' := by
  unfold FX6_number_34 at h
  rcases oi h with ⟨c1, h⟩ | ⟨c1, h⟩
  · skip
    exact fbX6_number_34_27 u h
  · skip
    rcases io h with ⟨c2, h⟩ | ⟨c2, h⟩
    · skip
      exact fbX6_number_34_27 u h
    · skip
      rcases io h with ⟨c3, h⟩ | ⟨c3, h⟩
      · skip
        obtain ⟨x4, gx4, h⟩ := o_bind h
        rcases io h with ⟨c5, h⟩ | ⟨c5, h⟩
        · skip
          exact fbX6_number_34_54 u h
        · skip
          rcases oi h with ⟨c6, h⟩ | ⟨c6, h⟩
          · skip
            obtain ⟨u8, gu8, h⟩ := o_bind h
            refine ft (fr_mono rfl (frX6_go_34 ((u 34 9) + 1) u gu8)) ?_
            cases h
            exact fr_refl _ _
          · skip
            exact fbX6_number_34_54 u h
      · skip
        exact fbX6_number_34_27 u h
theorem fbX6_sum_34_171 {u' : Mem} {k6 : Int32 → Int32 → Int32 → Mem → Option Mem} (hk6 : ∀ (l1 l2 l3 : Int32) (u : Mem), k6 l1 l2 l3 u = some u' → FrL [34, 39, 40] u u') (l1 l3 t0 : Int32) (u : Mem) (h : FX6_sum_34_b171 k6 l1 l3 t0 u = some u') : FrL [34, 39, 40] u u' := by
  unfold FX6_sum_34_b171 at h
  exact hk6 l1 t0 (l3 + 1) u h
theorem fbX6_sum_34_147 {u' : Mem} {k6 : Int32 → Int32 → Int32 → Mem → Option Mem} (hk6 : ∀ (l1 l2 l3 : Int32) (u : Mem), k6 l1 l2 l3 u = some u' → FrL [34, 39, 40] u u') (l3 t0 : Int32) (u : Mem) (h : FX6_sum_34_b147 k6 l3 t0 u = some u') : FrL [34, 39, 40] u u' := by
  unfold FX6_sum_34_b147 at h
  obtain ⟨x1, u2, gx1, h⟩ := o_bnd2 h
  refine ft (fr_mono rfl (frX6_take_34 43 u gx1)) ?_
  rcases oi h with ⟨c3, h⟩ | ⟨c3, h⟩
  · skip
    exact fbX6_sum_34_171 hk6 t0 l3 1 u2 h
  · skip
    obtain ⟨x4, u5, gx4, h⟩ := o_bnd2 h
    refine ft (fr_mono rfl (frX6_take_34 45 u2 gx4)) ?_
    rcases io h with ⟨c6, h⟩ | ⟨c6, h⟩
    · skip
      exact fbX6_sum_34_171 hk6 t0 l3 0 u5 h
    · skip
      exact fbX6_sum_34_171 hk6 t0 l3 1 u5 h
theorem fbX6_sum_34_131 {u' : Mem} {k6 : Int32 → Int32 → Int32 → Mem → Option Mem} (hk6 : ∀ (l1 l2 l3 : Int32) (u : Mem), k6 l1 l2 l3 u = some u' → FrL [34, 39, 40] u u') (l3 : Int32) (u : Mem) (h : FX6_sum_34_b131 k6 l3 u = some u') : FrL [34, 39, 40] u u' := by
  unfold FX6_sum_34_b131 at h
  rcases oi h with ⟨c1, h⟩ | ⟨c1, h⟩
  · skip
    exact fbX6_sum_34_147 hk6 l3 (-11) u h
  · skip
    exact fbX6_sum_34_147 hk6 l3 (-10) u h
theorem fbX6_sum_34_119 {u' : Mem} {k6 : Int32 → Int32 → Int32 → Mem → Option Mem} (hk6 : ∀ (l1 l2 l3 : Int32) (u : Mem), k6 l1 l2 l3 u = some u' → FrL [34, 39, 40] u u') (l1 l3 : Int32) (u : Mem) (h : FX6_sum_34_b119 k6 l1 l3 u = some u') : FrL [34, 39, 40] u u' := by
  unfold FX6_sum_34_b119 at h
  rcases io h with ⟨c1, h⟩ | ⟨c1, h⟩
  · skip
    exact fbX6_sum_34_131 hk6 l3 u h
  · skip
    obtain ⟨u3, gu3, h⟩ := o_bind h
    refine ft (fr_mono rfl (frX4_put_39 l1 u gu3)) ?_
    exact fbX6_sum_34_131 hk6 l3 u3 h
theorem fbX6_sum_34_113 {u' : Mem} {k24 : Int32 → Int32 → Int32 → Mem → Option Mem} (hk24 : ∀ (l1 l3 l4 : Int32) (u : Mem), k24 l1 l3 l4 u = some u' → FrL [34, 39, 40] u u') (l1 l3 l4 : Int32) (u : Mem) (h : FX6_sum_34_b113 k24 l1 l3 l4 u = some u') : FrL [34, 39, 40] u u' := by
  unfold FX6_sum_34_b113 at h
  exact hk24 l1 l3 (l4 + 1) u h
theorem fbX6_sum_34_50 {u' : Mem} {k24 : Int32 → Int32 → Int32 → Mem → Option Mem} (hk24 : ∀ (l1 l3 l4 : Int32) (u : Mem), k24 l1 l3 l4 u = some u' → FrL [34, 39, 40] u u') (l1 l3 l4 : Int32) (u : Mem) (h : FX6_sum_34_b50 k24 l1 l3 l4 u = some u') : FrL [34, 39, 40] u u' := by
  unfold FX6_sum_34_b50 at h
  obtain ⟨x1, u2, gx1, h⟩ := o_bnd2 h
  refine ft (fr_mono rfl (frX6_take_34 42 u gx1)) ?_
  rcases io h with ⟨c3, h⟩ | ⟨c3, h⟩
  · skip
    obtain ⟨u5, gu5, h⟩ := o_bind h
    refine ft (fr_mono rfl (frX6_go_34 ((u2 34 9) + 1) u2 gu5)) ?_
    obtain ⟨x6, u7, gx6, h⟩ := o_bnd2 h
    refine ft (fr_mono rfl (frX6_number_34 9999 0 u5 gx6)) ?_
    obtain ⟨u9, gu9, h⟩ := o_bind h
    refine ft (fr_mono rfl (frX4_put_39 (if 0 < x6 then x6 else 0) u7 gu9)) ?_
    obtain ⟨u11, gu11, h⟩ := o_bind h
    refine ft (fr_mono rfl (frX4_put_39 (-13) u9 gu11)) ?_
    exact fbX6_sum_34_113 hk24 l1 l3 l4 u11 h
  · skip
    obtain ⟨u13, gu13, h⟩ := o_bind h
    refine ft (fr_mono rfl (frX6_unit_34 u2 gu13)) ?_
    obtain ⟨u15, gu15, h⟩ := o_bind h
    refine ft (fr_mono rfl (frX4_put_39 (-12) u13 gu15)) ?_
    exact fbX6_sum_34_113 hk24 l1 l3 l4 u15 h
theorem fbX6_sum_34_24 {u' : Mem} {k6 : Int32 → Int32 → Int32 → Mem → Option Mem} (hk6 : ∀ (l1 l2 l3 : Int32) (u : Mem), k6 l1 l2 l3 u = some u' → FrL [34, 39, 40] u u') {k24 : Int32 → Int32 → Int32 → Mem → Option Mem} (hk24 : ∀ (l1 l3 l4 : Int32) (u : Mem), k24 l1 l3 l4 u = some u' → FrL [34, 39, 40] u u') (l1 l3 l4 : Int32) (u : Mem) (h : FX6_sum_34_b24 k6 k24 l1 l3 l4 u = some u') : FrL [34, 39, 40] u u' := by
  unfold FX6_sum_34_b24 at h
  rcases io h with ⟨c1, h⟩ | ⟨c1, h⟩
  · skip
    exact fbX6_sum_34_119 hk6 l1 l3 u h
  · skip
    rcases io h with ⟨c2, h⟩ | ⟨c2, h⟩
    · skip
      exact fbX6_sum_34_50 hk24 l1 l3 l4 u h
    · skip
      rcases oi h with ⟨c3, h⟩ | ⟨c3, h⟩
      · skip
        exact fbX6_sum_34_119 hk6 l1 l3 u h
      · skip
        exact fbX6_sum_34_50 hk24 l1 l3 l4 u h
theorem flX6_sum_34_24 {u' : Mem} {k6 : Int32 → Int32 → Int32 → Mem → Option Mem} (hk6 : ∀ (l1 l2 l3 : Int32) (u : Mem), k6 l1 l2 l3 u = some u' → FrL [34, 39, 40] u u') : ∀ (n : Nat) (l1 l3 l4 : Int32) (u : Mem), FX6_sum_34_L24 k6 n l1 l3 l4 u = some u' → FrL [34, 39, 40] u u' := by
  intro n
  induction n with
  | zero =>
    intro l1 l3 l4 u h
    exact nn_ h
  | succ n ih =>
    intro l1 l3 l4 u h
    exact fbX6_sum_34_24 hk6 ih l1 l3 l4 u h
theorem fbX6_sum_34_6 {u' : Mem} {k6 : Int32 → Int32 → Int32 → Mem → Option Mem} (hk6 : ∀ (l1 l2 l3 : Int32) (u : Mem), k6 l1 l2 l3 u = some u' → FrL [34, 39, 40] u u') (l1 l2 l3 : Int32) (u : Mem) (h : FX6_sum_34_b6 k6 l1 l2 l3 u = some u') : FrL [34, 39, 40] u u' := by
  unfold FX6_sum_34_b6 at h
  rcases io h with ⟨c1, h⟩ | ⟨c1, h⟩
  · skip
    cases h
    exact fr_refl _ _
  · skip
    rcases io h with ⟨c2, h⟩ | ⟨c2, h⟩
    · skip
      cases h
      exact fr_refl _ _
    · skip
      obtain ⟨u4, gu4, h⟩ := o_bind h
      refine ft (fr_mono rfl (frX6_unit_34 u gu4)) ?_
      exact flX6_sum_34_24 hk6 FU l1 l3 0 u4 h
theorem flX6_sum_34_6 {u' : Mem} : ∀ (n : Nat) (l1 l2 l3 : Int32) (u : Mem), FX6_sum_34_L6 n l1 l2 l3 u = some u' → FrL [34, 39, 40] u u' := by
  intro n
  induction n with
  | zero =>
    intro l1 l2 l3 u h
    exact nn_ h
  | succ n ih =>
    intro l1 l2 l3 u h
    exact fbX6_sum_34_6 ih l1 l2 l3 u h
theorem frX6_sum_34 (u : Mem) {u' : Mem} (h : FX6_sum_34 u = some u') : FrL [34, 39, 40] u u' := by
  unfold FX6_sum_34 at h
  exact flX6_sum_34_6 FU 0 1 0 u h
theorem frX4_beginWhen_39 (u : Mem) {u' : Mem} (h : FX4_beginWhen_39 u = some u') : FrL [43] u u' := by
  unfold FX4_beginWhen_39 at h
  rcases io h with ⟨c1, h⟩ | ⟨c1, h⟩
  · skip
    cases h
    exact fr_refl _ _
  · skip
    rcases io h with ⟨c2, h⟩ | ⟨c2, h⟩
    · skip
      cases h
      exact fr_refl _ _
    · skip
      obtain ⟨u3, gu3, h⟩ := o_bind h
      refine ft (fr_wr rfl gu3) ?_
      cases h
      exact fr_refl _ _
theorem fbX6_single_34_168 {u' : Mem} {kc : Int32 → Mem → Option Mem} (hkc : ∀ (a0 : Int32) (w : Mem) {w' : Mem}, kc a0 w = some w' → FrL [34, 39, 40] w w') {k168 : Int32 → Int32 → Mem → Option Mem} (hk168 : ∀ (l2 l3 : Int32) (u : Mem), k168 l2 l3 u = some u' → FrL [34, 39, 40] u u') (l2 l3 : Int32) (u : Mem) (h : FX6_single_34_b168 kc k168 l2 l3 u = some u') : FrL [34, 39, 40] u u' := by
  unfold FX6_single_34_b168 at h
  rcases io h with ⟨c1, h⟩ | ⟨c1, h⟩
  · skip
    cases h
    exact fr_refl _ _
  · skip
    rcases io h with ⟨c2, h⟩ | ⟨c2, h⟩
    · skip
      cases h
      exact fr_refl _ _
    · skip
      obtain ⟨u4, gu4, h⟩ := o_bind h
      refine ft (fr_mono rfl (frX4_put_39 (-19) u gu4)) ?_
      exact hk168 l2 (l3 + 1) u4 h
theorem flX6_single_34_168 {u' : Mem} {kc : Int32 → Mem → Option Mem} (hkc : ∀ (a0 : Int32) (w : Mem) {w' : Mem}, kc a0 w = some w' → FrL [34, 39, 40] w w') : ∀ (n : Nat) (l2 l3 : Int32) (u : Mem), FX6_single_34_L168 kc n l2 l3 u = some u' → FrL [34, 39, 40] u u' := by
  intro n
  induction n with
  | zero =>
    intro l2 l3 u h
    exact nn_ h
  | succ n ih =>
    intro l2 l3 u h
    exact fbX6_single_34_168 hkc ih l2 l3 u h
theorem fbX6_single_34_166 {u' : Mem} {kc : Int32 → Mem → Option Mem} (hkc : ∀ (a0 : Int32) (w : Mem) {w' : Mem}, kc a0 w = some w' → FrL [34, 39, 40] w w') (l2 : Int32) (u : Mem) (h : FX6_single_34_b166 kc l2 u = some u') : FrL [34, 39, 40] u u' := by
  unfold FX6_single_34_b166 at h
  exact flX6_single_34_168 hkc FU l2 0 u h
theorem fbX6_single_34_151 {u' : Mem} {kc : Int32 → Mem → Option Mem} (hkc : ∀ (a0 : Int32) (w : Mem) {w' : Mem}, kc a0 w = some w' → FrL [34, 39, 40] w w') (l2 l3 t1 : Int32) (u : Mem) (h : FX6_single_34_b151 kc l2 l3 t1 u = some u') : FrL [34, 39, 40] u u' := by
  unfold FX6_single_34_b151 at h
  obtain ⟨u2, gu2, h⟩ := o_bind h
  refine ft (fr_mono rfl (frX6_need_34 t1 u gu2)) ?_
  obtain ⟨u4, gu4, h⟩ := o_bind h
  refine ft (fr_mono rfl (frX6_sum_34 u2 gu4)) ?_
  obtain ⟨u6, gu6, h⟩ := o_bind h
  refine ft (fr_mono rfl (frX4_put_39 l3 u4 gu6)) ?_
  exact fbX6_single_34_166 hkc l2 u6 h
theorem fbX6_single_34_142 {u' : Mem} {kc : Int32 → Mem → Option Mem} (hkc : ∀ (a0 : Int32) (w : Mem) {w' : Mem}, kc a0 w = some w' → FrL [34, 39, 40] w w') (l2 l3 : Int32) (u : Mem) (h : FX6_single_34_b142 kc l2 l3 u = some u') : FrL [34, 39, 40] u u' := by
  unfold FX6_single_34_b142 at h
  exact fbX6_single_34_151 hkc l2 l3 (u 34 10) u h
theorem fbX6_single_34_122 {u' : Mem} {kc : Int32 → Mem → Option Mem} (hkc : ∀ (a0 : Int32) (w : Mem) {w' : Mem}, kc a0 w = some w' → FrL [34, 39, 40] w w') (l2 t0 : Int32) (u : Mem) (h : FX6_single_34_b122 kc l2 t0 u = some u') : FrL [34, 39, 40] u u' := by
  unfold FX6_single_34_b122 at h
  rcases io h with ⟨c1, h⟩ | ⟨c1, h⟩
  · skip
    exact fbX6_single_34_142 hkc l2 t0 u h
  · skip
    rcases oi h with ⟨c2, h⟩ | ⟨c2, h⟩
    · skip
      exact fbX6_single_34_151 hkc l2 t0 62 u h
    · skip
      exact fbX6_single_34_142 hkc l2 t0 u h
theorem fbX6_single_34_61 {u' : Mem} {kc : Int32 → Mem → Option Mem} (hkc : ∀ (a0 : Int32) (w : Mem) {w' : Mem}, kc a0 w = some w' → FrL [34, 39, 40] w w') (l1 l2 : Int32) (u : Mem) (h : FX6_single_34_b61 kc l1 l2 u = some u') : FrL [34, 39, 40] u u' := by
  unfold FX6_single_34_b61 at h
  obtain ⟨x1, u2, gx1, h⟩ := o_bnd2 h
  refine ft (fr_mono rfl (frX6_take_34 40 u gx1)) ?_
  rcases io h with ⟨c3, h⟩ | ⟨c3, h⟩
  · skip
    obtain ⟨u5, gu5, h⟩ := o_bind h
    refine ft (fr_mono rfl (frX6_sum_34 u2 gu5)) ?_
    rcases oi h with ⟨c6, h⟩ | ⟨c6, h⟩
    · skip
      rcases oi h with ⟨c7, h⟩ | ⟨c7, h⟩
      · skip
        exact fbX6_single_34_122 hkc l2 (-16) u5 h
      · skip
        exact fbX6_single_34_122 hkc l2 (-15) u5 h
    · skip
      exact fbX6_single_34_122 hkc l2 (-14) u5 h
  · skip
    obtain ⟨u9, gu9, h⟩ := o_bind h
    refine ft (fr_mono rfl (hkc ((l1 + l2) + 1) u2 gu9)) ?_
    obtain ⟨u11, gu11, h⟩ := o_bind h
    refine ft (fr_mono rfl (frX6_need_34 41 u9 gu11)) ?_
    exact fbX6_single_34_166 hkc l2 u11 h
theorem fbX6_single_34_45 {u' : Mem} {kc : Int32 → Mem → Option Mem} (hkc : ∀ (a0 : Int32) (w : Mem) {w' : Mem}, kc a0 w = some w' → FrL [34, 39, 40] w w') (l1 l2 : Int32) (u : Mem) (h : FX6_single_34_b45 kc l1 l2 u = some u') : FrL [34, 39, 40] u u' := by
  unfold FX6_single_34_b45 at h
  rcases io h with ⟨c1, h⟩ | ⟨c1, h⟩
  · skip
    exact fbX6_single_34_61 hkc l1 l2 u h
  · skip
    obtain ⟨u3, gu3, h⟩ := o_bind h
    refine ft (fr_mono rfl (frX6_fail_34 3 u gu3)) ?_
    exact fbX6_single_34_166 hkc l2 u3 h
theorem fbX6_single_34_26 {u' : Mem} {kc : Int32 → Mem → Option Mem} (hkc : ∀ (a0 : Int32) (w : Mem) {w' : Mem}, kc a0 w = some w' → FrL [34, 39, 40] w w') (l1 l2 : Int32) (u : Mem) (h : FX6_single_34_b26 kc l1 l2 u = some u') : FrL [34, 39, 40] u u' := by
  unfold FX6_single_34_b26 at h
  rcases io h with ⟨c1, h⟩ | ⟨c1, h⟩
  · skip
    exact fbX6_single_34_45 hkc l1 l2 u h
  · skip
    rcases oi h with ⟨c2, h⟩ | ⟨c2, h⟩
    · skip
      exact fbX6_single_34_61 hkc l1 l2 u h
    · skip
      exact fbX6_single_34_45 hkc l1 l2 u h
theorem fbX6_single_34_2 {u' : Mem} {kc : Int32 → Mem → Option Mem} (hkc : ∀ (a0 : Int32) (w : Mem) {w' : Mem}, kc a0 w = some w' → FrL [34, 39, 40] w w') {k2 : Int32 → Int32 → Mem → Option Mem} (hk2 : ∀ (l1 l2 : Int32) (u : Mem), k2 l1 l2 u = some u' → FrL [34, 39, 40] u u') (l1 l2 : Int32) (u : Mem) (h : FX6_single_34_b2 kc k2 l1 l2 u = some u') : FrL [34, 39, 40] u u' := by
  unfold FX6_single_34_b2 at h
  rcases io h with ⟨c1, h⟩ | ⟨c1, h⟩
  · skip
    exact fbX6_single_34_26 hkc l1 l2 u h
  · skip
    obtain ⟨x2, u3, gx2, h⟩ := o_bnd2 h
    refine ft (fr_mono rfl (frX6_take_34 263 u gx2)) ?_
    rcases io h with ⟨c4, h⟩ | ⟨c4, h⟩
    · skip
      exact fbX6_single_34_26 hkc l1 l2 u3 h
    · skip
      exact hk2 l1 (l2 + 1) u3 h
theorem flX6_single_34_2 {u' : Mem} {kc : Int32 → Mem → Option Mem} (hkc : ∀ (a0 : Int32) (w : Mem) {w' : Mem}, kc a0 w = some w' → FrL [34, 39, 40] w w') : ∀ (n : Nat) (l1 l2 : Int32) (u : Mem), FX6_single_34_L2 kc n l1 l2 u = some u' → FrL [34, 39, 40] u u' := by
  intro n
  induction n with
  | zero =>
    intro l1 l2 u h
    exact nn_ h
  | succ n ih =>
    intro l1 l2 u h
    exact fbX6_single_34_2 hkc ih l1 l2 u h
theorem frX6_single_34 {kc : Int32 → Mem → Option Mem} (hkc : ∀ (a0 : Int32) (w : Mem) {w' : Mem}, kc a0 w = some w' → FrL [34, 39, 40] w w') (p1 : Int32) (u : Mem) {u' : Mem} (h : FX6_single_34 kc p1 u = some u') : FrL [34, 39, 40] u u' := by
  unfold FX6_single_34 at h
  exact flX6_single_34_2 hkc FU p1 0 u h
theorem fbX6_condition_34_74 {u' : Mem} {kc : Int32 → Mem → Option Mem} (hkc : ∀ (a0 : Int32) (w : Mem) {w' : Mem}, kc a0 w = some w' → FrL [34, 39, 40] w w') {k4 : Int32 → Int32 → Int32 → Mem → Option Mem} (hk4 : ∀ (l1 l2 l3 : Int32) (u : Mem), k4 l1 l2 l3 u = some u' → FrL [34, 39, 40] u u') (l1 l3 : Int32) (u : Mem) (h : FX6_condition_34_b74 kc k4 l1 l3 u = some u') : FrL [34, 39, 40] u u' := by
  unfold FX6_condition_34_b74 at h
  obtain ⟨x1, u2, gx1, h⟩ := o_bnd2 h
  refine ft (fr_mono rfl (frX6_take_34 261 u gx1)) ?_
  exact hk4 l1 x1 (l3 + 1) u2 h
theorem fbX6_condition_34_61 {u' : Mem} {kc : Int32 → Mem → Option Mem} (hkc : ∀ (a0 : Int32) (w : Mem) {w' : Mem}, kc a0 w = some w' → FrL [34, 39, 40] w w') {k4 : Int32 → Int32 → Int32 → Mem → Option Mem} (hk4 : ∀ (l1 l2 l3 : Int32) (u : Mem), k4 l1 l2 l3 u = some u' → FrL [34, 39, 40] u u') (l1 l3 : Int32) (u : Mem) (h : FX6_condition_34_b61 kc k4 l1 l3 u = some u') : FrL [34, 39, 40] u u' := by
  unfold FX6_condition_34_b61 at h
  rcases io h with ⟨c1, h⟩ | ⟨c1, h⟩
  · skip
    exact fbX6_condition_34_74 hkc hk4 l1 l3 u h
  · skip
    obtain ⟨u3, gu3, h⟩ := o_bind h
    refine ft (fr_mono rfl (frX4_put_39 (-18) u gu3)) ?_
    exact fbX6_condition_34_74 hkc hk4 l1 l3 u3 h
theorem fbX6_condition_34_23 {u' : Mem} {kc : Int32 → Mem → Option Mem} (hkc : ∀ (a0 : Int32) (w : Mem) {w' : Mem}, kc a0 w = some w' → FrL [34, 39, 40] w w') {k4 : Int32 → Int32 → Int32 → Mem → Option Mem} (hk4 : ∀ (l1 l2 l3 : Int32) (u : Mem), k4 l1 l2 l3 u = some u' → FrL [34, 39, 40] u u') {k23 : Int32 → Int32 → Int32 → Mem → Option Mem} (hk23 : ∀ (l1 l3 l4 : Int32) (u : Mem), k23 l1 l3 l4 u = some u' → FrL [34, 39, 40] u u') (l1 l3 l4 : Int32) (u : Mem) (h : FX6_condition_34_b23 kc k4 k23 l1 l3 l4 u = some u') : FrL [34, 39, 40] u u' := by
  unfold FX6_condition_34_b23 at h
  rcases io h with ⟨c1, h⟩ | ⟨c1, h⟩
  · skip
    exact fbX6_condition_34_61 hkc hk4 l1 l3 u h
  · skip
    obtain ⟨x2, u3, gx2, h⟩ := o_bnd2 h
    refine ft (fr_mono rfl (frX6_take_34 262 u gx2)) ?_
    rcases io h with ⟨c4, h⟩ | ⟨c4, h⟩
    · skip
      exact fbX6_condition_34_61 hkc hk4 l1 l3 u3 h
    · skip
      obtain ⟨u6, gu6, h⟩ := o_bind h
      refine ft (fr_mono rfl (frX6_single_34 hkc l1 u3 gu6)) ?_
      obtain ⟨u8, gu8, h⟩ := o_bind h
      refine ft (fr_mono rfl (frX4_put_39 (-17) u6 gu8)) ?_
      exact hk23 l1 l3 (l4 + 1) u8 h
theorem flX6_condition_34_23 {u' : Mem} {kc : Int32 → Mem → Option Mem} (hkc : ∀ (a0 : Int32) (w : Mem) {w' : Mem}, kc a0 w = some w' → FrL [34, 39, 40] w w') {k4 : Int32 → Int32 → Int32 → Mem → Option Mem} (hk4 : ∀ (l1 l2 l3 : Int32) (u : Mem), k4 l1 l2 l3 u = some u' → FrL [34, 39, 40] u u') : ∀ (n : Nat) (l1 l3 l4 : Int32) (u : Mem), FX6_condition_34_L23 kc k4 n l1 l3 l4 u = some u' → FrL [34, 39, 40] u u' := by
  intro n
  induction n with
  | zero =>
    intro l1 l3 l4 u h
    exact nn_ h
  | succ n ih =>
    intro l1 l3 l4 u h
    exact fbX6_condition_34_23 hkc hk4 ih l1 l3 l4 u h
theorem fbX6_condition_34_4 {u' : Mem} {kc : Int32 → Mem → Option Mem} (hkc : ∀ (a0 : Int32) (w : Mem) {w' : Mem}, kc a0 w = some w' → FrL [34, 39, 40] w w') {k4 : Int32 → Int32 → Int32 → Mem → Option Mem} (hk4 : ∀ (l1 l2 l3 : Int32) (u : Mem), k4 l1 l2 l3 u = some u' → FrL [34, 39, 40] u u') (l1 l2 l3 : Int32) (u : Mem) (h : FX6_condition_34_b4 kc k4 l1 l2 l3 u = some u') : FrL [34, 39, 40] u u' := by
  unfold FX6_condition_34_b4 at h
  rcases io h with ⟨c1, h⟩ | ⟨c1, h⟩
  · skip
    cases h
    exact fr_refl _ _
  · skip
    rcases io h with ⟨c2, h⟩ | ⟨c2, h⟩
    · skip
      cases h
      exact fr_refl _ _
    · skip
      obtain ⟨u4, gu4, h⟩ := o_bind h
      refine ft (fr_mono rfl (frX6_single_34 hkc l1 u gu4)) ?_
      exact flX6_condition_34_23 hkc hk4 FU l1 l3 0 u4 h
theorem flX6_condition_34_4 {u' : Mem} {kc : Int32 → Mem → Option Mem} (hkc : ∀ (a0 : Int32) (w : Mem) {w' : Mem}, kc a0 w = some w' → FrL [34, 39, 40] w w') : ∀ (n : Nat) (l1 l2 l3 : Int32) (u : Mem), FX6_condition_34_L4 kc n l1 l2 l3 u = some u' → FrL [34, 39, 40] u u' := by
  intro n
  induction n with
  | zero =>
    intro l1 l2 l3 u h
    exact nn_ h
  | succ n ih =>
    intro l1 l2 l3 u h
    exact fbX6_condition_34_4 hkc ih l1 l2 l3 u h
theorem frX6_condition_34_body {kc : Int32 → Mem → Option Mem} (hkc : ∀ (a0 : Int32) (w : Mem) {w' : Mem}, kc a0 w = some w' → FrL [34, 39, 40] w w') (p1 : Int32) (u : Mem) {u' : Mem} (h : FX6_condition_34_body kc p1 u = some u') : FrL [34, 39, 40] u u' := by
  unfold FX6_condition_34_body at h
  exact flX6_condition_34_4 hkc FU p1 1 0 u h
theorem frX6_condition_34 : ∀ (n : Nat) (p1 : Int32) (u : Mem) {u' : Mem}, FX6_condition_34 n p1 u = some u' → FrL [34, 39, 40] u u' := by
  intro n
  induction n with
  | zero =>
    intro p1 u u' h
    exact nn_ h
  | succ n ih =>
    intro p1 u u' h
    exact frX6_condition_34_body (fun a0 w => ih a0 w) p1 u h
theorem frX4_endLine_39 (u : Mem) {u' : Mem} (h : FX4_endLine_39 u = some u') : FrL [39, 44] u u' := by
  unfold FX4_endLine_39 at h
  rcases io h with ⟨c1, h⟩ | ⟨c1, h⟩
  · skip
    cases h
    exact fr_refl _ _
  · skip
    rcases io h with ⟨c2, h⟩ | ⟨c2, h⟩
    · skip
      cases h
      exact fr_refl _ _
    · skip
      obtain ⟨u3, gu3, h⟩ := o_bind h
      refine ft (fr_wr rfl gu3) ?_
      obtain ⟨u4, gu4, h⟩ := o_bind h
      refine ft (fr_upd rfl gu4) ?_
      cases h
      exact fr_refl _ _
theorem fbX6_lawLine_34_64 {u' : Mem} (u : Mem) (h : FX6_lawLine_34_b64 u = some u') : FrL [34, 39, 40, 41, 42, 43, 44] u u' := by
  unfold FX6_lawLine_34_b64 at h
  obtain ⟨u2, gu2, h⟩ := o_bind h
  refine ft (fr_mono rfl (frX6_need_34 59 u gu2)) ?_
  obtain ⟨u4, gu4, h⟩ := o_bind h
  refine ft (fr_mono rfl (frX4_endLine_39 u2 gu4)) ?_
  obtain ⟨u5, gu5, h⟩ := o_bind h
  refine ft (fr_upd rfl gu5) ?_
  cases h
  exact fr_refl _ _
theorem fbX6_lawLine_34_27 {u' : Mem} (l1 t1 : Int32) (u : Mem) (h : FX6_lawLine_34_b27 l1 t1 u = some u') : FrL [34, 39, 40, 41, 42, 43, 44] u u' := by
  unfold FX6_lawLine_34_b27 at h
  obtain ⟨u2, gu2, h⟩ := o_bind h
  refine ft (fr_mono rfl (frX6_beginLine_34 t1 u gu2)) ?_
  obtain ⟨u4, gu4, h⟩ := o_bind h
  refine ft (fr_mono rfl (frX4_beginLine_39 l1 u2 gu4)) ?_
  obtain ⟨u6, gu6, h⟩ := o_bind h
  refine ft (fr_mono rfl (frX6_sum_34 u4 gu6)) ?_
  obtain ⟨u8, gu8, h⟩ := o_bind h
  refine ft (fr_mono rfl (frX4_beginWhen_39 u6 gu8)) ?_
  obtain ⟨x9, u10, gx9, h⟩ := o_bnd2 h
  refine ft (fr_mono rfl (frX6_take_34 260 u8 gx9)) ?_
  rcases io h with ⟨c11, h⟩ | ⟨c11, h⟩
  · skip
    exact fbX6_lawLine_34_64 u10 h
  · skip
    obtain ⟨u13, gu13, h⟩ := o_bind h
    refine ft (fr_mono rfl (frX6_condition_34 DFU 0 u10 gu13)) ?_
    exact fbX6_lawLine_34_64 u13 h
theorem frX6_lawLine_34 (u : Mem) {u' : Mem} (h : FX6_lawLine_34 u = some u') : FrL [34, 39, 40, 41, 42, 43, 44] u u' := by
  unfold FX6_lawLine_34 at h
  rcases io h with ⟨c1, h⟩ | ⟨c1, h⟩
  · skip
    exact fbX6_lawLine_34_27 ((u 34 10) - 256) (-1) u h
  · skip
    rcases io h with ⟨c2, h⟩ | ⟨c2, h⟩
    · skip
      exact fbX6_lawLine_34_27 ((u 34 10) - 256) (u 34 10) u h
    · skip
      exact fbX6_lawLine_34_27 ((u 34 10) - 256) (-1) u h
theorem fbX6_tellingLine_34_151 {u' : Mem} (u : Mem) (h : FX6_tellingLine_34_b151 u = some u') : FrL [34, 50] u u' := by
  unfold FX6_tellingLine_34_b151 at h
  obtain ⟨u1, gu1, h⟩ := o_bind h
  refine ft (fr_upd rfl gu1) ?_
  cases h
  exact fr_refl _ _
theorem fbX6_tellingLine_34_117 {u' : Mem} (l3 l4 : Int32) (u : Mem) (h : FX6_tellingLine_34_b117 l3 l4 u = some u') : FrL [34, 50] u u' := by
  unfold FX6_tellingLine_34_b117 at h
  obtain ⟨u2, gu2, h⟩ := o_bind h
  refine ft (fr_mono rfl (frX6_need_34 59 u gu2)) ?_
  rcases oi h with ⟨c3, h⟩ | ⟨c3, h⟩
  · skip
    exact fbX6_tellingLine_34_151 u2 h
  · skip
    rcases io h with ⟨c4, h⟩ | ⟨c4, h⟩
    · skip
      exact fbX6_tellingLine_34_151 u2 h
    · skip
      rcases io h with ⟨c5, h⟩ | ⟨c5, h⟩
      · skip
        exact fbX6_tellingLine_34_151 u2 h
      · skip
        obtain ⟨x6, gx6, h⟩ := o_bind h
        obtain ⟨u7, gu7, h⟩ := o_bind h
        refine ft (fr_wr rfl gu7) ?_
        exact fbX6_tellingLine_34_151 u7 h
theorem fbX6_tellingLine_34_99 {u' : Mem} {k54 : Int32 → Int32 → Int32 → Int32 → Int32 → Mem → Option Mem} (hk54 : ∀ (l1 l3 l4 l5 l6 : Int32) (u : Mem), k54 l1 l3 l4 l5 l6 u = some u' → FrL [34, 50] u u') (l1 l3 l6 t0 t1 : Int32) (u : Mem) (h : FX6_tellingLine_34_b99 k54 l1 l3 l6 t0 t1 u = some u') : FrL [34, 50] u u' := by
  unfold FX6_tellingLine_34_b99 at h
  obtain ⟨x1, u2, gx1, h⟩ := o_bnd2 h
  refine ft (fr_mono rfl (frX6_take_34 257 u gx1)) ?_
  exact hk54 l1 l3 (t0 ||| t1) x1 (l6 + 1) u2 h
theorem fbX6_tellingLine_34_54 {u' : Mem} {k54 : Int32 → Int32 → Int32 → Int32 → Int32 → Mem → Option Mem} (hk54 : ∀ (l1 l3 l4 l5 l6 : Int32) (u : Mem), k54 l1 l3 l4 l5 l6 u = some u' → FrL [34, 50] u u') (l1 l3 l4 l5 l6 : Int32) (u : Mem) (h : FX6_tellingLine_34_b54 k54 l1 l3 l4 l5 l6 u = some u') : FrL [34, 50] u u' := by
  unfold FX6_tellingLine_34_b54 at h
  rcases io h with ⟨c1, h⟩ | ⟨c1, h⟩
  · skip
    exact fbX6_tellingLine_34_117 l3 l4 u h
  · skip
    rcases io h with ⟨c2, h⟩ | ⟨c2, h⟩
    · skip
      exact fbX6_tellingLine_34_117 l3 l4 u h
    · skip
      obtain ⟨x3, u4, gx3, h⟩ := o_bnd2 h
      refine ft (fr_mono rfl (frX6_number_34 (l1 - 1) l3 u gx3)) ?_
      rcases io h with ⟨c5, h⟩ | ⟨c5, h⟩
      · skip
        exact fbX6_tellingLine_34_99 hk54 l1 l3 l6 l4 0 u4 h
      · skip
        rcases io h with ⟨c6, h⟩ | ⟨c6, h⟩
        · skip
          exact fbX6_tellingLine_34_99 hk54 l1 l3 l6 l4 0 u4 h
        · skip
          exact fbX6_tellingLine_34_99 hk54 l1 l3 l6 l4 ((1 : Int32) <<< (x3 &&& 31)) u4 h
theorem flX6_tellingLine_34_54 {u' : Mem} : ∀ (n : Nat) (l1 l3 l4 l5 l6 : Int32) (u : Mem), FX6_tellingLine_34_L54 n l1 l3 l4 l5 l6 u = some u' → FrL [34, 50] u u' := by
  intro n
  induction n with
  | zero =>
    intro l1 l3 l4 l5 l6 u h
    exact nn_ h
  | succ n ih =>
    intro l1 l3 l4 l5 l6 u h
    exact fbX6_tellingLine_34_54 ih l1 l3 l4 l5 l6 u h
theorem fbX6_tellingLine_34_38 {u' : Mem} (l1 l3 : Int32) (u : Mem) (h : FX6_tellingLine_34_b38 l1 l3 u = some u') : FrL [34, 50] u u' := by
  unfold FX6_tellingLine_34_b38 at h
  obtain ⟨u2, gu2, h⟩ := o_bind h
  refine ft (fr_mono rfl (frX6_need_34 256 u gu2)) ?_
  exact flX6_tellingLine_34_54 FU l1 l3 0 1 0 u2 h
theorem frX6_tellingLine_34 (p1 : Int32) (u : Mem) {u' : Mem} (h : FX6_tellingLine_34 p1 u = some u') : FrL [34, 50] u u' := by
  unfold FX6_tellingLine_34 at h
  obtain ⟨x1, u2, gx1, h⟩ := o_bnd2 h
  refine ft (fr_mono rfl (frX6_number_34 (p1 - 1) (-1) u gx1)) ?_
  rcases io h with ⟨c3, h⟩ | ⟨c3, h⟩
  · skip
    exact fbX6_tellingLine_34_38 p1 x1 u2 h
  · skip
    rcases oi h with ⟨c4, h⟩ | ⟨c4, h⟩
    · skip
      exact fbX6_tellingLine_34_38 p1 x1 u2 h
    · skip
      obtain ⟨u6, gu6, h⟩ := o_bind h
      refine ft (fr_mono rfl (frX6_go_34 (u 34 9) u2 gu6)) ?_
      obtain ⟨u8, gu8, h⟩ := o_bind h
      refine ft (fr_mono rfl (frX6_fail_34 3 u6 gu8)) ?_
      exact fbX6_tellingLine_34_38 p1 x1 u8 h
theorem fbX6_weightLine_34_57 {u' : Mem} (u : Mem) (h : FX6_weightLine_34_b57 u = some u') : FrL [34, 51] u u' := by
  unfold FX6_weightLine_34_b57 at h
  obtain ⟨u1, gu1, h⟩ := o_bind h
  refine ft (fr_upd rfl gu1) ?_
  cases h
  exact fr_refl _ _
theorem frX6_weightLine_34 (u : Mem) {u' : Mem} (h : FX6_weightLine_34 u = some u') : FrL [34, 51] u u' := by
  unfold FX6_weightLine_34 at h
  obtain ⟨u2, gu2, h⟩ := o_bind h
  refine ft (fr_mono rfl (frX6_beginLine_34 256 u gu2)) ?_
  obtain ⟨x3, u4, gx3, h⟩ := o_bnd2 h
  refine ft (fr_mono rfl (frX6_number_34 7 (-1) u2 gx3)) ?_
  obtain ⟨u6, gu6, h⟩ := o_bind h
  refine ft (fr_mono rfl (frX6_need_34 257 u4 gu6)) ?_
  obtain ⟨x7, u8, gx7, h⟩ := o_bnd2 h
  refine ft (fr_mono rfl (frX6_number_34 99 (-1) u6 gx7)) ?_
  obtain ⟨u10, gu10, h⟩ := o_bind h
  refine ft (fr_mono rfl (frX6_need_34 59 u8 gu10)) ?_
  rcases oi h with ⟨c11, h⟩ | ⟨c11, h⟩
  · skip
    exact fbX6_weightLine_34_57 u10 h
  · skip
    obtain ⟨x12, gx12, h⟩ := o_bind h
    rcases io h with ⟨c13, h⟩ | ⟨c13, h⟩
    · skip
      exact fbX6_weightLine_34_57 u10 h
    · skip
      obtain ⟨u14, gu14, h⟩ := o_bind h
      refine ft (fr_wr rfl gu14) ?_
      exact fbX6_weightLine_34_57 u14 h
theorem fbX5_add_46_43 {u' : Mem} (l3 t1 t2 : Int32) (u : Mem) (h : FX5_add_46_b43 l3 t1 t2 u = some u') : FrL [46, 47, 48, 49] u u' := by
  unfold FX5_add_46_b43 at h
  obtain ⟨u1, gu1, h⟩ := o_bind h
  refine ft (fr_wr rfl gu1) ?_
  obtain ⟨u2, gu2, h⟩ := o_bind h
  refine ft (fr_wr rfl gu2) ?_
  obtain ⟨u3, gu3, h⟩ := o_bind h
  refine ft (fr_upd rfl gu3) ?_
  cases h
  exact fr_refl _ _
theorem frX5_add_46 (p1 p2 p3 : Int32) (u : Mem) {u' : Mem} (h : FX5_add_46 p1 p2 p3 u = some u') : FrL [46, 47, 48, 49] u u' := by
  unfold FX5_add_46 at h
  rcases io h with ⟨c1, h⟩ | ⟨c1, h⟩
  · skip
    cases h
    exact fr_refl _ _
  · skip
    rcases io h with ⟨c2, h⟩ | ⟨c2, h⟩
    · skip
      cases h
      exact fr_refl _ _
    · skip
      obtain ⟨u3, gu3, h⟩ := o_bind h
      refine ft (fr_wr rfl gu3) ?_
      rcases io h with ⟨c4, h⟩ | ⟨c4, h⟩
      · skip
        exact fbX5_add_46_43 p3 (u3 46 3) 0 u3 h
      · skip
        exact fbX5_add_46_43 p3 (u3 46 3) 1 u3 h
theorem fbX6_orderLine_34_79 {u' : Mem} (u : Mem) (h : FX6_orderLine_34_b79 u = some u') : FrL [34, 46, 47, 48, 49] u u' := by
  unfold FX6_orderLine_34_b79 at h
  obtain ⟨u1, gu1, h⟩ := o_bind h
  refine ft (fr_upd rfl gu1) ?_
  cases h
  exact fr_refl _ _
theorem fbX6_orderLine_34_46 {u' : Mem} (l1 l2 t1 : Int32) (u : Mem) (h : FX6_orderLine_34_b46 l1 l2 t1 u = some u') : FrL [34, 46, 47, 48, 49] u u' := by
  unfold FX6_orderLine_34_b46 at h
  obtain ⟨u2, gu2, h⟩ := o_bind h
  refine ft (fr_mono rfl (frX6_need_34 t1 u gu2)) ?_
  obtain ⟨x3, u4, gx3, h⟩ := o_bnd2 h
  refine ft (fr_mono rfl (frX6_number_34 1 (-1) u2 gx3)) ?_
  obtain ⟨u6, gu6, h⟩ := o_bind h
  refine ft (fr_mono rfl (frX6_need_34 59 u4 gu6)) ?_
  rcases oi h with ⟨c7, h⟩ | ⟨c7, h⟩
  · skip
    exact fbX6_orderLine_34_79 u6 h
  · skip
    obtain ⟨u9, gu9, h⟩ := o_bind h
    refine ft (fr_mono rfl (frX5_add_46 l1 l2 x3 u6 gu9)) ?_
    exact fbX6_orderLine_34_79 u9 h
theorem fbX6_orderLine_34_31 {u' : Mem} (l1 t0 : Int32) (u : Mem) (h : FX6_orderLine_34_b31 l1 t0 u = some u') : FrL [34, 46, 47, 48, 49] u u' := by
  unfold FX6_orderLine_34_b31 at h
  rcases io h with ⟨c1, h⟩ | ⟨c1, h⟩
  · skip
    exact fbX6_orderLine_34_46 l1 t0 258 u h
  · skip
    exact fbX6_orderLine_34_46 l1 t0 257 u h
theorem frX6_orderLine_34 (u : Mem) {u' : Mem} (h : FX6_orderLine_34 u = some u') : FrL [34, 46, 47, 48, 49] u u' := by
  unfold FX6_orderLine_34 at h
  obtain ⟨u2, gu2, h⟩ := o_bind h
  refine ft (fr_mono rfl (frX6_beginLine_34 256 u gu2)) ?_
  obtain ⟨x3, u4, gx3, h⟩ := o_bnd2 h
  refine ft (fr_mono rfl (frX6_number_34 999 (-1) u2 gx3)) ?_
  rcases oi h with ⟨c5, h⟩ | ⟨c5, h⟩
  · skip
    exact fbX6_orderLine_34_31 x3 0 u4 h
  · skip
    exact fbX6_orderLine_34_31 x3 1 u4 h
theorem frX4_become_8_39 (u : Mem) {u' : Mem} (h : FX4_become_8_39 u = some u') : FrL [8, 9, 10, 11, 12, 13] u u' := by
  unfold FX4_become_8_39 at h
  obtain ⟨u1, gu1, h⟩ := o_bind h
  refine ft (fr_cp rfl gu1) ?_
  obtain ⟨u2, gu2, h⟩ := o_bind h
  refine ft (fr_cp rfl gu2) ?_
  obtain ⟨u3, gu3, h⟩ := o_bind h
  refine ft (fr_cp rfl gu3) ?_
  obtain ⟨u4, gu4, h⟩ := o_bind h
  refine ft (fr_cp rfl gu4) ?_
  obtain ⟨u5, gu5, h⟩ := o_bind h
  refine ft (fr_cp rfl gu5) ?_
  obtain ⟨u6, gu6, h⟩ := o_bind h
  refine ft (fr_upd rfl gu6) ?_
  obtain ⟨u7, gu7, h⟩ := o_bind h
  refine ft (fr_upd rfl gu7) ?_
  cases h
  exact fr_refl _ _
theorem frX5_become_15_46 (u : Mem) {u' : Mem} (h : FX5_become_15_46 u = some u') : FrL [15, 16, 17, 18] u u' := by
  unfold FX5_become_15_46 at h
  obtain ⟨u1, gu1, h⟩ := o_bind h
  refine ft (fr_cp rfl gu1) ?_
  obtain ⟨u2, gu2, h⟩ := o_bind h
  refine ft (fr_cp rfl gu2) ?_
  obtain ⟨u3, gu3, h⟩ := o_bind h
  refine ft (fr_cp rfl gu3) ?_
  obtain ⟨u4, gu4, h⟩ := o_bind h
  refine ft (fr_upd rfl gu4) ?_
  cases h
  exact fr_refl _ _
theorem frX6_hand_34_1 (p1 : Int32) (u : Mem) {u' : Mem} (h : FX6_hand_34_1 p1 u = some u') : FrL [1, 5, 7, 8, 9, 10, 11, 12, 13, 15, 16, 17, 18] u u' := by
  unfold FX6_hand_34_1 at h
  by_cases c1 : p1 = 0
  · have h := it h c1
    obtain ⟨u3, gu3, h⟩ := o_bind h
    refine ft (fr_mono rfl (frX4_become_8_39 u gu3)) ?_
    cases h
    exact fr_refl _ _
  · have h := ie h c1
    by_cases c4 : p1 = 1
    · have h := it h c4
      obtain ⟨u5, gu5, h⟩ := o_bind h
      refine ft (fr_cp rfl gu5) ?_
      obtain ⟨u6, gu6, h⟩ := o_bind h
      refine ft (fr_upd rfl gu6) ?_
      cases h
      exact fr_refl _ _
    · have h := ie h c4
      by_cases c7 : p1 = 2
      · have h := it h c7
        obtain ⟨u8, gu8, h⟩ := o_bind h
        refine ft (fr_cp rfl gu8) ?_
        obtain ⟨u9, gu9, h⟩ := o_bind h
        refine ft (fr_upd rfl gu9) ?_
        cases h
        exact fr_refl _ _
      · have h := ie h c7
        obtain ⟨u11, gu11, h⟩ := o_bind h
        refine ft (fr_mono rfl (frX5_become_15_46 u gu11)) ?_
        cases h
        exact fr_refl _ _
theorem fbX6_read_34_1_127 {v : Int32} {u' : Mem} (l1 : Int32) (u : Mem) (h : FX6_read_34_1_b127 l1 u = some (v, u')) : FrL [1, 5, 7, 8, 9, 10, 11, 12, 13, 15, 16, 17, 18, 34, 36, 37, 38, 39, 40, 41, 42, 43, 44, 46, 47, 48, 49, 50, 51] u u' := by
  unfold FX6_read_34_1_b127 at h
  rcases io h with ⟨c1, h⟩ | ⟨c1, h⟩
  · skip
    obtain ⟨u3, gu3, h⟩ := o_bind h
    refine ft (fr_mono rfl (frX6_hand_34_1 l1 u gu3)) ?_
    cases h
    exact fr_refl _ _
  · skip
    cases h
    exact fr_refl _ _
theorem fbX6_read_34_1_121 {v : Int32} {u' : Mem} {k50 : Int32 → Int32 → Mem → Option (Int32 × Mem)} (hk50 : ∀ (l1 l4 : Int32) (u : Mem), k50 l1 l4 u = some (v, u') → FrL [1, 5, 7, 8, 9, 10, 11, 12, 13, 15, 16, 17, 18, 34, 36, 37, 38, 39, 40, 41, 42, 43, 44, 46, 47, 48, 49, 50, 51] u u') (l1 l4 : Int32) (u : Mem) (h : FX6_read_34_1_b121 k50 l1 l4 u = some (v, u')) : FrL [1, 5, 7, 8, 9, 10, 11, 12, 13, 15, 16, 17, 18, 34, 36, 37, 38, 39, 40, 41, 42, 43, 44, 46, 47, 48, 49, 50, 51] u u' := by
  unfold FX6_read_34_1_b121 at h
  exact hk50 l1 (l4 + 1) u h
theorem fbX6_read_34_1_50 {v : Int32} {u' : Mem} {k50 : Int32 → Int32 → Mem → Option (Int32 × Mem)} (hk50 : ∀ (l1 l4 : Int32) (u : Mem), k50 l1 l4 u = some (v, u') → FrL [1, 5, 7, 8, 9, 10, 11, 12, 13, 15, 16, 17, 18, 34, 36, 37, 38, 39, 40, 41, 42, 43, 44, 46, 47, 48, 49, 50, 51] u u') (l1 l4 : Int32) (u : Mem) (h : FX6_read_34_1_b50 k50 l1 l4 u = some (v, u')) : FrL [1, 5, 7, 8, 9, 10, 11, 12, 13, 15, 16, 17, 18, 34, 36, 37, 38, 39, 40, 41, 42, 43, 44, 46, 47, 48, 49, 50, 51] u u' := by
  unfold FX6_read_34_1_b50 at h
  rcases io h with ⟨c1, h⟩ | ⟨c1, h⟩
  · skip
    exact fbX6_read_34_1_127 l1 u h
  · skip
    rcases io h with ⟨c2, h⟩ | ⟨c2, h⟩
    · skip
      exact fbX6_read_34_1_127 l1 u h
    · skip
      by_cases c3 : l1 = 0
      · have h := it h c3
        obtain ⟨u5, gu5, h⟩ := o_bind h
        refine ft (fr_mono rfl (frX6_lawLine_34 u gu5)) ?_
        exact fbX6_read_34_1_121 hk50 l1 l4 u5 h
      · have h := ie h c3
        by_cases c6 : l1 = 1
        · have h := it h c6
          obtain ⟨u8, gu8, h⟩ := o_bind h
          refine ft (fr_mono rfl (frX6_tellingLine_34 (u 1 0) u gu8)) ?_
          exact fbX6_read_34_1_121 hk50 l1 l4 u8 h
        · have h := ie h c6
          by_cases c9 : l1 = 2
          · have h := it h c9
            obtain ⟨u11, gu11, h⟩ := o_bind h
            refine ft (fr_mono rfl (frX6_weightLine_34 u gu11)) ?_
            exact fbX6_read_34_1_121 hk50 l1 l4 u11 h
          · have h := ie h c9
            obtain ⟨u13, gu13, h⟩ := o_bind h
            refine ft (fr_mono rfl (frX6_orderLine_34 u gu13)) ?_
            exact fbX6_read_34_1_121 hk50 l1 l4 u13 h
theorem flX6_read_34_1_50 {v : Int32} {u' : Mem} : ∀ (n : Nat) (l1 l4 : Int32) (u : Mem), FX6_read_34_1_L50 n l1 l4 u = some (v, u') → FrL [1, 5, 7, 8, 9, 10, 11, 12, 13, 15, 16, 17, 18, 34, 36, 37, 38, 39, 40, 41, 42, 43, 44, 46, 47, 48, 49, 50, 51] u u' := by
  intro n
  induction n with
  | zero =>
    intro l1 l4 u h
    exact nn_ h
  | succ n ih =>
    intro l1 l4 u h
    exact fbX6_read_34_1_50 ih l1 l4 u h
theorem frX6_read_34_1 (p1 : Int32) (u : Mem) {v : Int32} {u' : Mem} (h : FX6_read_34_1 p1 u = some (v, u')) : FrL [1, 5, 7, 8, 9, 10, 11, 12, 13, 15, 16, 17, 18, 34, 36, 37, 38, 39, 40, 41, 42, 43, 44, 46, 47, 48, 49, 50, 51] u u' := by
  unfold FX6_read_34_1 at h
  obtain ⟨u1, gu1, h⟩ := o_bind h
  refine ft (fr_upd rfl gu1) ?_
  obtain ⟨u2, gu2, h⟩ := o_bind h
  refine ft (fr_upd rfl gu2) ?_
  obtain ⟨u3, gu3, h⟩ := o_bind h
  refine ft (fr_upd rfl gu3) ?_
  rcases io h with ⟨c4, h⟩ | ⟨c4, h⟩
  · skip
    cases h
    exact fr_refl _ _
  · skip
    rcases io h with ⟨c5, h⟩ | ⟨c5, h⟩
    · skip
      obtain ⟨u7, gu7, h⟩ := o_bind h
      refine ft (fr_mono rfl (frX6_cut_34 (if 400 < (u 34 12) then 400 else (u 34 12)) p1 u3 gu7)) ?_
      obtain ⟨u9, gu9, h⟩ := o_bind h
      refine ft (fr_mono rfl (frX6_clear_34 u7 gu9)) ?_
      exact flX6_read_34_1_50 FU p1 0 u9 h
    · skip
      cases h
      exact fr_refl _ _
theorem fbX11_text_0_35 {v : Int32} {u' : Mem} (l2 : Int32) (u : Mem) (h : FX11_text_0_b35 l2 u = some (v, u')) : FrL [1, 5, 7, 8, 9, 10, 11, 12, 13, 15, 16, 17, 18, 34, 36, 37, 38, 39, 40, 41, 42, 43, 44, 46, 47, 48, 49, 50, 51, 52] u u' := by
  unfold FX11_text_0_b35 at h
  cases h
  exact fr_refl _ _
theorem fbX11_text_0_28 {v : Int32} {u' : Mem} (l2 : Int32) (u : Mem) (h : FX11_text_0_b28 l2 u = some (v, u')) : FrL [1, 5, 7, 8, 9, 10, 11, 12, 13, 15, 16, 17, 18, 34, 36, 37, 38, 39, 40, 41, 42, 43, 44, 46, 47, 48, 49, 50, 51, 52] u u' := by
  unfold FX11_text_0_b28 at h
  obtain ⟨u2, gu2, h⟩ := o_bind h
  refine ft (fr_mono rfl (frX10_forgetAll_52 u gu2)) ?_
  exact fbX11_text_0_35 l2 u2 h
theorem frX11_text_0 (p1 : Int32) (u : Mem) {v : Int32} {u' : Mem} (h : FX11_text_0 p1 u = some (v, u')) : FrL [1, 5, 7, 8, 9, 10, 11, 12, 13, 15, 16, 17, 18, 34, 36, 37, 38, 39, 40, 41, 42, 43, 44, 46, 47, 48, 49, 50, 51, 52] u u' := by
  unfold FX11_text_0 at h
  obtain ⟨x1, u2, gx1, h⟩ := o_bnd2 h
  refine ft (fr_mono rfl (frX6_read_34_1 p1 u gx1)) ?_
  rcases io h with ⟨c3, h⟩ | ⟨c3, h⟩
  · skip
    exact fbX11_text_0_35 x1 u2 h
  · skip
    rcases io h with ⟨c4, h⟩ | ⟨c4, h⟩
    · skip
      exact fbX11_text_0_28 x1 u2 h
    · skip
      rcases oi h with ⟨c5, h⟩ | ⟨c5, h⟩
      · skip
        exact fbX11_text_0_35 x1 u2 h
      · skip
        exact fbX11_text_0_28 x1 u2 h
theorem fbX12_next0_146_303 {u' : Mem} (t1 : Int32) (u : Mem) (h : FX12_next0_146_b303 t1 u = some u') : FrL [146] u u' := by
  unfold FX12_next0_146_b303 at h
  obtain ⟨u1, gu1, h⟩ := o_bind h
  refine ft (fr_upd rfl gu1) ?_
  cases h
  exact fr_refl _ _
theorem fbX12_next0_146_289 {u' : Mem} (l1 t0 : Int32) (u : Mem) (h : FX12_next0_146_b289 l1 t0 u = some u') : FrL [146] u u' := by
  unfold FX12_next0_146_b289 at h
  rcases io h with ⟨c1, h⟩ | ⟨c1, h⟩
  · skip
    exact fbX12_next0_146_303 1 u h
  · skip
    exact fbX12_next0_146_303 (100 + l1) u h
theorem fbX12_next0_146_208 {u' : Mem} (t1 : Int32) (u : Mem) (h : FX12_next0_146_b208 t1 u = some u') : FrL [146] u u' := by
  unfold FX12_next0_146_b208 at h
  obtain ⟨u1, gu1, h⟩ := o_bind h
  refine ft (fr_upd rfl gu1) ?_
  cases h
  exact fr_refl _ _
theorem fbX12_next0_146_176 {u' : Mem} {k126 : Mem → Option Mem} (hk126 : ∀ (u : Mem), k126 u = some u' → FrL [146] u u') (u : Mem) (h : FX12_next0_146_b176 k126 u = some u') : FrL [146] u u' := by
  unfold FX12_next0_146_b176 at h
  obtain ⟨u1, gu1, h⟩ := o_bind h
  refine ft (fr_upd rfl gu1) ?_
  exact hk126 u1 h
theorem fbX12_next0_146_126 {u' : Mem} {k126 : Mem → Option Mem} (hk126 : ∀ (u : Mem), k126 u = some u' → FrL [146] u u') (u : Mem) (h : FX12_next0_146_b126 k126 u = some u') : FrL [146] u u' := by
  unfold FX12_next0_146_b126 at h
  obtain ⟨x1, gx1, h⟩ := o_bind h
  obtain ⟨x2, gx2, h⟩ := o_bind h
  rcases io h with ⟨c3, h⟩ | ⟨c3, h⟩
  · skip
    rcases io h with ⟨c4, h⟩ | ⟨c4, h⟩
    · skip
      exact fbX12_next0_146_208 1 u h
    · skip
      exact fbX12_next0_146_208 2 u h
  · skip
    rcases io h with ⟨c5, h⟩ | ⟨c5, h⟩
    · skip
      exact fbX12_next0_146_176 hk126 u h
    · skip
      obtain ⟨x6, gx6, h⟩ := o_bind h
      obtain ⟨u7, gu7, h⟩ := o_bind h
      refine ft (fr_upd rfl gu7) ?_
      exact fbX12_next0_146_176 hk126 u7 h
theorem flX12_next0_146_126 {u' : Mem} : ∀ (n : Nat) (u : Mem), FX12_next0_146_L126 n u = some u' → FrL [146] u u' := by
  intro n
  induction n with
  | zero =>
    intro u h
    exact nn_ h
  | succ n ih =>
    intro u h
    exact fbX12_next0_146_126 ih u h
theorem fbX12_next0_146_76 {u' : Mem} {k76 : Mem → Option Mem} (hk76 : ∀ (u : Mem), k76 u = some u' → FrL [146] u u') (u : Mem) (h : FX12_next0_146_b76 k76 u = some u') : FrL [146] u u' := by
  unfold FX12_next0_146_b76 at h
  obtain ⟨x1, gx1, h⟩ := o_bind h
  obtain ⟨x2, gx2, h⟩ := o_bind h
  rcases io h with ⟨c3, h⟩ | ⟨c3, h⟩
  · skip
    obtain ⟨x4, gx4, h⟩ := o_bind h
    obtain ⟨u5, gu5, h⟩ := o_bind h
    refine ft (fr_upd rfl gu5) ?_
    cases h
    exact fr_refl _ _
  · skip
    obtain ⟨u6, gu6, h⟩ := o_bind h
    refine ft (fr_upd rfl gu6) ?_
    exact hk76 u6 h
theorem flX12_next0_146_76 {u' : Mem} : ∀ (n : Nat) (u : Mem), FX12_next0_146_L76 n u = some u' → FrL [146] u u' := by
  intro n
  induction n with
  | zero =>
    intro u h
    exact nn_ h
  | succ n ih =>
    intro u h
    exact fbX12_next0_146_76 ih u h
theorem fbX12_next0_146_26 {u' : Mem} {k0 : Mem → Option Mem} (hk0 : ∀ (u : Mem), k0 u = some u' → FrL [146] u u') (u : Mem) (h : FX12_next0_146_b26 k0 u = some u') : FrL [146] u u' := by
  unfold FX12_next0_146_b26 at h
  obtain ⟨u1, gu1, h⟩ := o_bind h
  refine ft (fr_upd rfl gu1) ?_
  exact hk0 u1 h
theorem fbX12_next0_146_0 {u' : Mem} {k0 : Mem → Option Mem} (hk0 : ∀ (u : Mem), k0 u = some u' → FrL [146] u u') (u : Mem) (h : FX12_next0_146_b0 k0 u = some u') : FrL [146] u u' := by
  unfold FX12_next0_146_b0 at h
  obtain ⟨x1, gx1, h⟩ := o_bind h
  rcases io h with ⟨c2, h⟩ | ⟨c2, h⟩
  · skip
    exact fbX12_next0_146_26 hk0 u h
  · skip
    obtain ⟨x3, gx3, h⟩ := o_bind h
    rcases oi h with ⟨c4, h⟩ | ⟨c4, h⟩
    · skip
      obtain ⟨u5, gu5, h⟩ := o_bind h
      refine ft (fr_upd rfl gu5) ?_
      obtain ⟨x6, gx6, h⟩ := o_bind h
      rcases oi h with ⟨c7, h⟩ | ⟨c7, h⟩
      · skip
        obtain ⟨x8, gx8, h⟩ := o_bind h
        rcases io h with ⟨c9, h⟩ | ⟨c9, h⟩
        · skip
          obtain ⟨x10, gx10, h⟩ := o_bind h
          rcases io h with ⟨c11, h⟩ | ⟨c11, h⟩
          · skip
            obtain ⟨u12, gu12, h⟩ := o_bind h
            refine ft (fr_upd rfl gu12) ?_
            rcases io h with ⟨c13, h⟩ | ⟨c13, h⟩
            · skip
              exact fbX12_next0_146_289 x6 1 u12 h
            · skip
              rcases io h with ⟨c14, h⟩ | ⟨c14, h⟩
              · skip
                exact fbX12_next0_146_289 x6 1 u12 h
              · skip
                rcases io h with ⟨c15, h⟩ | ⟨c15, h⟩
                · skip
                  exact fbX12_next0_146_289 x6 1 u12 h
                · skip
                  rcases io h with ⟨c16, h⟩ | ⟨c16, h⟩
                  · skip
                    exact fbX12_next0_146_289 x6 1 u12 h
                  · skip
                    rcases io h with ⟨c17, h⟩ | ⟨c17, h⟩
                    · skip
                      exact fbX12_next0_146_289 x6 1 u12 h
                    · skip
                      rcases io h with ⟨c18, h⟩ | ⟨c18, h⟩
                      · skip
                        exact fbX12_next0_146_289 x6 1 u12 h
                      · skip
                        rcases io h with ⟨c19, h⟩ | ⟨c19, h⟩
                        · skip
                          exact fbX12_next0_146_289 x6 1 u12 h
                        · skip
                          rcases io h with ⟨c20, h⟩ | ⟨c20, h⟩
                          · skip
                            exact fbX12_next0_146_289 x6 1 u12 h
                          · skip
                            rcases io h with ⟨c21, h⟩ | ⟨c21, h⟩
                            · skip
                              exact fbX12_next0_146_289 x6 1 u12 h
                            · skip
                              rcases oi h with ⟨c22, h⟩ | ⟨c22, h⟩
                              · skip
                                exact fbX12_next0_146_289 x6 0 u12 h
                              · skip
                                exact fbX12_next0_146_289 x6 1 u12 h
          · skip
            obtain ⟨u23, gu23, h⟩ := o_bind h
            refine ft (fr_upd rfl gu23) ?_
            exact flX12_next0_146_126 FU u23 h
        · skip
          exact flX12_next0_146_76 FU u5 h
      · skip
        obtain ⟨u24, gu24, h⟩ := o_bind h
        refine ft (fr_upd rfl gu24) ?_
        cases h
        exact fr_refl _ _
    · skip
      exact fbX12_next0_146_26 hk0 u h
theorem flX12_next0_146_0 {u' : Mem} : ∀ (n : Nat) (u : Mem), FX12_next0_146_L0 n u = some u' → FrL [146] u u' := by
  intro n
  induction n with
  | zero =>
    intro u h
    exact nn_ h
  | succ n ih =>
    intro u h
    exact fbX12_next0_146_0 ih u h
theorem frX12_next0_146 (u : Mem) {u' : Mem} (h : FX12_next0_146 u = some u') : FrL [146] u u' := by
  unfold FX12_next0_146 at h
  exact flX12_next0_146_0 FU u h
theorem frX12_bad_146 (p1 : Int32) (u : Mem) {v : Int32} {u' : Mem} (h : FX12_bad_146 p1 u = some (v, u')) : FrL [146] u u' := by
  unfold FX12_bad_146 at h
  obtain ⟨u1, gu1, h⟩ := o_bind h
  refine ft (fr_upd rfl gu1) ?_
  obtain ⟨u2, gu2, h⟩ := o_bind h
  refine ft (fr_upd rfl gu2) ?_
  cases h
  exact fr_refl _ _
theorem frX12_need_146 (p1 : Int32) (u : Mem) {v : Int32} {u' : Mem} (h : FX12_need_146 p1 u = some (v, u')) : FrL [146] u u' := by
  unfold FX12_need_146 at h
  rcases io h with ⟨c1, h⟩ | ⟨c1, h⟩
  · skip
    obtain ⟨u3, gu3, h⟩ := o_bind h
    refine ft (fr_mono rfl (frX12_next0_146 u gu3)) ?_
    cases h
    exact fr_refl _ _
  · skip
    obtain ⟨x4, u5, gx4, h⟩ := o_bnd2 h
    refine ft (fr_mono rfl (frX12_bad_146 1 u gx4)) ?_
    obtain ⟨x6, gx6, h⟩ := o_bind h
    cases h
    exact fr_refl _ _
theorem frX12_number_146 (p1 p2 : Int32) (u : Mem) {v : Int32} {u' : Mem} (h : FX12_number_146 p1 p2 u = some (v, u')) : FrL [146] u u' := by
  unfold FX12_number_146 at h
  rcases io h with ⟨c1, h⟩ | ⟨c1, h⟩
  · skip
    obtain ⟨x2, gx2, h⟩ := o_bind h
    rcases oi h with ⟨c3, h⟩ | ⟨c3, h⟩
    · skip
      obtain ⟨u4, gu4, h⟩ := o_bind h
      refine ft (fr_upd rfl gu4) ?_
      obtain ⟨u6, gu6, h⟩ := o_bind h
      refine ft (fr_mono rfl (frX12_next0_146 u4 gu6)) ?_
      cases h
      exact fr_refl _ _
    · skip
      obtain ⟨x7, u8, gx7, h⟩ := o_bnd2 h
      refine ft (fr_mono rfl (frX12_bad_146 2 u gx7)) ?_
      obtain ⟨x9, gx9, h⟩ := o_bind h
      cases h
      exact fr_refl _ _
  · skip
    obtain ⟨x10, u11, gx10, h⟩ := o_bnd2 h
    refine ft (fr_mono rfl (frX12_bad_146 1 u gx10)) ?_
    obtain ⟨x12, gx12, h⟩ := o_bind h
    cases h
    exact fr_refl _ _
theorem fbX12_anOrder_146_61 {v : Int32} {u' : Mem} (u : Mem) (h : FX12_anOrder_146_b61 u = some (v, u')) : FrL [146, 153] u u' := by
  unfold FX12_anOrder_146_b61 at h
  obtain ⟨u1, gu1, h⟩ := o_bind h
  refine ft (fr_wr rfl gu1) ?_
  obtain ⟨u3, gu3, h⟩ := o_bind h
  refine ft (fr_mono rfl (frX12_next0_146 u1 gu3)) ?_
  obtain ⟨x4, u5, gx4, h⟩ := o_bnd2 h
  refine ft (fr_mono rfl (frX12_number_146 0 1 u3 gx4)) ?_
  rcases oi h with ⟨c6, h⟩ | ⟨c6, h⟩
  · skip
    obtain ⟨u7, gu7, h⟩ := o_bind h
    refine ft (fr_wr rfl gu7) ?_
    obtain ⟨x8, u9, gx8, h⟩ := o_bnd2 h
    refine ft (fr_mono rfl (frX12_need_146 159 u7 gx8)) ?_
    obtain ⟨x10, gx10, h⟩ := o_bind h
    cases h
    exact fr_refl _ _
  · skip
    cases h
    exact fr_refl _ _
theorem frX12_anOrder_146 (u : Mem) {v : Int32} {u' : Mem} (h : FX12_anOrder_146 u = some (v, u')) : FrL [146, 153] u u' := by
  unfold FX12_anOrder_146 at h
  obtain ⟨x1, u2, gx1, h⟩ := o_bnd2 h
  refine ft (fr_mono rfl (frX12_need_146 10 u gx1)) ?_
  rcases io h with ⟨c3, h⟩ | ⟨c3, h⟩
  · skip
    cases h
    exact fr_refl _ _
  · skip
    obtain ⟨x4, u5, gx4, h⟩ := o_bnd2 h
    refine ft (fr_mono rfl (frX12_number_146 0 999 u2 gx4)) ?_
    rcases oi h with ⟨c6, h⟩ | ⟨c6, h⟩
    · skip
      obtain ⟨u7, gu7, h⟩ := o_bind h
      refine ft (fr_wr rfl gu7) ?_
      rcases io h with ⟨c8, h⟩ | ⟨c8, h⟩
      · skip
        exact fbX12_anOrder_146_61 u7 h
      · skip
        rcases io h with ⟨c9, h⟩ | ⟨c9, h⟩
        · skip
          exact fbX12_anOrder_146_61 u7 h
        · skip
          obtain ⟨x10, u11, gx10, h⟩ := o_bnd2 h
          refine ft (fr_mono rfl (frX12_bad_146 1 u7 gx10)) ?_
          obtain ⟨x12, gx12, h⟩ := o_bind h
          cases h
          exact fr_refl _ _
    · skip
      cases h
      exact fr_refl _ _
theorem frX12_aWeight_146 (u : Mem) {v : Int32} {u' : Mem} (h : FX12_aWeight_146 u = some (v, u')) : FrL [146, 153] u u' := by
  unfold FX12_aWeight_146 at h
  obtain ⟨x1, u2, gx1, h⟩ := o_bnd2 h
  refine ft (fr_mono rfl (frX12_need_146 8 u gx1)) ?_
  rcases io h with ⟨c3, h⟩ | ⟨c3, h⟩
  · skip
    cases h
    exact fr_refl _ _
  · skip
    obtain ⟨x4, u5, gx4, h⟩ := o_bnd2 h
    refine ft (fr_mono rfl (frX12_number_146 0 7 u2 gx4)) ?_
    rcases oi h with ⟨c6, h⟩ | ⟨c6, h⟩
    · skip
      obtain ⟨u7, gu7, h⟩ := o_bind h
      refine ft (fr_wr rfl gu7) ?_
      obtain ⟨x8, u9, gx8, h⟩ := o_bnd2 h
      refine ft (fr_mono rfl (frX12_need_146 9 u7 gx8)) ?_
      rcases io h with ⟨c10, h⟩ | ⟨c10, h⟩
      · skip
        cases h
        exact fr_refl _ _
      · skip
        obtain ⟨x11, u12, gx11, h⟩ := o_bnd2 h
        refine ft (fr_mono rfl (frX12_number_146 0 99 u9 gx11)) ?_
        rcases oi h with ⟨c13, h⟩ | ⟨c13, h⟩
        · skip
          obtain ⟨u14, gu14, h⟩ := o_bind h
          refine ft (fr_wr rfl gu14) ?_
          obtain ⟨x15, u16, gx15, h⟩ := o_bnd2 h
          refine ft (fr_mono rfl (frX12_need_146 159 u14 gx15)) ?_
          obtain ⟨x17, gx17, h⟩ := o_bind h
          cases h
          exact fr_refl _ _
        · skip
          cases h
          exact fr_refl _ _
    · skip
      cases h
      exact fr_refl _ _
theorem fbX12_another_146_22 {v : Int32} {u' : Mem} (u : Mem) (h : FX12_another_146_b22 u = some (v, u')) : FrL [146, 153] u u' := by
  unfold FX12_another_146_b22 at h
  obtain ⟨x1, u2, gx1, h⟩ := o_bnd2 h
  refine ft (fr_mono rfl (frX12_number_146 0 ((u 147 78) - 1) u gx1)) ?_
  rcases oi h with ⟨c3, h⟩ | ⟨c3, h⟩
  · skip
    obtain ⟨x4, gx4, h⟩ := o_bind h
    obtain ⟨u5, gu5, h⟩ := o_bind h
    refine ft (fr_wr rfl gu5) ?_
    cases h
    exact fr_refl _ _
  · skip
    cases h
    exact fr_refl _ _
theorem frX12_another_146 (p1 : Int32) (u : Mem) {v : Int32} {u' : Mem} (h : FX12_another_146 p1 u = some (v, u')) : FrL [146, 153] u u' := by
  unfold FX12_another_146 at h
  rcases oi h with ⟨c1, h⟩ | ⟨c1, h⟩
  · skip
    exact fbX12_another_146_22 u h
  · skip
    rcases oi h with ⟨c2, h⟩ | ⟨c2, h⟩
    · skip
      exact fbX12_another_146_22 u h
    · skip
      obtain ⟨x3, u4, gx3, h⟩ := o_bnd2 h
      refine ft (fr_mono rfl (frX12_bad_146 2 u gx3)) ?_
      obtain ⟨x5, gx5, h⟩ := o_bind h
      cases h
      exact fr_refl _ _
theorem fbX12_aTelling_146_69 {v : Int32} {u' : Mem} {k69 : Int32 → Mem → Option (Int32 × Mem)} (hk69 : ∀ (l1 : Int32) (u : Mem), k69 l1 u = some (v, u') → FrL [146, 153] u u') (l1 : Int32) (u : Mem) (h : FX12_aTelling_146_b69 k69 l1 u = some (v, u')) : FrL [146, 153] u u' := by
  unfold FX12_aTelling_146_b69 at h
  rcases oi h with ⟨c1, h⟩ | ⟨c1, h⟩
  · skip
    obtain ⟨x2, u3, gx2, h⟩ := o_bnd2 h
    refine ft (fr_mono rfl (frX12_need_146 159 u gx2)) ?_
    obtain ⟨x4, gx4, h⟩ := o_bind h
    cases h
    exact fr_refl _ _
  · skip
    obtain ⟨u6, gu6, h⟩ := o_bind h
    refine ft (fr_mono rfl (frX12_next0_146 u gu6)) ?_
    obtain ⟨x7, u8, gx7, h⟩ := o_bnd2 h
    refine ft (fr_mono rfl (frX12_another_146 l1 u6 gx7)) ?_
    rcases oi h with ⟨c9, h⟩ | ⟨c9, h⟩
    · skip
      exact hk69 l1 u8 h
    · skip
      cases h
      exact fr_refl _ _
theorem flX12_aTelling_146_69 {v : Int32} {u' : Mem} : ∀ (n : Nat) (l1 : Int32) (u : Mem), FX12_aTelling_146_L69 n l1 u = some (v, u') → FrL [146, 153] u u' := by
  intro n
  induction n with
  | zero =>
    intro l1 u h
    exact nn_ h
  | succ n ih =>
    intro l1 u h
    exact fbX12_aTelling_146_69 ih l1 u h
theorem frX12_aTelling_146 (u : Mem) {v : Int32} {u' : Mem} (h : FX12_aTelling_146 u = some (v, u')) : FrL [146, 153] u u' := by
  unfold FX12_aTelling_146 at h
  obtain ⟨x1, u2, gx1, h⟩ := o_bnd2 h
  refine ft (fr_mono rfl (frX12_number_146 0 ((u 147 78) - 1) u gx1)) ?_
  rcases oi h with ⟨c3, h⟩ | ⟨c3, h⟩
  · skip
    obtain ⟨u4, gu4, h⟩ := o_bind h
    refine ft (fr_wr rfl gu4) ?_
    obtain ⟨u5, gu5, h⟩ := o_bind h
    refine ft (fr_wr rfl gu5) ?_
    obtain ⟨x6, u7, gx6, h⟩ := o_bnd2 h
    refine ft (fr_mono rfl (frX12_need_146 7 u5 gx6)) ?_
    rcases io h with ⟨c8, h⟩ | ⟨c8, h⟩
    · skip
      cases h
      exact fr_refl _ _
    · skip
      obtain ⟨x9, u10, gx9, h⟩ := o_bnd2 h
      refine ft (fr_mono rfl (frX12_another_146 (u2 146 26) u7 gx9)) ?_
      rcases oi h with ⟨c11, h⟩ | ⟨c11, h⟩
      · skip
        exact flX12_aTelling_146_69 FU (u2 146 26) u10 h
      · skip
        cases h
        exact fr_refl _ _
  · skip
    cases h
    exact fr_refl _ _
theorem frX12_aRow_146 (u : Mem) {v : Int32} {u' : Mem} (h : FX12_aRow_146 u = some (v, u')) : FrL [146, 153] u u' := by
  unfold FX12_aRow_146 at h
  rcases oi h with ⟨c1, h⟩ | ⟨c1, h⟩
  · skip
    rcases oi h with ⟨c2, h⟩ | ⟨c2, h⟩
    · skip
      obtain ⟨x3, u4, gx3, h⟩ := o_bnd2 h
      refine ft (fr_mono rfl (frX12_anOrder_146 u gx3)) ?_
      obtain ⟨x5, gx5, h⟩ := o_bind h
      cases h
      exact fr_refl _ _
    · skip
      obtain ⟨x6, u7, gx6, h⟩ := o_bnd2 h
      refine ft (fr_mono rfl (frX12_aWeight_146 u gx6)) ?_
      obtain ⟨x8, gx8, h⟩ := o_bind h
      cases h
      exact fr_refl _ _
  · skip
    obtain ⟨x9, u10, gx9, h⟩ := o_bnd2 h
    refine ft (fr_mono rfl (frX12_aTelling_146 u gx9)) ?_
    obtain ⟨x11, gx11, h⟩ := o_bind h
    cases h
    exact fr_refl _ _
theorem fbX12_readsRows_146_66 {v : Int32} {u' : Mem} (l1 : Int32) (u : Mem) (h : FX12_readsRows_146_b66 l1 u = some (v, u')) : FrL [146, 153] u u' := by
  unfold FX12_readsRows_146_b66 at h
  obtain ⟨x1, gx1, h⟩ := o_bind h
  cases h
  exact fr_refl _ _
theorem fbX12_readsRows_146_59 {v : Int32} {u' : Mem} {k7 : Int32 → Mem → Option (Int32 × Mem)} (hk7 : ∀ (l1 : Int32) (u : Mem), k7 l1 u = some (v, u') → FrL [146, 153] u u') (l1 t1 t2 : Int32) (u : Mem) (h : FX12_readsRows_146_b59 k7 l1 t1 t2 u = some (v, u')) : FrL [146, 153] u u' := by
  unfold FX12_readsRows_146_b59 at h
  obtain ⟨u1, gu1, h⟩ := o_bind h
  refine ft (fr_upd rfl gu1) ?_
  exact hk7 l1 u1 h
theorem fbX12_readsRows_146_40 {v : Int32} {u' : Mem} {k7 : Int32 → Mem → Option (Int32 × Mem)} (hk7 : ∀ (l1 : Int32) (u : Mem), k7 l1 u = some (v, u') → FrL [146, 153] u u') (u : Mem) (h : FX12_readsRows_146_b40 k7 u = some (v, u')) : FrL [146, 153] u u' := by
  unfold FX12_readsRows_146_b40 at h
  obtain ⟨x1, u2, gx1, h⟩ := o_bnd2 h
  refine ft (fr_mono rfl (frX12_aRow_146 u gx1)) ?_
  rcases io h with ⟨c3, h⟩ | ⟨c3, h⟩
  · skip
    exact fbX12_readsRows_146_59 hk7 x1 (u2 146 15) 0 u2 h
  · skip
    exact fbX12_readsRows_146_59 hk7 x1 (u2 146 15) 1 u2 h
theorem fbX12_readsRows_146_7 {v : Int32} {u' : Mem} {k7 : Int32 → Mem → Option (Int32 × Mem)} (hk7 : ∀ (l1 : Int32) (u : Mem), k7 l1 u = some (v, u') → FrL [146, 153] u u') (l1 : Int32) (u : Mem) (h : FX12_readsRows_146_b7 k7 l1 u = some (v, u')) : FrL [146, 153] u u' := by
  unfold FX12_readsRows_146_b7 at h
  rcases io h with ⟨c1, h⟩ | ⟨c1, h⟩
  · skip
    exact fbX12_readsRows_146_66 l1 u h
  · skip
    rcases io h with ⟨c2, h⟩ | ⟨c2, h⟩
    · skip
      exact fbX12_readsRows_146_66 l1 u h
    · skip
      rcases oi h with ⟨c3, h⟩ | ⟨c3, h⟩
      · skip
        exact fbX12_readsRows_146_40 hk7 u h
      · skip
        obtain ⟨x4, gx4, h⟩ := o_bind h
        rcases io h with ⟨c5, h⟩ | ⟨c5, h⟩
        · skip
          exact fbX12_readsRows_146_40 hk7 u h
        · skip
          obtain ⟨x6, u7, gx6, h⟩ := o_bnd2 h
          refine ft (fr_mono rfl (frX12_bad_146 3 u gx6)) ?_
          obtain ⟨x8, gx8, h⟩ := o_bind h
          cases h
          exact fr_refl _ _
theorem flX12_readsRows_146_7 {v : Int32} {u' : Mem} : ∀ (n : Nat) (l1 : Int32) (u : Mem), FX12_readsRows_146_L7 n l1 u = some (v, u') → FrL [146, 153] u u' := by
  intro n
  induction n with
  | zero =>
    intro l1 u h
    exact nn_ h
  | succ n ih =>
    intro l1 u h
    exact fbX12_readsRows_146_7 ih l1 u h
theorem frX12_readsRows_146 (u : Mem) {v : Int32} {u' : Mem} (h : FX12_readsRows_146 u = some (v, u')) : FrL [146, 153] u u' := by
  unfold FX12_readsRows_146 at h
  obtain ⟨u1, gu1, h⟩ := o_bind h
  refine ft (fr_upd rfl gu1) ?_
  exact flX12_readsRows_146_7 FU 1 u1 h
theorem frX12_lay_146 (p1 p2 : Int32) (u : Mem) {u' : Mem} (h : FX12_lay_146 p1 p2 u = some u') : FrL [146, 152] u u' := by
  unfold FX12_lay_146 at h
  obtain ⟨u1, gu1, h⟩ := o_bind h
  refine ft (fr_wr rfl gu1) ?_
  obtain ⟨u2, gu2, h⟩ := o_bind h
  refine ft (fr_wr rfl gu2) ?_
  obtain ⟨u3, gu3, h⟩ := o_bind h
  refine ft (fr_upd rfl gu3) ?_
  cases h
  exact fr_refl _ _
theorem fbX12_unit_146_46 {v : Int32} {u' : Mem} (t1 : Int32) (u : Mem) (h : FX12_unit_146_b46 t1 u = some (v, u')) : FrL [146, 152] u u' := by
  unfold FX12_unit_146_b46 at h
  obtain ⟨u2, gu2, h⟩ := o_bind h
  refine ft (fr_mono rfl (frX12_lay_146 t1 (u 146 20) u gu2)) ?_
  obtain ⟨u4, gu4, h⟩ := o_bind h
  refine ft (fr_mono rfl (frX12_next0_146 u2 gu4)) ?_
  cases h
  exact fr_refl _ _
theorem fbX12_unit_146_30 {v : Int32} {u' : Mem} (l1 : Int32) (u : Mem) (h : FX12_unit_146_b30 l1 u = some (v, u')) : FrL [146, 152] u u' := by
  unfold FX12_unit_146_b30 at h
  rcases io h with ⟨c1, h⟩ | ⟨c1, h⟩
  · skip
    exact fbX12_unit_146_46 0 u h
  · skip
    exact fbX12_unit_146_46 ((u 146 18) - 40) u h
theorem frX12_unit_146 (u : Mem) {v : Int32} {u' : Mem} (h : FX12_unit_146 u = some (v, u')) : FrL [146, 152] u u' := by
  unfold FX12_unit_146 at h
  obtain ⟨x1, gx1, h⟩ := o_bind h
  rcases io h with ⟨c2, h⟩ | ⟨c2, h⟩
  · skip
    exact fbX12_unit_146_30 x1 u h
  · skip
    rcases oi h with ⟨c3, h⟩ | ⟨c3, h⟩
    · skip
      exact fbX12_unit_146_30 x1 u h
    · skip
      obtain ⟨x4, u5, gx4, h⟩ := o_bnd2 h
      refine ft (fr_mono rfl (frX12_bad_146 1 u gx4)) ?_
      obtain ⟨x6, gx6, h⟩ := o_bind h
      cases h
      exact fr_refl _ _
theorem fbX12_product_146_44 {v : Int32} {u' : Mem} {k9 : Mem → Option (Int32 × Mem)} (hk9 : ∀ (u : Mem), k9 u = some (v, u') → FrL [146, 152] u u') (t0 : Int32) (u : Mem) (h : FX12_product_146_b44 k9 t0 u = some (v, u')) : FrL [146, 152] u u' := by
  unfold FX12_product_146_b44 at h
  obtain ⟨u2, gu2, h⟩ := o_bind h
  refine ft (fr_mono rfl (frX12_next0_146 u gu2)) ?_
  rcases io h with ⟨c3, h⟩ | ⟨c3, h⟩
  · skip
    obtain ⟨x4, u5, gx4, h⟩ := o_bnd2 h
    refine ft (fr_mono rfl (frX12_unit_146 u2 gx4)) ?_
    rcases oi h with ⟨c6, h⟩ | ⟨c6, h⟩
    · skip
      obtain ⟨u8, gu8, h⟩ := o_bind h
      refine ft (fr_mono rfl (frX12_lay_146 25 0 u5 gu8)) ?_
      exact hk9 u8 h
    · skip
      cases h
      exact fr_refl _ _
  · skip
    rcases io h with ⟨c9, h⟩ | ⟨c9, h⟩
    · skip
      rcases oi h with ⟨c10, h⟩ | ⟨c10, h⟩
      · skip
        obtain ⟨u12, gu12, h⟩ := o_bind h
        refine ft (fr_mono rfl (frX12_next0_146 u2 gu12)) ?_
        obtain ⟨u14, gu14, h⟩ := o_bind h
        refine ft (fr_mono rfl (frX12_lay_146 26 (u2 146 20) u12 gu14)) ?_
        exact hk9 u14 h
      · skip
        obtain ⟨x15, u16, gx15, h⟩ := o_bnd2 h
        refine ft (fr_mono rfl (frX12_bad_146 2 u2 gx15)) ?_
        obtain ⟨x17, gx17, h⟩ := o_bind h
        cases h
        exact fr_refl _ _
    · skip
      obtain ⟨x18, u19, gx18, h⟩ := o_bnd2 h
      refine ft (fr_mono rfl (frX12_bad_146 1 u2 gx18)) ?_
      obtain ⟨x20, gx20, h⟩ := o_bind h
      cases h
      exact fr_refl _ _
theorem fbX12_product_146_29 {v : Int32} {u' : Mem} {k9 : Mem → Option (Int32 × Mem)} (hk9 : ∀ (u : Mem), k9 u = some (v, u') → FrL [146, 152] u u') (u : Mem) (h : FX12_product_146_b29 k9 u = some (v, u')) : FrL [146, 152] u u' := by
  unfold FX12_product_146_b29 at h
  rcases oi h with ⟨c1, h⟩ | ⟨c1, h⟩
  · skip
    exact fbX12_product_146_44 hk9 0 u h
  · skip
    exact fbX12_product_146_44 hk9 1 u h
theorem fbX12_product_146_9 {v : Int32} {u' : Mem} {k9 : Mem → Option (Int32 × Mem)} (hk9 : ∀ (u : Mem), k9 u = some (v, u') → FrL [146, 152] u u') (u : Mem) (h : FX12_product_146_b9 k9 u = some (v, u')) : FrL [146, 152] u u' := by
  unfold FX12_product_146_b9 at h
  rcases io h with ⟨c1, h⟩ | ⟨c1, h⟩
  · skip
    exact fbX12_product_146_29 hk9 u h
  · skip
    rcases oi h with ⟨c2, h⟩ | ⟨c2, h⟩
    · skip
      cases h
      exact fr_refl _ _
    · skip
      exact fbX12_product_146_29 hk9 u h
theorem flX12_product_146_9 {v : Int32} {u' : Mem} : ∀ (n : Nat) (u : Mem), FX12_product_146_L9 n u = some (v, u') → FrL [146, 152] u u' := by
  intro n
  induction n with
  | zero =>
    intro u h
    exact nn_ h
  | succ n ih =>
    intro u h
    exact fbX12_product_146_9 ih u h
theorem frX12_product_146 (u : Mem) {v : Int32} {u' : Mem} (h : FX12_product_146 u = some (v, u')) : FrL [146, 152] u u' := by
  unfold FX12_product_146 at h
  obtain ⟨x1, u2, gx1, h⟩ := o_bnd2 h
  refine ft (fr_mono rfl (frX12_unit_146 u gx1)) ?_
  rcases oi h with ⟨c3, h⟩ | ⟨c3, h⟩
  · skip
    exact flX12_product_146_9 FU u2 h
  · skip
    cases h
    exact fr_refl _ _
theorem fbX12_sumUp_146_46 {v : Int32} {u' : Mem} {k9 : Mem → Option (Int32 × Mem)} (hk9 : ∀ (u : Mem), k9 u = some (v, u') → FrL [146, 152] u u') (t0 : Int32) (u : Mem) (h : FX12_sumUp_146_b46 k9 t0 u = some (v, u')) : FrL [146, 152] u u' := by
  unfold FX12_sumUp_146_b46 at h
  obtain ⟨u2, gu2, h⟩ := o_bind h
  refine ft (fr_mono rfl (frX12_next0_146 u gu2)) ?_
  obtain ⟨x3, u4, gx3, h⟩ := o_bnd2 h
  refine ft (fr_mono rfl (frX12_product_146 u2 gx3)) ?_
  rcases oi h with ⟨c5, h⟩ | ⟨c5, h⟩
  · skip
    obtain ⟨u7, gu7, h⟩ := o_bind h
    refine ft (fr_mono rfl (frX12_lay_146 t0 0 u4 gu7)) ?_
    exact hk9 u7 h
  · skip
    cases h
    exact fr_refl _ _
theorem fbX12_sumUp_146_29 {v : Int32} {u' : Mem} {k9 : Mem → Option (Int32 × Mem)} (hk9 : ∀ (u : Mem), k9 u = some (v, u') → FrL [146, 152] u u') (u : Mem) (h : FX12_sumUp_146_b29 k9 u = some (v, u')) : FrL [146, 152] u u' := by
  unfold FX12_sumUp_146_b29 at h
  rcases oi h with ⟨c1, h⟩ | ⟨c1, h⟩
  · skip
    exact fbX12_sumUp_146_46 hk9 24 u h
  · skip
    exact fbX12_sumUp_146_46 hk9 23 u h
theorem fbX12_sumUp_146_9 {v : Int32} {u' : Mem} {k9 : Mem → Option (Int32 × Mem)} (hk9 : ∀ (u : Mem), k9 u = some (v, u') → FrL [146, 152] u u') (u : Mem) (h : FX12_sumUp_146_b9 k9 u = some (v, u')) : FrL [146, 152] u u' := by
  unfold FX12_sumUp_146_b9 at h
  rcases io h with ⟨c1, h⟩ | ⟨c1, h⟩
  · skip
    exact fbX12_sumUp_146_29 hk9 u h
  · skip
    rcases oi h with ⟨c2, h⟩ | ⟨c2, h⟩
    · skip
      cases h
      exact fr_refl _ _
    · skip
      exact fbX12_sumUp_146_29 hk9 u h
theorem flX12_sumUp_146_9 {v : Int32} {u' : Mem} : ∀ (n : Nat) (u : Mem), FX12_sumUp_146_L9 n u = some (v, u') → FrL [146, 152] u u' := by
  intro n
  induction n with
  | zero =>
    intro u h
    exact nn_ h
  | succ n ih =>
    intro u h
    exact fbX12_sumUp_146_9 ih u h
theorem frX12_sumUp_146 (u : Mem) {v : Int32} {u' : Mem} (h : FX12_sumUp_146 u = some (v, u')) : FrL [146, 152] u u' := by
  unfold FX12_sumUp_146 at h
  obtain ⟨x1, u2, gx1, h⟩ := o_bnd2 h
  refine ft (fr_mono rfl (frX12_product_146 u gx1)) ?_
  rcases oi h with ⟨c3, h⟩ | ⟨c3, h⟩
  · skip
    exact flX12_sumUp_146_9 FU u2 h
  · skip
    cases h
    exact fr_refl _ _
theorem frX12_opens_146 (u : Mem) {v : Int32} {u' : Mem} (h : FX12_opens_146 u = some (v, u')) : FrL [146] u u' := by
  unfold FX12_opens_146 at h
  rcases oi h with ⟨c1, h⟩ | ⟨c1, h⟩
  · skip
    obtain ⟨u2, gu2, h⟩ := o_bind h
    refine ft (fr_upd rfl gu2) ?_
    obtain ⟨u4, gu4, h⟩ := o_bind h
    refine ft (fr_mono rfl (frX12_next0_146 u2 gu4)) ?_
    cases h
    exact fr_refl _ _
  · skip
    obtain ⟨x5, u6, gx5, h⟩ := o_bnd2 h
    refine ft (fr_mono rfl (frX12_bad_146 3 u gx5)) ?_
    obtain ⟨x7, gx7, h⟩ := o_bind h
    cases h
    exact fr_refl _ _
theorem fbX12_every_146_9 {v : Int32} {u' : Mem} {kc : Mem → Option (Int32 × Mem)} (hkc : ∀ (w : Mem) {z : Int32} {w' : Mem}, kc  w = some (z, w') → FrL [146, 152] w w') {k9 : Mem → Option (Int32 × Mem)} (hk9 : ∀ (u : Mem), k9 u = some (v, u') → FrL [146, 152] u u') (u : Mem) (h : FX12_every_146_b9 kc k9 u = some (v, u')) : FrL [146, 152] u u' := by
  unfold FX12_every_146_b9 at h
  rcases oi h with ⟨c1, h⟩ | ⟨c1, h⟩
  · skip
    cases h
    exact fr_refl _ _
  · skip
    obtain ⟨u3, gu3, h⟩ := o_bind h
    refine ft (fr_mono rfl (frX12_next0_146 u gu3)) ?_
    obtain ⟨x4, u5, gx4, h⟩ := o_bnd2 h
    refine ft (fr_mono rfl (hkc u3 gx4)) ?_
    rcases oi h with ⟨c6, h⟩ | ⟨c6, h⟩
    · skip
      obtain ⟨u8, gu8, h⟩ := o_bind h
      refine ft (fr_mono rfl (frX12_lay_146 31 0 u5 gu8)) ?_
      exact hk9 u8 h
    · skip
      cases h
      exact fr_refl _ _
theorem flX12_every_146_9 {v : Int32} {u' : Mem} {kc : Mem → Option (Int32 × Mem)} (hkc : ∀ (w : Mem) {z : Int32} {w' : Mem}, kc  w = some (z, w') → FrL [146, 152] w w') : ∀ (n : Nat) (u : Mem), FX12_every_146_L9 kc n u = some (v, u') → FrL [146, 152] u u' := by
  intro n
  induction n with
  | zero =>
    intro u h
    exact nn_ h
  | succ n ih =>
    intro u h
    exact fbX12_every_146_9 hkc ih u h
theorem frX12_every_146 {kc : Mem → Option (Int32 × Mem)} (hkc : ∀ (w : Mem) {z : Int32} {w' : Mem}, kc  w = some (z, w') → FrL [146, 152] w w') (u : Mem) {v : Int32} {u' : Mem} (h : FX12_every_146 kc u = some (v, u')) : FrL [146, 152] u u' := by
  unfold FX12_every_146 at h
  obtain ⟨x1, u2, gx1, h⟩ := o_bnd2 h
  refine ft (fr_mono rfl (hkc u gx1)) ?_
  rcases oi h with ⟨c3, h⟩ | ⟨c3, h⟩
  · skip
    exact flX12_every_146_9 hkc FU u2 h
  · skip
    cases h
    exact fr_refl _ _
theorem fbX12_any_146_9 {v : Int32} {u' : Mem} {kc : Mem → Option (Int32 × Mem)} (hkc : ∀ (w : Mem) {z : Int32} {w' : Mem}, kc  w = some (z, w') → FrL [146, 152] w w') {k9 : Mem → Option (Int32 × Mem)} (hk9 : ∀ (u : Mem), k9 u = some (v, u') → FrL [146, 152] u u') (u : Mem) (h : FX12_any_146_b9 kc k9 u = some (v, u')) : FrL [146, 152] u u' := by
  unfold FX12_any_146_b9 at h
  rcases oi h with ⟨c1, h⟩ | ⟨c1, h⟩
  · skip
    cases h
    exact fr_refl _ _
  · skip
    obtain ⟨u3, gu3, h⟩ := o_bind h
    refine ft (fr_mono rfl (frX12_next0_146 u gu3)) ?_
    obtain ⟨x4, u5, gx4, h⟩ := o_bnd2 h
    refine ft (fr_mono rfl (frX12_every_146 hkc u3 gx4)) ?_
    rcases oi h with ⟨c6, h⟩ | ⟨c6, h⟩
    · skip
      obtain ⟨u8, gu8, h⟩ := o_bind h
      refine ft (fr_mono rfl (frX12_lay_146 32 0 u5 gu8)) ?_
      exact hk9 u8 h
    · skip
      cases h
      exact fr_refl _ _
theorem flX12_any_146_9 {v : Int32} {u' : Mem} {kc : Mem → Option (Int32 × Mem)} (hkc : ∀ (w : Mem) {z : Int32} {w' : Mem}, kc  w = some (z, w') → FrL [146, 152] w w') : ∀ (n : Nat) (u : Mem), FX12_any_146_L9 kc n u = some (v, u') → FrL [146, 152] u u' := by
  intro n
  induction n with
  | zero =>
    intro u h
    exact nn_ h
  | succ n ih =>
    intro u h
    exact fbX12_any_146_9 hkc ih u h
theorem frX12_any_146 {kc : Mem → Option (Int32 × Mem)} (hkc : ∀ (w : Mem) {z : Int32} {w' : Mem}, kc  w = some (z, w') → FrL [146, 152] w w') (u : Mem) {v : Int32} {u' : Mem} (h : FX12_any_146 kc u = some (v, u')) : FrL [146, 152] u u' := by
  unfold FX12_any_146 at h
  obtain ⟨x1, u2, gx1, h⟩ := o_bnd2 h
  refine ft (fr_mono rfl (frX12_every_146 hkc u gx1)) ?_
  rcases oi h with ⟨c3, h⟩ | ⟨c3, h⟩
  · skip
    exact flX12_any_146_9 hkc FU u2 h
  · skip
    cases h
    exact fr_refl _ _
theorem fbX12_oneTest_146_147 {v : Int32} {u' : Mem} {kc : Mem → Option (Int32 × Mem)} (hkc : ∀ (w : Mem) {z : Int32} {w' : Mem}, kc  w = some (z, w') → FrL [146, 152] w w') (t0 : Int32) (u : Mem) (h : FX12_oneTest_146_b147 kc t0 u = some (v, u')) : FrL [146, 152] u u' := by
  unfold FX12_oneTest_146_b147 at h
  rcases oi h with ⟨c1, h⟩ | ⟨c1, h⟩
  · skip
    obtain ⟨u3, gu3, h⟩ := o_bind h
    refine ft (fr_mono rfl (frX12_next0_146 u gu3)) ?_
    obtain ⟨x4, u5, gx4, h⟩ := o_bnd2 h
    refine ft (fr_mono rfl (frX12_sumUp_146 u3 gx4)) ?_
    rcases oi h with ⟨c6, h⟩ | ⟨c6, h⟩
    · skip
      obtain ⟨u8, gu8, h⟩ := o_bind h
      refine ft (fr_mono rfl (frX12_lay_146 t0 0 u5 gu8)) ?_
      cases h
      exact fr_refl _ _
    · skip
      cases h
      exact fr_refl _ _
  · skip
    obtain ⟨x9, u10, gx9, h⟩ := o_bnd2 h
    refine ft (fr_mono rfl (frX12_bad_146 1 u gx9)) ?_
    obtain ⟨x11, gx11, h⟩ := o_bind h
    cases h
    exact fr_refl _ _
theorem frX12_oneTest_146_body {kc : Mem → Option (Int32 × Mem)} (hkc : ∀ (w : Mem) {z : Int32} {w' : Mem}, kc  w = some (z, w') → FrL [146, 152] w w') (u : Mem) {v : Int32} {u' : Mem} (h : FX12_oneTest_146_body kc u = some (v, u')) : FrL [146, 152] u u' := by
  unfold FX12_oneTest_146_body at h
  rcases oi h with ⟨c1, h⟩ | ⟨c1, h⟩
  · skip
    rcases oi h with ⟨c2, h⟩ | ⟨c2, h⟩
    · skip
      obtain ⟨x3, u4, gx3, h⟩ := o_bnd2 h
      refine ft (fr_mono rfl (frX12_sumUp_146 u gx3)) ?_
      rcases oi h with ⟨c5, h⟩ | ⟨c5, h⟩
      · skip
        rcases oi h with ⟨c6, h⟩ | ⟨c6, h⟩
        · skip
          rcases oi h with ⟨c7, h⟩ | ⟨c7, h⟩
          · skip
            rcases oi h with ⟨c8, h⟩ | ⟨c8, h⟩
            · skip
              exact fbX12_oneTest_146_147 hkc (-1) u4 h
            · skip
              exact fbX12_oneTest_146_147 hkc 29 u4 h
          · skip
            exact fbX12_oneTest_146_147 hkc 28 u4 h
        · skip
          exact fbX12_oneTest_146_147 hkc 27 u4 h
      · skip
        cases h
        exact fr_refl _ _
    · skip
      obtain ⟨x9, u10, gx9, h⟩ := o_bnd2 h
      refine ft (fr_mono rfl (frX12_opens_146 u gx9)) ?_
      rcases io h with ⟨c11, h⟩ | ⟨c11, h⟩
      · skip
        cases h
        exact fr_refl _ _
      · skip
        obtain ⟨x12, u13, gx12, h⟩ := o_bnd2 h
        refine ft (fr_mono rfl (frX12_any_146 hkc u10 gx12)) ?_
        rcases io h with ⟨c14, h⟩ | ⟨c14, h⟩
        · skip
          cases h
          exact fr_refl _ _
        · skip
          obtain ⟨x15, u16, gx15, h⟩ := o_bnd2 h
          refine ft (fr_mono rfl (frX12_need_146 141 u13 gx15)) ?_
          rcases oi h with ⟨c17, h⟩ | ⟨c17, h⟩
          · skip
            obtain ⟨u18, gu18, h⟩ := o_bind h
            refine ft (fr_upd rfl gu18) ?_
            cases h
            exact fr_refl _ _
          · skip
            cases h
            exact fr_refl _ _
  · skip
    obtain ⟨x19, u20, gx19, h⟩ := o_bnd2 h
    refine ft (fr_mono rfl (frX12_opens_146 u gx19)) ?_
    rcases io h with ⟨c21, h⟩ | ⟨c21, h⟩
    · skip
      cases h
      exact fr_refl _ _
    · skip
      obtain ⟨x22, u23, gx22, h⟩ := o_bnd2 h
      refine ft (fr_mono rfl (hkc u20 gx22)) ?_
      rcases oi h with ⟨c24, h⟩ | ⟨c24, h⟩
      · skip
        obtain ⟨u25, gu25, h⟩ := o_bind h
        refine ft (fr_upd rfl gu25) ?_
        obtain ⟨u27, gu27, h⟩ := o_bind h
        refine ft (fr_mono rfl (frX12_lay_146 30 0 u25 gu27)) ?_
        cases h
        exact fr_refl _ _
      · skip
        cases h
        exact fr_refl _ _
theorem frX12_oneTest_146 : ∀ (n : Nat) (u : Mem) {v : Int32} {u' : Mem}, FX12_oneTest_146 n u = some (v, u') → FrL [146, 152] u u' := by
  intro n
  induction n with
  | zero =>
    intro u v u' h
    exact nn_ h
  | succ n ih =>
    intro u v u' h
    exact frX12_oneTest_146_body (fun  w => ih  w) u h
theorem fbX12_aLine_146_123 {v : Int32} {u' : Mem} (u : Mem) (h : FX12_aLine_146_b123 u = some (v, u')) : FrL [146, 151, 152] u u' := by
  unfold FX12_aLine_146_b123 at h
  obtain ⟨u1, gu1, h⟩ := o_bind h
  refine ft (fr_wr rfl gu1) ?_
  obtain ⟨x2, u3, gx2, h⟩ := o_bnd2 h
  refine ft (fr_mono rfl (frX12_need_146 159 u1 gx2)) ?_
  obtain ⟨x4, gx4, h⟩ := o_bind h
  cases h
  exact fr_refl _ _
theorem frX12_aLine_146 (u : Mem) {v : Int32} {u' : Mem} (h : FX12_aLine_146 u = some (v, u')) : FrL [146, 151, 152] u u' := by
  unfold FX12_aLine_146 at h
  obtain ⟨x1, gx1, h⟩ := o_bind h
  rcases oi h with ⟨c2, h⟩ | ⟨c2, h⟩
  · skip
    rcases oi h with ⟨c3, h⟩ | ⟨c3, h⟩
    · skip
      obtain ⟨u4, gu4, h⟩ := o_bind h
      refine ft (fr_upd rfl gu4) ?_
      obtain ⟨u5, gu5, h⟩ := o_bind h
      refine ft (fr_wr rfl gu5) ?_
      obtain ⟨u7, gu7, h⟩ := o_bind h
      refine ft (fr_mono rfl (frX12_next0_146 u5 gu7)) ?_
      obtain ⟨u8, gu8, h⟩ := o_bind h
      refine ft (fr_wr rfl gu8) ?_
      obtain ⟨x9, u10, gx9, h⟩ := o_bnd2 h
      refine ft (fr_mono rfl (frX12_sumUp_146 u8 gx9)) ?_
      rcases oi h with ⟨c11, h⟩ | ⟨c11, h⟩
      · skip
        obtain ⟨u12, gu12, h⟩ := o_bind h
        refine ft (fr_wr rfl gu12) ?_
        rcases oi h with ⟨c13, h⟩ | ⟨c13, h⟩
        · skip
          exact fbX12_aLine_146_123 u12 h
        · skip
          obtain ⟨u15, gu15, h⟩ := o_bind h
          refine ft (fr_mono rfl (frX12_next0_146 u12 gu15)) ?_
          obtain ⟨x16, u17, gx16, h⟩ := o_bnd2 h
          refine ft (fr_mono rfl (frX12_any_146 (frX12_oneTest_146 DFU) u15 gx16)) ?_
          rcases oi h with ⟨c18, h⟩ | ⟨c18, h⟩
          · skip
            exact fbX12_aLine_146_123 u17 h
          · skip
            cases h
            exact fr_refl _ _
      · skip
        cases h
        exact fr_refl _ _
    · skip
      obtain ⟨x19, u20, gx19, h⟩ := o_bnd2 h
      refine ft (fr_mono rfl (frX12_bad_146 3 u gx19)) ?_
      obtain ⟨x21, gx21, h⟩ := o_bind h
      cases h
      exact fr_refl _ _
  · skip
    obtain ⟨x22, u23, gx22, h⟩ := o_bnd2 h
    refine ft (fr_mono rfl (frX12_bad_146 1 u gx22)) ?_
    obtain ⟨x24, gx24, h⟩ := o_bind h
    cases h
    exact fr_refl _ _
theorem fbX12_readsLaw_146_49 {v : Int32} {u' : Mem} (l1 : Int32) (u : Mem) (h : FX12_readsLaw_146_b49 l1 u = some (v, u')) : FrL [146, 151, 152] u u' := by
  unfold FX12_readsLaw_146_b49 at h
  obtain ⟨x1, gx1, h⟩ := o_bind h
  cases h
  exact fr_refl _ _
theorem fbX12_readsLaw_146_42 {v : Int32} {u' : Mem} {k12 : Int32 → Mem → Option (Int32 × Mem)} (hk12 : ∀ (l1 : Int32) (u : Mem), k12 l1 u = some (v, u') → FrL [146, 151, 152] u u') (l1 t1 t2 : Int32) (u : Mem) (h : FX12_readsLaw_146_b42 k12 l1 t1 t2 u = some (v, u')) : FrL [146, 151, 152] u u' := by
  unfold FX12_readsLaw_146_b42 at h
  obtain ⟨u1, gu1, h⟩ := o_bind h
  refine ft (fr_upd rfl gu1) ?_
  exact hk12 l1 u1 h
theorem fbX12_readsLaw_146_12 {v : Int32} {u' : Mem} {k12 : Int32 → Mem → Option (Int32 × Mem)} (hk12 : ∀ (l1 : Int32) (u : Mem), k12 l1 u = some (v, u') → FrL [146, 151, 152] u u') (l1 : Int32) (u : Mem) (h : FX12_readsLaw_146_b12 k12 l1 u = some (v, u')) : FrL [146, 151, 152] u u' := by
  unfold FX12_readsLaw_146_b12 at h
  rcases io h with ⟨c1, h⟩ | ⟨c1, h⟩
  · skip
    exact fbX12_readsLaw_146_49 l1 u h
  · skip
    rcases io h with ⟨c2, h⟩ | ⟨c2, h⟩
    · skip
      exact fbX12_readsLaw_146_49 l1 u h
    · skip
      obtain ⟨x3, u4, gx3, h⟩ := o_bnd2 h
      refine ft (fr_mono rfl (frX12_aLine_146 u gx3)) ?_
      rcases io h with ⟨c5, h⟩ | ⟨c5, h⟩
      · skip
        exact fbX12_readsLaw_146_42 hk12 x3 (u4 146 13) 0 u4 h
      · skip
        exact fbX12_readsLaw_146_42 hk12 x3 (u4 146 13) 1 u4 h
theorem flX12_readsLaw_146_12 {v : Int32} {u' : Mem} : ∀ (n : Nat) (l1 : Int32) (u : Mem), FX12_readsLaw_146_L12 n l1 u = some (v, u') → FrL [146, 151, 152] u u' := by
  intro n
  induction n with
  | zero =>
    intro l1 u h
    exact nn_ h
  | succ n ih =>
    intro l1 u h
    exact fbX12_readsLaw_146_12 ih l1 u h
theorem frX12_readsLaw_146 (u : Mem) {v : Int32} {u' : Mem} (h : FX12_readsLaw_146 u = some (v, u')) : FrL [146, 151, 152] u u' := by
  unfold FX12_readsLaw_146 at h
  obtain ⟨u1, gu1, h⟩ := o_bind h
  refine ft (fr_upd rfl gu1) ?_
  obtain ⟨u2, gu2, h⟩ := o_bind h
  refine ft (fr_upd rfl gu2) ?_
  exact flX12_readsLaw_146_12 FU 1 u2 h
theorem fbX12_puts_146_13 {v : Int32} {u' : Mem} {k13 : Int32 → Int32 → Int32 → Mem → Option (Int32 × Mem)} (hk13 : ∀ (l2 l3 l4 : Int32) (u : Mem), k13 l2 l3 l4 u = some (v, u') → FrL [147] u u') (l2 l3 l4 : Int32) (u : Mem) (h : FX12_puts_146_b13 k13 l2 l3 l4 u = some (v, u')) : FrL [147] u u' := by
  unfold FX12_puts_146_b13 at h
  rcases io h with ⟨c1, h⟩ | ⟨c1, h⟩
  · skip
    cases h
    exact fr_refl _ _
  · skip
    obtain ⟨x2, gx2, h⟩ := o_bind h
    obtain ⟨u3, gu3, h⟩ := o_bind h
    refine ft (fr_wr rfl gu3) ?_
    exact hk13 l2 l3 (l4 + 1) u3 h
theorem flX12_puts_146_13 {v : Int32} {u' : Mem} : ∀ (n : Nat) (l2 l3 l4 : Int32) (u : Mem), FX12_puts_146_L13 n l2 l3 l4 u = some (v, u') → FrL [147] u u' := by
  intro n
  induction n with
  | zero =>
    intro l2 l3 l4 u h
    exact nn_ h
  | succ n ih =>
    intro l2 l3 l4 u h
    exact fbX12_puts_146_13 ih l2 l3 l4 u h
theorem frX12_puts_146 (p1 p2 p3 : Int32) (u : Mem) {v : Int32} {u' : Mem} (h : FX12_puts_146 p1 p2 p3 u = some (v, u')) : FrL [147] u u' := by
  unfold FX12_puts_146 at h
  obtain ⟨u1, gu1, h⟩ := o_bind h
  refine ft (fr_wr rfl gu1) ?_
  exact flX12_puts_146_13 FU p2 p3 0 u1 h
theorem fbX12_putsLaw_146_107 {v : Int32} {u' : Mem} {k107 : Int32 → Mem → Option (Int32 × Mem)} (hk107 : ∀ (l1 : Int32) (u : Mem), k107 l1 u = some (v, u') → FrL [147] u u') (l1 : Int32) (u : Mem) (h : FX12_putsLaw_146_b107 k107 l1 u = some (v, u')) : FrL [147] u u' := by
  unfold FX12_putsLaw_146_b107 at h
  rcases io h with ⟨c1, h⟩ | ⟨c1, h⟩
  · skip
    cases h
    exact fr_refl _ _
  · skip
    obtain ⟨x2, gx2, h⟩ := o_bind h
    obtain ⟨u3, gu3, h⟩ := o_bind h
    refine ft (fr_wr rfl gu3) ?_
    exact hk107 (l1 + 1) u3 h
theorem flX12_putsLaw_146_107 {v : Int32} {u' : Mem} : ∀ (n : Nat) (l1 : Int32) (u : Mem), FX12_putsLaw_146_L107 n l1 u = some (v, u') → FrL [147] u u' := by
  intro n
  induction n with
  | zero =>
    intro l1 u h
    exact nn_ h
  | succ n ih =>
    intro l1 u h
    exact fbX12_putsLaw_146_107 ih l1 u h
theorem fbX12_putsLaw_146_13 {v : Int32} {u' : Mem} {k13 : Int32 → Mem → Option (Int32 × Mem)} (hk13 : ∀ (l1 : Int32) (u : Mem), k13 l1 u = some (v, u') → FrL [147] u u') (l1 : Int32) (u : Mem) (h : FX12_putsLaw_146_b13 k13 l1 u = some (v, u')) : FrL [147] u u' := by
  unfold FX12_putsLaw_146_b13 at h
  rcases io h with ⟨c1, h⟩ | ⟨c1, h⟩
  · skip
    exact flX12_putsLaw_146_107 FU 0 u h
  · skip
    obtain ⟨x2, gx2, h⟩ := o_bind h
    obtain ⟨u3, gu3, h⟩ := o_bind h
    refine ft (fr_wr rfl gu3) ?_
    obtain ⟨x4, gx4, h⟩ := o_bind h
    obtain ⟨u5, gu5, h⟩ := o_bind h
    refine ft (fr_wr rfl gu5) ?_
    obtain ⟨x6, gx6, h⟩ := o_bind h
    obtain ⟨u7, gu7, h⟩ := o_bind h
    refine ft (fr_wr rfl gu7) ?_
    obtain ⟨x8, gx8, h⟩ := o_bind h
    obtain ⟨u9, gu9, h⟩ := o_bind h
    refine ft (fr_wr rfl gu9) ?_
    exact hk13 (l1 + 1) u9 h
theorem flX12_putsLaw_146_13 {v : Int32} {u' : Mem} : ∀ (n : Nat) (l1 : Int32) (u : Mem), FX12_putsLaw_146_L13 n l1 u = some (v, u') → FrL [147] u u' := by
  intro n
  induction n with
  | zero =>
    intro l1 u h
    exact nn_ h
  | succ n ih =>
    intro l1 u h
    exact fbX12_putsLaw_146_13 ih l1 u h
theorem frX12_putsLaw_146 (u : Mem) {v : Int32} {u' : Mem} (h : FX12_putsLaw_146 u = some (v, u')) : FrL [147] u u' := by
  unfold FX12_putsLaw_146 at h
  obtain ⟨u1, gu1, h⟩ := o_bind h
  refine ft (fr_upd rfl gu1) ?_
  exact flX12_putsLaw_146_13 FU 0 u1 h
theorem frX12_putsText_146 (p1 : Int32) (u : Mem) {v : Int32} {u' : Mem} (h : FX12_putsText_146 p1 u = some (v, u')) : FrL [146, 147] u u' := by
  unfold FX12_putsText_146 at h
  rcases oi h with ⟨c1, h⟩ | ⟨c1, h⟩
  · skip
    rcases oi h with ⟨c2, h⟩ | ⟨c2, h⟩
    · skip
      obtain ⟨u4, gu4, h⟩ := o_bind h
      refine ft (fr_mono rfl (frX12_forgetsActs_146 u gu4)) ?_
      rcases oi h with ⟨c5, h⟩ | ⟨c5, h⟩
      · skip
        obtain ⟨x6, u7, gx6, h⟩ := o_bnd2 h
        refine ft (fr_mono rfl (frX12_puts_146 87 222 3 u4 gx6)) ?_
        cases h
        exact fr_refl _ _
      · skip
        obtain ⟨x8, u9, gx8, h⟩ := o_bnd2 h
        refine ft (fr_mono rfl (frX12_puts_146 85 158 2 u4 gx8)) ?_
        cases h
        exact fr_refl _ _
    · skip
      obtain ⟨x10, u11, gx10, h⟩ := o_bnd2 h
      refine ft (fr_mono rfl (frX12_puts_146 86 190 2 u gx10)) ?_
      cases h
      exact fr_refl _ _
  · skip
    obtain ⟨x12, u13, gx12, h⟩ := o_bnd2 h
    refine ft (fr_mono rfl (frX12_putsLaw_146 u gx12)) ?_
    cases h
    exact fr_refl _ _
theorem fbX12_text_146_60 {v : Int32} {u' : Mem} (l1 t0 : Int32) (u : Mem) (h : FX12_text_146_b60 l1 t0 u = some (v, u')) : FrL [146, 147, 151, 152, 153] u u' := by
  unfold FX12_text_146_b60 at h
  obtain ⟨u1, gu1, h⟩ := o_bind h
  refine ft (fr_upd rfl gu1) ?_
  rcases io h with ⟨c2, h⟩ | ⟨c2, h⟩
  · skip
    obtain ⟨u3, gu3, h⟩ := o_bind h
    refine ft (fr_upd rfl gu3) ?_
    obtain ⟨u4, gu4, h⟩ := o_bind h
    refine ft (fr_upd rfl gu4) ?_
    cases h
    exact fr_refl _ _
  · skip
    obtain ⟨x5, u6, gx5, h⟩ := o_bnd2 h
    refine ft (fr_mono rfl (frX12_putsText_146 l1 u1 gx5)) ?_
    cases h
    exact fr_refl _ _
theorem frX12_text_146 (p1 : Int32) (u : Mem) {v : Int32} {u' : Mem} (h : FX12_text_146 p1 u = some (v, u')) : FrL [146, 147, 151, 152, 153] u u' := by
  unfold FX12_text_146 at h
  obtain ⟨u1, gu1, h⟩ := o_bind h
  refine ft (fr_upd rfl gu1) ?_
  obtain ⟨u2, gu2, h⟩ := o_bind h
  refine ft (fr_upd rfl gu2) ?_
  obtain ⟨x3, gx3, h⟩ := o_bind h
  rcases oi h with ⟨c4, h⟩ | ⟨c4, h⟩
  · skip
    obtain ⟨u5, gu5, h⟩ := o_bind h
    refine ft (fr_upd rfl gu5) ?_
    obtain ⟨u6, gu6, h⟩ := o_bind h
    refine ft (fr_upd rfl gu6) ?_
    obtain ⟨u7, gu7, h⟩ := o_bind h
    refine ft (fr_upd rfl gu7) ?_
    obtain ⟨u9, gu9, h⟩ := o_bind h
    refine ft (fr_mono rfl (frX12_next0_146 u7 gu9)) ?_
    rcases oi h with ⟨c10, h⟩ | ⟨c10, h⟩
    · skip
      obtain ⟨x11, u12, gx11, h⟩ := o_bnd2 h
      refine ft (fr_mono rfl (frX12_readsRows_146 u9 gx11)) ?_
      exact fbX12_text_146_60 p1 x11 u12 h
    · skip
      obtain ⟨x13, u14, gx13, h⟩ := o_bnd2 h
      refine ft (fr_mono rfl (frX12_readsLaw_146 u9 gx13)) ?_
      exact fbX12_text_146_60 p1 x13 u14 h
  · skip
    obtain ⟨u15, gu15, h⟩ := o_bind h
    refine ft (fr_upd rfl gu15) ?_
    cases h
    exact fr_refl _ _
theorem frX11_of_0 (p1 p2 : Int32) (u : Mem) {v : Int32} {u' : Mem} (h : FX11_of_0 p1 p2 u = some (v, u')) : FrL [14, 33] u u' := by
  unfold FX11_of_0 at h
  obtain ⟨x1, gx1, h⟩ := o_bind h
  rcases oi h with ⟨c2, h⟩ | ⟨c2, h⟩
  · skip
    by_cases c3 : p2 = 0
    · have h := it h c3
      obtain ⟨x4, gx4, h⟩ := o_bind h
      cases h
      exact fr_refl _ _
    · have h := ie h c3
      by_cases c5 : p2 = 1
      · have h := it h c5
        obtain ⟨x6, gx6, h⟩ := o_bind h
        cases h
        exact fr_refl _ _
      · have h := ie h c5
        by_cases c7 : p2 = 2
        · have h := it h c7
          obtain ⟨x8, gx8, h⟩ := o_bind h
          cases h
          exact fr_refl _ _
        · have h := ie h c7
          by_cases c9 : p2 = 3
          · have h := it h c9
            obtain ⟨x10, gx10, h⟩ := o_bind h
            cases h
            exact fr_refl _ _
          · have h := ie h c9
            by_cases c11 : p2 = 4
            · have h := it h c11
              obtain ⟨x12, gx12, h⟩ := o_bind h
              cases h
              exact fr_refl _ _
            · have h := ie h c11
              by_cases c13 : p2 = 5
              · have h := it h c13
                obtain ⟨x14, gx14, h⟩ := o_bind h
                cases h
                exact fr_refl _ _
              · have h := ie h c13
                by_cases c15 : p2 = 6
                · have h := it h c15
                  obtain ⟨x16, gx16, h⟩ := o_bind h
                  cases h
                  exact fr_refl _ _
                · have h := ie h c15
                  by_cases c17 : p2 = 7
                  · have h := it h c17
                    obtain ⟨x18, gx18, h⟩ := o_bind h
                    rcases oi h with ⟨c19, h⟩ | ⟨c19, h⟩
                    · skip
                      cases h
                      exact fr_refl _ _
                    · skip
                      obtain ⟨x20, gx20, h⟩ := o_bind h
                      cases h
                      exact fr_refl _ _
                  · have h := ie h c17
                    by_cases c21 : p2 = 8
                    · have h := it h c21
                      obtain ⟨x22, gx22, h⟩ := o_bind h
                      cases h
                      exact fr_refl _ _
                    · have h := ie h c21
                      by_cases c23 : p2 = 9
                      · have h := it h c23
                        cases h
                        exact fr_refl _ _
                      · have h := ie h c23
                        by_cases c24 : p2 = 10
                        · have h := it h c24
                          obtain ⟨x25, u26, gx25, h⟩ := o_bnd2 h
                          refine ft (fr_mono rfl (frX3_asked_32 p1 0 u gx25)) ?_
                          cases h
                          exact fr_refl _ _
                        · have h := ie h c24
                          by_cases c27 : p2 = 11
                          · have h := it h c27
                            obtain ⟨x28, u29, gx28, h⟩ := o_bnd2 h
                            refine ft (fr_mono rfl (frX3_asked_32 p1 1 u gx28)) ?_
                            cases h
                            exact fr_refl _ _
                          · have h := ie h c27
                            by_cases c30 : p2 = 12
                            · have h := it h c30
                              obtain ⟨x31, u32, gx31, h⟩ := o_bnd2 h
                              refine ft (fr_mono rfl (frX3_asked_32 p1 2 u gx31)) ?_
                              cases h
                              exact fr_refl _ _
                            · have h := ie h c30
                              by_cases c33 : p2 = 13
                              · have h := it h c33
                                obtain ⟨x34, u35, gx34, h⟩ := o_bnd2 h
                                refine ft (fr_mono rfl (frX3_asked_32 p1 3 u gx34)) ?_
                                cases h
                                exact fr_refl _ _
                              · have h := ie h c33
                                cases h
                                exact fr_refl _ _
  · skip
    cases h
    exact fr_refl _ _
theorem frX12_of_146 (p1 p2 : Int32) (u : Mem) {v : Int32} {u' : Mem} (h : FX12_of_146 p1 p2 u = some (v, u')) : FrL [146, 155, 156] u u' := by
  unfold FX12_of_146 at h
  obtain ⟨x1, gx1, h⟩ := o_bind h
  rcases oi h with ⟨c2, h⟩ | ⟨c2, h⟩
  · skip
    obtain ⟨u3, gu3, h⟩ := o_bind h
    refine ft (fr_upd rfl gu3) ?_
    by_cases c4 : p2 = 0
    · have h := it h c4
      obtain ⟨x5, gx5, h⟩ := o_bind h
      cases h
      exact fr_refl _ _
    · have h := ie h c4
      by_cases c6 : p2 = 1
      · have h := it h c6
        obtain ⟨x7, gx7, h⟩ := o_bind h
        cases h
        exact fr_refl _ _
      · have h := ie h c6
        by_cases c8 : p2 = 2
        · have h := it h c8
          obtain ⟨x9, gx9, h⟩ := o_bind h
          cases h
          exact fr_refl _ _
        · have h := ie h c8
          by_cases c10 : p2 = 3
          · have h := it h c10
            obtain ⟨x11, gx11, h⟩ := o_bind h
            cases h
            exact fr_refl _ _
          · have h := ie h c10
            by_cases c12 : p2 = 4
            · have h := it h c12
              obtain ⟨x13, gx13, h⟩ := o_bind h
              cases h
              exact fr_refl _ _
            · have h := ie h c12
              by_cases c14 : p2 = 5
              · have h := it h c14
                obtain ⟨x15, gx15, h⟩ := o_bind h
                cases h
                exact fr_refl _ _
              · have h := ie h c14
                by_cases c16 : p2 = 6
                · have h := it h c16
                  obtain ⟨x17, gx17, h⟩ := o_bind h
                  cases h
                  exact fr_refl _ _
                · have h := ie h c16
                  by_cases c18 : p2 = 7
                  · have h := it h c18
                    obtain ⟨x19, gx19, h⟩ := o_bind h
                    rcases oi h with ⟨c20, h⟩ | ⟨c20, h⟩
                    · skip
                      cases h
                      exact fr_refl _ _
                    · skip
                      obtain ⟨x21, gx21, h⟩ := o_bind h
                      cases h
                      exact fr_refl _ _
                  · have h := ie h c18
                    by_cases c22 : p2 = 8
                    · have h := it h c22
                      obtain ⟨x23, gx23, h⟩ := o_bind h
                      cases h
                      exact fr_refl _ _
                    · have h := ie h c22
                      by_cases c24 : p2 = 9
                      · have h := it h c24
                        cases h
                        exact fr_refl _ _
                      · have h := ie h c24
                        by_cases c25 : p2 = 10
                        · have h := it h c25
                          obtain ⟨x26, u27, gx26, h⟩ := o_bnd2 h
                          refine ft (fr_mono rfl (frX12_callOf_146 p1 u3 gx26)) ?_
                          cases h
                          exact fr_refl _ _
                        · have h := ie h c25
                          by_cases c28 : p2 = 11
                          · have h := it h c28
                            obtain ⟨x29, u30, gx29, h⟩ := o_bnd2 h
                            refine ft (fr_mono rfl (frX12_stepOf_146 p1 u3 gx29)) ?_
                            cases h
                            exact fr_refl _ _
                          · have h := ie h c28
                            by_cases c31 : p2 = 12
                            · have h := it h c31
                              obtain ⟨x32, u33, gx32, h⟩ := o_bnd2 h
                              refine ft (fr_mono rfl (frX12_napOf_146 p1 u3 gx32)) ?_
                              cases h
                              exact fr_refl _ _
                            · have h := ie h c31
                              by_cases c34 : p2 = 13
                              · have h := it h c34
                                obtain ⟨x35, u36, gx35, h⟩ := o_bnd2 h
                                refine ft (fr_mono rfl (frX12_fadeOf_146 p1 u3 gx35)) ?_
                                cases h
                                exact fr_refl _ _
                              · have h := ie h c34
                                cases h
                                exact fr_refl _ _
  · skip
    cases h
    exact fr_refl _ _
theorem frX0_become_97_23 (u : Mem) {u' : Mem} (h : FX0_become_97_23 u = some u') : FrL [97, 98, 99, 100, 101, 102, 103] u u' := by
  unfold FX0_become_97_23 at h
  obtain ⟨u1, gu1, h⟩ := o_bind h
  refine ft (fr_cp rfl gu1) ?_
  obtain ⟨u2, gu2, h⟩ := o_bind h
  refine ft (fr_cp rfl gu2) ?_
  obtain ⟨u3, gu3, h⟩ := o_bind h
  refine ft (fr_cp rfl gu3) ?_
  obtain ⟨u4, gu4, h⟩ := o_bind h
  refine ft (fr_cp rfl gu4) ?_
  obtain ⟨u5, gu5, h⟩ := o_bind h
  refine ft (fr_cp rfl gu5) ?_
  obtain ⟨u6, gu6, h⟩ := o_bind h
  refine ft (fr_cp rfl gu6) ?_
  obtain ⟨u7, gu7, h⟩ := o_bind h
  refine ft (fr_upd rfl gu7) ?_
  obtain ⟨u8, gu8, h⟩ := o_bind h
  refine ft (fr_upd rfl gu8) ?_
  obtain ⟨u9, gu9, h⟩ := o_bind h
  refine ft (fr_upd rfl gu9) ?_
  obtain ⟨u10, gu10, h⟩ := o_bind h
  refine ft (fr_upd rfl gu10) ?_
  cases h
  exact fr_refl _ _
theorem frX2_imagine_96 (p1 : Int32) (u : Mem) {u' : Mem} (h : FX2_imagine_96 p1 u = some u') : FrL [97, 98, 99, 100, 101, 102, 103, 104] u u' := by
  unfold FX2_imagine_96 at h
  obtain ⟨u2, gu2, h⟩ := o_bind h
  refine ft (fr_mono rfl (frX0_become_97_23 u gu2)) ?_
  obtain ⟨u3, gu3, h⟩ := o_bind h
  refine ft (fr_upd rfl gu3) ?_
  obtain ⟨u4, gu4, h⟩ := o_bind h
  refine ft (fr_upd rfl gu4) ?_
  cases h
  exact fr_refl _ _
theorem fbX4_run_8_105_375 {v : Int32} {u' : Mem} (l4 : Int32) (u : Mem) (h : FX4_run_8_105_b375 l4 u = some (v, u')) : FrL [14] u u' := by
  unfold FX4_run_8_105_b375 at h
  rcases io h with ⟨c1, h⟩ | ⟨c1, h⟩
  · skip
    cases h
    exact fr_refl _ _
  · skip
    rcases io h with ⟨c2, h⟩ | ⟨c2, h⟩
    · skip
      cases h
      exact fr_refl _ _
    · skip
      obtain ⟨x3, gx3, h⟩ := o_bind h
      cases h
      exact fr_refl _ _
theorem fbX4_run_8_105_369 {v : Int32} {u' : Mem} {k6 : Int32 → Int32 → Int32 → Mem → Option (Int32 × Mem)} (hk6 : ∀ (l2 l4 l5 : Int32) (u : Mem), k6 l2 l4 l5 u = some (v, u') → FrL [14] u u') (l2 l4 l5 : Int32) (u : Mem) (h : FX4_run_8_105_b369 k6 l2 l4 l5 u = some (v, u')) : FrL [14] u u' := by
  unfold FX4_run_8_105_b369 at h
  exact hk6 l2 l4 (l5 + 1) u h
theorem fbX4_run_8_105_358 {v : Int32} {u' : Mem} {k6 : Int32 → Int32 → Int32 → Mem → Option (Int32 × Mem)} (hk6 : ∀ (l2 l4 l5 : Int32) (u : Mem), k6 l2 l4 l5 u = some (v, u') → FrL [14] u u') (l2 l4 l5 l7 : Int32) (u : Mem) (h : FX4_run_8_105_b358 k6 l2 l4 l5 l7 u = some (v, u')) : FrL [14] u u' := by
  unfold FX4_run_8_105_b358 at h
  obtain ⟨u1, gu1, h⟩ := o_bind h
  refine ft (fr_wr rfl gu1) ?_
  exact fbX4_run_8_105_369 hk6 l2 l4 l5 u1 h
theorem fbX4_run_8_105_327 {v : Int32} {u' : Mem} {k6 : Int32 → Int32 → Int32 → Mem → Option (Int32 × Mem)} (hk6 : ∀ (l2 l4 l5 : Int32) (u : Mem), k6 l2 l4 l5 u = some (v, u') → FrL [14] u u') (l2 l4 l5 t0 : Int32) (u : Mem) (h : FX4_run_8_105_b327 k6 l2 l4 l5 t0 u = some (v, u')) : FrL [14] u u' := by
  unfold FX4_run_8_105_b327 at h
  exact fbX4_run_8_105_358 hk6 l2 l4 l5 t0 u h
theorem fbX4_run_8_105_310 {v : Int32} {u' : Mem} {k6 : Int32 → Int32 → Int32 → Mem → Option (Int32 × Mem)} (hk6 : ∀ (l2 l4 l5 : Int32) (u : Mem), k6 l2 l4 l5 u = some (v, u') → FrL [14] u u') (l2 l4 l5 t0 : Int32) (u : Mem) (h : FX4_run_8_105_b310 k6 l2 l4 l5 t0 u = some (v, u')) : FrL [14] u u' := by
  unfold FX4_run_8_105_b310 at h
  exact fbX4_run_8_105_358 hk6 l2 l4 l5 t0 u h
theorem fbX4_run_8_105_293 {v : Int32} {u' : Mem} {k6 : Int32 → Int32 → Int32 → Mem → Option (Int32 × Mem)} (hk6 : ∀ (l2 l4 l5 : Int32) (u : Mem), k6 l2 l4 l5 u = some (v, u') → FrL [14] u u') (l2 l4 l5 t0 : Int32) (u : Mem) (h : FX4_run_8_105_b293 k6 l2 l4 l5 t0 u = some (v, u')) : FrL [14] u u' := by
  unfold FX4_run_8_105_b293 at h
  exact fbX4_run_8_105_358 hk6 l2 l4 l5 t0 u h
theorem fbX4_run_8_105_276 {v : Int32} {u' : Mem} {k6 : Int32 → Int32 → Int32 → Mem → Option (Int32 × Mem)} (hk6 : ∀ (l2 l4 l5 : Int32) (u : Mem), k6 l2 l4 l5 u = some (v, u') → FrL [14] u u') (l2 l4 l5 t0 : Int32) (u : Mem) (h : FX4_run_8_105_b276 k6 l2 l4 l5 t0 u = some (v, u')) : FrL [14] u u' := by
  unfold FX4_run_8_105_b276 at h
  exact fbX4_run_8_105_358 hk6 l2 l4 l5 t0 u h
theorem fbX4_run_8_105_178 {v : Int32} {u' : Mem} {k6 : Int32 → Int32 → Int32 → Mem → Option (Int32 × Mem)} (hk6 : ∀ (l2 l4 l5 : Int32) (u : Mem), k6 l2 l4 l5 u = some (v, u') → FrL [14] u u') (l2 l4 l5 l6 l7 t0 : Int32) (u : Mem) (h : FX4_run_8_105_b178 k6 l2 l4 l5 l6 l7 t0 u = some (v, u')) : FrL [14] u u' := by
  unfold FX4_run_8_105_b178 at h
  by_cases c1 : l6 = (-18)
  · have h := it h c1
    exact fbX4_run_8_105_358 hk6 l2 l4 l5 (l7 ||| t0) u h
  · have h := ie h c1
    by_cases c2 : l6 = (-17)
    · have h := it h c2
      exact fbX4_run_8_105_358 hk6 l2 l4 l5 (l7 &&& t0) u h
    · have h := ie h c2
      by_cases c3 : l6 = (-16)
      · have h := it h c3
        rcases io h with ⟨c4, h⟩ | ⟨c4, h⟩
        · skip
          exact fbX4_run_8_105_327 hk6 l2 l4 l5 0 u h
        · skip
          exact fbX4_run_8_105_327 hk6 l2 l4 l5 1 u h
      · have h := ie h c3
        by_cases c5 : l6 = (-15)
        · have h := it h c5
          rcases oi h with ⟨c6, h⟩ | ⟨c6, h⟩
          · skip
            exact fbX4_run_8_105_310 hk6 l2 l4 l5 0 u h
          · skip
            exact fbX4_run_8_105_310 hk6 l2 l4 l5 1 u h
        · have h := ie h c5
          by_cases c7 : l6 = (-14)
          · have h := it h c7
            rcases io h with ⟨c8, h⟩ | ⟨c8, h⟩
            · skip
              exact fbX4_run_8_105_293 hk6 l2 l4 l5 0 u h
            · skip
              exact fbX4_run_8_105_293 hk6 l2 l4 l5 1 u h
          · have h := ie h c7
            by_cases c9 : l6 = (-13)
            · have h := it h c9
              rcases io h with ⟨c10, h⟩ | ⟨c10, h⟩
              · skip
                exact fbX4_run_8_105_276 hk6 l2 l4 l5 0 u h
              · skip
                obtain ⟨x11, gx11, h⟩ := o_bind h
                exact fbX4_run_8_105_276 hk6 l2 l4 l5 x11 u h
            · have h := ie h c9
              by_cases c12 : l6 = (-12)
              · have h := it h c12
                exact fbX4_run_8_105_358 hk6 l2 l4 l5 (l7 * t0) u h
              · have h := ie h c12
                by_cases c13 : l6 = (-11)
                · have h := it h c13
                  exact fbX4_run_8_105_358 hk6 l2 l4 l5 (l7 - t0) u h
                · have h := ie h c13
                  by_cases c14 : l6 = (-10)
                  · have h := it h c14
                    exact fbX4_run_8_105_358 hk6 l2 l4 l5 (l7 + t0) u h
                  · have h := ie h c14
                    exact fbX4_run_8_105_358 hk6 l2 l4 l5 (1 - l7) u h
theorem fbX4_run_8_105_147 {v : Int32} {u' : Mem} {k6 : Int32 → Int32 → Int32 → Mem → Option (Int32 × Mem)} (hk6 : ∀ (l2 l4 l5 : Int32) (u : Mem), k6 l2 l4 l5 u = some (v, u') → FrL [14] u u') (l2 l5 l6 t0 : Int32) (u : Mem) (h : FX4_run_8_105_b147 k6 l2 l5 l6 t0 u = some (v, u')) : FrL [14] u u' := by
  unfold FX4_run_8_105_b147 at h
  obtain ⟨x1, gx1, h⟩ := o_bind h
  rcases oi h with ⟨c2, h⟩ | ⟨c2, h⟩
  · skip
    obtain ⟨x3, gx3, h⟩ := o_bind h
    exact fbX4_run_8_105_178 hk6 l2 t0 l5 l6 x1 x3 u h
  · skip
    exact fbX4_run_8_105_178 hk6 l2 t0 l5 l6 x1 0 u h
theorem fbX4_run_8_105_116 {v : Int32} {u' : Mem} {k6 : Int32 → Int32 → Int32 → Mem → Option (Int32 × Mem)} (hk6 : ∀ (l2 l4 l5 : Int32) (u : Mem), k6 l2 l4 l5 u = some (v, u') → FrL [14] u u') (l2 l4 l5 l6 t0 t1 : Int32) (u : Mem) (h : FX4_run_8_105_b116 k6 l2 l4 l5 l6 t0 t1 u = some (v, u')) : FrL [14] u u' := by
  unfold FX4_run_8_105_b116 at h
  rcases io h with ⟨c1, h⟩ | ⟨c1, h⟩
  · skip
    cases h
    exact fr_refl _ _
  · skip
    rcases io h with ⟨c2, h⟩ | ⟨c2, h⟩
    · skip
      rcases oi h with ⟨c3, h⟩ | ⟨c3, h⟩
      · skip
        exact fbX4_run_8_105_147 hk6 l2 l5 l6 (l4 - 1) u h
      · skip
        exact fbX4_run_8_105_147 hk6 l2 l5 l6 l4 u h
    · skip
      cases h
      exact fr_refl _ _
theorem fbX4_run_8_105_102 {v : Int32} {u' : Mem} {k6 : Int32 → Int32 → Int32 → Mem → Option (Int32 × Mem)} (hk6 : ∀ (l2 l4 l5 : Int32) (u : Mem), k6 l2 l4 l5 u = some (v, u') → FrL [14] u u') (l2 l4 l5 l6 : Int32) (u : Mem) (h : FX4_run_8_105_b102 k6 l2 l4 l5 l6 u = some (v, u')) : FrL [14] u u' := by
  unfold FX4_run_8_105_b102 at h
  rcases oi h with ⟨c1, h⟩ | ⟨c1, h⟩
  · skip
    exact fbX4_run_8_105_116 hk6 l2 l4 l5 l6 l4 2 u h
  · skip
    exact fbX4_run_8_105_116 hk6 l2 l4 l5 l6 l4 1 u h
theorem fbX4_run_8_105_95 {v : Int32} {u' : Mem} {k6 : Int32 → Int32 → Int32 → Mem → Option (Int32 × Mem)} (hk6 : ∀ (l2 l4 l5 : Int32) (u : Mem), k6 l2 l4 l5 u = some (v, u') → FrL [14] u u') (l2 l4 l5 t1 t2 : Int32) (u : Mem) (h : FX4_run_8_105_b95 k6 l2 l4 l5 t1 t2 u = some (v, u')) : FrL [14] u u' := by
  unfold FX4_run_8_105_b95 at h
  obtain ⟨u1, gu1, h⟩ := o_bind h
  refine ft (fr_wr rfl gu1) ?_
  exact fbX4_run_8_105_369 hk6 l2 (l4 + 1) l5 u1 h
theorem fbX4_run_8_105_6 {v : Int32} {u' : Mem} {k6 : Int32 → Int32 → Int32 → Mem → Option (Int32 × Mem)} (hk6 : ∀ (l2 l4 l5 : Int32) (u : Mem), k6 l2 l4 l5 u = some (v, u') → FrL [14] u u') (l2 l4 l5 : Int32) (u : Mem) (h : FX4_run_8_105_b6 k6 l2 l4 l5 u = some (v, u')) : FrL [14] u u' := by
  unfold FX4_run_8_105_b6 at h
  rcases io h with ⟨c1, h⟩ | ⟨c1, h⟩
  · skip
    exact fbX4_run_8_105_375 l4 u h
  · skip
    rcases io h with ⟨c2, h⟩ | ⟨c2, h⟩
    · skip
      exact fbX4_run_8_105_375 l4 u h
    · skip
      rcases io h with ⟨c3, h⟩ | ⟨c3, h⟩
      · skip
        exact fbX4_run_8_105_375 l4 u h
      · skip
        obtain ⟨x4, gx4, h⟩ := o_bind h
        rcases io h with ⟨c5, h⟩ | ⟨c5, h⟩
        · skip
          exact fbX4_run_8_105_102 hk6 l2 l4 l5 x4 u h
        · skip
          rcases io h with ⟨c6, h⟩ | ⟨c6, h⟩
          · skip
            exact fbX4_run_8_105_102 hk6 l2 l4 l5 x4 u h
          · skip
            rcases io h with ⟨c7, h⟩ | ⟨c7, h⟩
            · skip
              exact fbX4_run_8_105_102 hk6 l2 l4 l5 x4 u h
            · skip
              rcases io h with ⟨c8, h⟩ | ⟨c8, h⟩
              · skip
                rcases io h with ⟨c9, h⟩ | ⟨c9, h⟩
                · skip
                  exact fbX4_run_8_105_95 hk6 l2 l4 l5 l4 0 u h
                · skip
                  obtain ⟨x10, gx10, h⟩ := o_bind h
                  exact fbX4_run_8_105_95 hk6 l2 l4 l5 l4 x10 u h
              · skip
                exact fbX4_run_8_105_95 hk6 l2 l4 l5 l4 x4 u h
theorem flX4_run_8_105_6 {v : Int32} {u' : Mem} : ∀ (n : Nat) (l2 l4 l5 : Int32) (u : Mem), FX4_run_8_105_L6 n l2 l4 l5 u = some (v, u') → FrL [14] u u' := by
  intro n
  induction n with
  | zero =>
    intro l2 l4 l5 u h
    exact nn_ h
  | succ n ih =>
    intro l2 l4 l5 u h
    exact fbX4_run_8_105_6 ih l2 l4 l5 u h
theorem frX4_run_8_105 (p1 p2 : Int32) (u : Mem) {v : Int32} {u' : Mem} (h : FX4_run_8_105 p1 p2 u = some (v, u')) : FrL [14] u u' := by
  unfold FX4_run_8_105 at h
  exact flX4_run_8_105_6 FU p2 0 p1 u h
theorem fbX4_tell_8_105_96 {v : Int32} {u' : Mem} (l3 : Int32) (u : Mem) (h : FX4_tell_8_105_b96 l3 u = some (v, u')) : FrL [14] u u' := by
  unfold FX4_tell_8_105_b96 at h
  cases h
  exact fr_refl _ _
theorem fbX4_tell_8_105_90 {v : Int32} {u' : Mem} {k3 : Int32 → Int32 → Int32 → Mem → Option (Int32 × Mem)} (hk3 : ∀ (l1 l3 l4 : Int32) (u : Mem), k3 l1 l3 l4 u = some (v, u') → FrL [14] u u') (l1 l3 l4 : Int32) (u : Mem) (h : FX4_tell_8_105_b90 k3 l1 l3 l4 u = some (v, u')) : FrL [14] u u' := by
  unfold FX4_tell_8_105_b90 at h
  exact hk3 l1 l3 (l4 + 1) u h
theorem fbX4_tell_8_105_70 {v : Int32} {u' : Mem} (l4 : Int32) (u : Mem) (h : FX4_tell_8_105_b70 l4 u = some (v, u')) : FrL [14] u u' := by
  unfold FX4_tell_8_105_b70 at h
  obtain ⟨x1, gx1, h⟩ := o_bind h
  obtain ⟨x2, gx2, h⟩ := o_bind h
  obtain ⟨x3, u4, gx3, h⟩ := o_bnd2 h
  refine ft (fr_mono rfl (frX4_run_8_105 x1 x2 u gx3)) ?_
  cases h
  exact fr_refl _ _
theorem fbX4_tell_8_105_3 {v : Int32} {u' : Mem} {k3 : Int32 → Int32 → Int32 → Mem → Option (Int32 × Mem)} (hk3 : ∀ (l1 l3 l4 : Int32) (u : Mem), k3 l1 l3 l4 u = some (v, u') → FrL [14] u u') (l1 l3 l4 : Int32) (u : Mem) (h : FX4_tell_8_105_b3 k3 l1 l3 l4 u = some (v, u')) : FrL [14] u u' := by
  unfold FX4_tell_8_105_b3 at h
  rcases io h with ⟨c1, h⟩ | ⟨c1, h⟩
  · skip
    exact fbX4_tell_8_105_96 l3 u h
  · skip
    rcases io h with ⟨c2, h⟩ | ⟨c2, h⟩
    · skip
      exact fbX4_tell_8_105_96 l3 u h
    · skip
      obtain ⟨x3, gx3, h⟩ := o_bind h
      rcases oi h with ⟨c4, h⟩ | ⟨c4, h⟩
      · skip
        exact fbX4_tell_8_105_90 hk3 l1 l3 l4 u h
      · skip
        obtain ⟨x5, gx5, h⟩ := o_bind h
        obtain ⟨x6, gx6, h⟩ := o_bind h
        rcases io h with ⟨c7, h⟩ | ⟨c7, h⟩
        · skip
          exact fbX4_tell_8_105_70 l4 u h
        · skip
          obtain ⟨x8, gx8, h⟩ := o_bind h
          obtain ⟨x9, gx9, h⟩ := o_bind h
          obtain ⟨x10, u11, gx10, h⟩ := o_bnd2 h
          refine ft (fr_mono rfl (frX4_run_8_105 x8 x9 u gx10)) ?_
          rcases oi h with ⟨c12, h⟩ | ⟨c12, h⟩
          · skip
            exact fbX4_tell_8_105_90 hk3 l1 l3 l4 u11 h
          · skip
            exact fbX4_tell_8_105_70 l4 u11 h
theorem flX4_tell_8_105_3 {v : Int32} {u' : Mem} : ∀ (n : Nat) (l1 l3 l4 : Int32) (u : Mem), FX4_tell_8_105_L3 n l1 l3 l4 u = some (v, u') → FrL [14] u u' := by
  intro n
  induction n with
  | zero =>
    intro l1 l3 l4 u h
    exact nn_ h
  | succ n ih =>
    intro l1 l3 l4 u h
    exact fbX4_tell_8_105_3 ih l1 l3 l4 u h
theorem frX4_tell_8_105 (p1 p3 : Int32) (u : Mem) {v : Int32} {u' : Mem} (h : FX4_tell_8_105 p1 p3 u = some (v, u')) : FrL [14] u u' := by
  unfold FX4_tell_8_105 at h
  exact flX4_tell_8_105_3 FU p1 p3 0 u h
theorem fbX3_asked_104_195 {v : Int32} {u' : Mem} (l1 l2 t1 t2 : Int32) (u : Mem) (h : FX3_asked_104_b195 l1 l2 t1 t2 u = some (v, u')) : FrL [14, 105] u u' := by
  unfold FX3_asked_104_b195 at h
  obtain ⟨u1, gu1, h⟩ := o_bind h
  refine ft (fr_wr rfl gu1) ?_
  by_cases c2 : l2 = 0
  · have h := it h c2
    obtain ⟨x3, gx3, h⟩ := o_bind h
    obtain ⟨x4, u5, gx4, h⟩ := o_bnd2 h
    refine ft (fr_mono rfl (frX4_tell_8_105 0 (x3 - 59) u1 gx4)) ?_
    obtain ⟨x6, gx6, h⟩ := o_bind h
    cases h
    exact fr_refl _ _
  · have h := ie h c2
    by_cases c7 : l2 = 1
    · have h := it h c7
      obtain ⟨x8, gx8, h⟩ := o_bind h
      obtain ⟨x9, u10, gx9, h⟩ := o_bnd2 h
      refine ft (fr_mono rfl (frX4_tell_8_105 1 x8 u1 gx9)) ?_
      obtain ⟨x11, gx11, h⟩ := o_bind h
      cases h
      exact fr_refl _ _
    · have h := ie h c7
      by_cases c12 : l2 = 2
      · have h := it h c12
        obtain ⟨x13, u14, gx13, h⟩ := o_bnd2 h
        refine ft (fr_mono rfl (frX4_tell_8_105 2 0 u1 gx13)) ?_
        obtain ⟨x15, gx15, h⟩ := o_bind h
        cases h
        exact fr_refl _ _
      · have h := ie h c12
        obtain ⟨x16, u17, gx16, h⟩ := o_bnd2 h
        refine ft (fr_mono rfl (frX4_tell_8_105 3 50 u1 gx16)) ?_
        obtain ⟨x18, gx18, h⟩ := o_bind h
        cases h
        exact fr_refl _ _
theorem fbX3_asked_104_132 {v : Int32} {u' : Mem} (l1 l2 l3 t1 t2 : Int32) (u : Mem) (h : FX3_asked_104_b132 l1 l2 l3 t1 t2 u = some (v, u')) : FrL [14, 105] u u' := by
  unfold FX3_asked_104_b132 at h
  obtain ⟨u1, gu1, h⟩ := o_bind h
  refine ft (fr_wr rfl gu1) ?_
  obtain ⟨u2, gu2, h⟩ := o_bind h
  refine ft (fr_upd rfl gu2) ?_
  obtain ⟨u3, gu3, h⟩ := o_bind h
  refine ft (fr_upd rfl gu3) ?_
  rcases io h with ⟨c4, h⟩ | ⟨c4, h⟩
  · skip
    exact fbX3_asked_104_195 l1 l2 8 0 u3 h
  · skip
    obtain ⟨x5, gx5, h⟩ := o_bind h
    obtain ⟨x6, gx6, h⟩ := o_bind h
    rcases io h with ⟨c7, h⟩ | ⟨c7, h⟩
    · skip
      exact fbX3_asked_104_195 l1 l2 8 0 u3 h
    · skip
      exact fbX3_asked_104_195 l1 l2 8 1 u3 h
theorem fbX3_asked_104_31 {v : Int32} {u' : Mem} (l1 l2 t0 : Int32) (u : Mem) (h : FX3_asked_104_b31 l1 l2 t0 u = some (v, u')) : FrL [14, 105] u u' := by
  unfold FX3_asked_104_b31 at h
  obtain ⟨x1, gx1, h⟩ := o_bind h
  obtain ⟨u2, gu2, h⟩ := o_bind h
  refine ft (fr_upd rfl gu2) ?_
  obtain ⟨x3, gx3, h⟩ := o_bind h
  obtain ⟨u4, gu4, h⟩ := o_bind h
  refine ft (fr_upd rfl gu4) ?_
  obtain ⟨x5, gx5, h⟩ := o_bind h
  obtain ⟨u6, gu6, h⟩ := o_bind h
  refine ft (fr_upd rfl gu6) ?_
  obtain ⟨x7, gx7, h⟩ := o_bind h
  obtain ⟨u8, gu8, h⟩ := o_bind h
  refine ft (fr_upd rfl gu8) ?_
  obtain ⟨x9, gx9, h⟩ := o_bind h
  obtain ⟨x10, gx10, h⟩ := o_bind h
  obtain ⟨u11, gu11, h⟩ := o_bind h
  refine ft (fr_upd rfl gu11) ?_
  rcases io h with ⟨c12, h⟩ | ⟨c12, h⟩
  · skip
    exact fbX3_asked_104_132 l1 l2 t0 5 0 u11 h
  · skip
    obtain ⟨x13, gx13, h⟩ := o_bind h
    exact fbX3_asked_104_132 l1 l2 t0 5 x13 u11 h
theorem frX3_asked_104 (p1 p2 : Int32) (u : Mem) {v : Int32} {u' : Mem} (h : FX3_asked_104 p1 p2 u = some (v, u')) : FrL [14, 105] u u' := by
  unfold FX3_asked_104 at h
  obtain ⟨x1, gx1, h⟩ := o_bind h
  rcases oi h with ⟨c2, h⟩ | ⟨c2, h⟩
  · skip
    obtain ⟨x3, gx3, h⟩ := o_bind h
    rcases oi h with ⟨c4, h⟩ | ⟨c4, h⟩
    · skip
      exact fbX3_asked_104_31 p1 p2 0 u h
    · skip
      exact fbX3_asked_104_31 p1 p2 1 u h
  · skip
    cases h
    exact fr_refl _ _
theorem frX3_note_104 (p1 p2 p3 : Int32) (u : Mem) {u' : Mem} (h : FX3_note_104 p1 p2 p3 u = some u') : FrL [31, 97] u u' := by
  unfold FX3_note_104 at h
  rcases io h with ⟨c1, h⟩ | ⟨c1, h⟩
  · skip
    cases h
    exact fr_refl _ _
  · skip
    rcases io h with ⟨c2, h⟩ | ⟨c2, h⟩
    · skip
      cases h
      exact fr_refl _ _
    · skip
      obtain ⟨u4, gu4, h⟩ := o_bind h
      refine ft (fr_mono rfl (frX1_write_30 (u 97 9) (u 97 7) p1 p2 p3 u gu4)) ?_
      obtain ⟨u5, gu5, h⟩ := o_bind h
      refine ft (fr_upd rfl gu5) ?_
      cases h
      exact fr_refl _ _
theorem fbX3_callUp_104_175 {u' : Mem} (l1 l2 : Int32) (u : Mem) (h : FX3_callUp_104_b175 l1 l2 u = some u') : FrL [14, 31, 97, 101, 102, 105] u u' := by
  unfold FX3_callUp_104_b175 at h
  rcases io h with ⟨c1, h⟩ | ⟨c1, h⟩
  · skip
    cases h
    exact fr_refl _ _
  · skip
    obtain ⟨u2, gu2, h⟩ := o_bind h
    refine ft (fr_wr rfl gu2) ?_
    obtain ⟨x3, gx3, h⟩ := o_bind h
    obtain ⟨u4, gu4, h⟩ := o_bind h
    refine ft (fr_wr rfl gu4) ?_
    obtain ⟨x5, gx5, h⟩ := o_bind h
    obtain ⟨u7, gu7, h⟩ := o_bind h
    refine ft (fr_mono rfl (frX3_note_104 0 l2 x5 u4 gu7)) ?_
    cases h
    exact fr_refl _ _
theorem fbX3_callUp_104_169 {u' : Mem} {k32 : Int32 → Int32 → Int32 → Int32 → Mem → Option Mem} (hk32 : ∀ (l1 l2 l3 l4 : Int32) (u : Mem), k32 l1 l2 l3 l4 u = some u' → FrL [14, 31, 97, 101, 102, 105] u u') (l1 l2 l3 l4 : Int32) (u : Mem) (h : FX3_callUp_104_b169 k32 l1 l2 l3 l4 u = some u') : FrL [14, 31, 97, 101, 102, 105] u u' := by
  unfold FX3_callUp_104_b169 at h
  exact hk32 l1 l2 l3 (l4 + 1) u h
theorem fbX3_callUp_104_163 {u' : Mem} {k32 : Int32 → Int32 → Int32 → Int32 → Mem → Option Mem} (hk32 : ∀ (l1 l2 l3 l4 : Int32) (u : Mem), k32 l1 l2 l3 l4 u = some u' → FrL [14, 31, 97, 101, 102, 105] u u') (l1 l4 l5 : Int32) (u : Mem) (h : FX3_callUp_104_b163 k32 l1 l4 l5 u = some u') : FrL [14, 31, 97, 101, 102, 105] u u' := by
  unfold FX3_callUp_104_b163 at h
  exact fbX3_callUp_104_169 hk32 l1 l4 l5 l4 u h
theorem fbX3_callUp_104_139 {u' : Mem} {k32 : Int32 → Int32 → Int32 → Int32 → Mem → Option Mem} (hk32 : ∀ (l1 l2 l3 l4 : Int32) (u : Mem), k32 l1 l2 l3 l4 u = some u' → FrL [14, 31, 97, 101, 102, 105] u u') (l1 l2 l3 l4 l5 t0 : Int32) (u : Mem) (h : FX3_callUp_104_b139 k32 l1 l2 l3 l4 l5 t0 u = some u') : FrL [14, 31, 97, 101, 102, 105] u u' := by
  unfold FX3_callUp_104_b139 at h
  rcases io h with ⟨c1, h⟩ | ⟨c1, h⟩
  · skip
    exact fbX3_callUp_104_163 hk32 l1 l4 l5 u h
  · skip
    rcases io h with ⟨c2, h⟩ | ⟨c2, h⟩
    · skip
      exact fbX3_callUp_104_169 hk32 l1 l2 l3 l4 u h
    · skip
      rcases oi h with ⟨c3, h⟩ | ⟨c3, h⟩
      · skip
        exact fbX3_callUp_104_169 hk32 l1 l2 l3 l4 u h
      · skip
        rcases io h with ⟨c4, h⟩ | ⟨c4, h⟩
        · skip
          exact fbX3_callUp_104_169 hk32 l1 l2 l3 l4 u h
        · skip
          exact fbX3_callUp_104_163 hk32 l1 l4 l5 u h
theorem fbX3_callUp_104_32 {u' : Mem} {k32 : Int32 → Int32 → Int32 → Int32 → Mem → Option Mem} (hk32 : ∀ (l1 l2 l3 l4 : Int32) (u : Mem), k32 l1 l2 l3 l4 u = some u' → FrL [14, 31, 97, 101, 102, 105] u u') (l1 l2 l3 l4 : Int32) (u : Mem) (h : FX3_callUp_104_b32 k32 l1 l2 l3 l4 u = some u') : FrL [14, 31, 97, 101, 102, 105] u u' := by
  unfold FX3_callUp_104_b32 at h
  rcases io h with ⟨c1, h⟩ | ⟨c1, h⟩
  · skip
    exact fbX3_callUp_104_175 l1 l2 u h
  · skip
    rcases io h with ⟨c2, h⟩ | ⟨c2, h⟩
    · skip
      exact fbX3_callUp_104_175 l1 l2 u h
    · skip
      obtain ⟨x3, gx3, h⟩ := o_bind h
      rcases oi h with ⟨c4, h⟩ | ⟨c4, h⟩
      · skip
        exact fbX3_callUp_104_169 hk32 l1 l2 l3 l4 u h
      · skip
        obtain ⟨x5, gx5, h⟩ := o_bind h
        rcases oi h with ⟨c6, h⟩ | ⟨c6, h⟩
        · skip
          exact fbX3_callUp_104_169 hk32 l1 l2 l3 l4 u h
        · skip
          obtain ⟨x7, gx7, h⟩ := o_bind h
          rcases io h with ⟨c8, h⟩ | ⟨c8, h⟩
          · skip
            obtain ⟨x9, u10, gx9, h⟩ := o_bnd2 h
            refine ft (fr_mono rfl (frX3_asked_104 l4 0 u gx9)) ?_
            rcases io h with ⟨c11, h⟩ | ⟨c11, h⟩
            · skip
              exact fbX3_callUp_104_139 hk32 l1 l2 l3 l4 x9 0 u10 h
            · skip
              obtain ⟨x12, gx12, h⟩ := o_bind h
              obtain ⟨x13, gx13, h⟩ := o_bind h
              rcases io h with ⟨c14, h⟩ | ⟨c14, h⟩
              · skip
                exact fbX3_callUp_104_139 hk32 l1 l2 l3 l4 x9 0 u10 h
              · skip
                exact fbX3_callUp_104_139 hk32 l1 l2 l3 l4 x9 1 u10 h
          · skip
            exact fbX3_callUp_104_169 hk32 l1 l2 l3 l4 u h
theorem flX3_callUp_104_32 {u' : Mem} : ∀ (n : Nat) (l1 l2 l3 l4 : Int32) (u : Mem), FX3_callUp_104_L32 n l1 l2 l3 l4 u = some u' → FrL [14, 31, 97, 101, 102, 105] u u' := by
  intro n
  induction n with
  | zero =>
    intro l1 l2 l3 l4 u h
    exact nn_ h
  | succ n ih =>
    intro l1 l2 l3 l4 u h
    exact fbX3_callUp_104_32 ih l1 l2 l3 l4 u h
theorem frX3_callUp_104 (p1 : Int32) (u : Mem) {u' : Mem} (h : FX3_callUp_104 p1 u = some u') : FrL [14, 31, 97, 101, 102, 105] u u' := by
  unfold FX3_callUp_104 at h
  obtain ⟨x1, gx1, h⟩ := o_bind h
  rcases io h with ⟨c2, h⟩ | ⟨c2, h⟩
  · skip
    cases h
    exact fr_refl _ _
  · skip
    obtain ⟨x3, gx3, h⟩ := o_bind h
    obtain ⟨x4, gx4, h⟩ := o_bind h
    rcases io h with ⟨c5, h⟩ | ⟨c5, h⟩
    · skip
      exact flX3_callUp_104_32 FU p1 (-1) 0 0 u h
    · skip
      cases h
      exact fr_refl _ _
theorem fbX3_walk_104_110 {u' : Mem} {k48 : Int32 → Int32 → Int32 → Int32 → Int32 → Mem → Option Mem} (hk48 : ∀ (l1 l4 l5 l6 l7 : Int32) (u : Mem), k48 l1 l4 l5 l6 l7 u = some u' → FrL [102] u u') (l1 l4 l5 l6 l7 l8 l9 t0 : Int32) (u : Mem) (h : FX3_walk_104_b110 k48 l1 l4 l5 l6 l7 l8 l9 t0 u = some u') : FrL [102] u u' := by
  unfold FX3_walk_104_b110 at h
  rcases oi h with ⟨c1, h⟩ | ⟨c1, h⟩
  · skip
    cases h
    exact fr_refl _ _
  · skip
    rcases io h with ⟨c2, h⟩ | ⟨c2, h⟩
    · skip
      cases h
      exact fr_refl _ _
    · skip
      obtain ⟨x3, gx3, h⟩ := o_bind h
      obtain ⟨x4, gx4, h⟩ := o_bind h
      rcases io h with ⟨c5, h⟩ | ⟨c5, h⟩
      · skip
        obtain ⟨u6, gu6, h⟩ := o_bind h
        refine ft (fr_wr rfl gu6) ?_
        exact hk48 l1 l4 l5 (l6 - l9) (l7 + 1) u6 h
      · skip
        cases h
        exact fr_refl _ _
theorem fbX3_walk_104_91 {u' : Mem} {k48 : Int32 → Int32 → Int32 → Int32 → Int32 → Mem → Option Mem} (hk48 : ∀ (l1 l4 l5 l6 l7 : Int32) (u : Mem), k48 l1 l4 l5 l6 l7 u = some u' → FrL [102] u u') (l1 l4 l5 l6 l7 l8 t0 : Int32) (u : Mem) (h : FX3_walk_104_b91 k48 l1 l4 l5 l6 l7 l8 t0 u = some u') : FrL [102] u u' := by
  unfold FX3_walk_104_b91 at h
  rcases io h with ⟨c1, h⟩ | ⟨c1, h⟩
  · skip
    exact fbX3_walk_104_110 hk48 l1 l4 l5 l6 l7 l8 t0 1 u h
  · skip
    rcases io h with ⟨c2, h⟩ | ⟨c2, h⟩
    · skip
      exact fbX3_walk_104_110 hk48 l1 l4 l5 l6 l7 l8 t0 0 u h
    · skip
      exact fbX3_walk_104_110 hk48 l1 l4 l5 l6 l7 l8 t0 1 u h
theorem fbX3_walk_104_48 {u' : Mem} {k48 : Int32 → Int32 → Int32 → Int32 → Int32 → Mem → Option Mem} (hk48 : ∀ (l1 l4 l5 l6 l7 : Int32) (u : Mem), k48 l1 l4 l5 l6 l7 u = some u' → FrL [102] u u') (l1 l4 l5 l6 l7 : Int32) (u : Mem) (h : FX3_walk_104_b48 k48 l1 l4 l5 l6 l7 u = some u') : FrL [102] u u' := by
  unfold FX3_walk_104_b48 at h
  rcases io h with ⟨c1, h⟩ | ⟨c1, h⟩
  · skip
    cases h
    exact fr_refl _ _
  · skip
    rcases io h with ⟨c2, h⟩ | ⟨c2, h⟩
    · skip
      cases h
      exact fr_refl _ _
    · skip
      obtain ⟨x3, gx3, h⟩ := o_bind h
      obtain ⟨x4, gx4, h⟩ := o_bind h
      rcases io h with ⟨c5, h⟩ | ⟨c5, h⟩
      · skip
        exact fbX3_walk_104_91 hk48 l1 l4 l5 l6 l7 (x3 + l4) 1 u h
      · skip
        exact fbX3_walk_104_91 hk48 l1 l4 l5 l6 l7 (x3 + l4) 2 u h
theorem flX3_walk_104_48 {u' : Mem} : ∀ (n : Nat) (l1 l4 l5 l6 l7 : Int32) (u : Mem), FX3_walk_104_L48 n l1 l4 l5 l6 l7 u = some u' → FrL [102] u u' := by
  intro n
  induction n with
  | zero =>
    intro l1 l4 l5 l6 l7 u h
    exact nn_ h
  | succ n ih =>
    intro l1 l4 l5 l6 l7 u h
    exact fbX3_walk_104_48 ih l1 l4 l5 l6 l7 u h
theorem fbX3_walk_104_31 {u' : Mem} (l1 l2 l3 t0 : Int32) (u : Mem) (h : FX3_walk_104_b31 l1 l2 l3 t0 u = some u') : FrL [102] u u' := by
  unfold FX3_walk_104_b31 at h
  obtain ⟨x1, gx1, h⟩ := o_bind h
  exact flX3_walk_104_48 FU l1 t0 x1 l2 0 u h
theorem frX3_walk_104 (p1 p2 : Int32) (u : Mem) {u' : Mem} (h : FX3_walk_104 p1 p2 u = some u') : FrL [102] u u' := by
  unfold FX3_walk_104 at h
  obtain ⟨x1, gx1, h⟩ := o_bind h
  rcases oi h with ⟨c2, h⟩ | ⟨c2, h⟩
  · skip
    obtain ⟨x3, gx3, h⟩ := o_bind h
    rcases oi h with ⟨c4, h⟩ | ⟨c4, h⟩
    · skip
      exact fbX3_walk_104_31 p1 p2 x3 (-1) u h
    · skip
      exact fbX3_walk_104_31 p1 p2 x3 1 u h
  · skip
    cases h
    exact fr_refl _ _
theorem fbX3_goOn_104_155 {u' : Mem} {k40 : Int32 → Int32 → Int32 → Mem → Option Mem} (hk40 : ∀ (l1 l2 l3 : Int32) (u : Mem), k40 l1 l2 l3 u = some u' → FrL [14, 98, 102, 105] u u') (l1 l2 l3 : Int32) (u : Mem) (h : FX3_goOn_104_b155 k40 l1 l2 l3 u = some u') : FrL [14, 98, 102, 105] u u' := by
  unfold FX3_goOn_104_b155 at h
  exact hk40 l1 l2 (l3 + 1) u h
theorem fbX3_goOn_104_108 {u' : Mem} {k40 : Int32 → Int32 → Int32 → Mem → Option Mem} (hk40 : ∀ (l1 l2 l3 : Int32) (u : Mem), k40 l1 l2 l3 u = some u' → FrL [14, 98, 102, 105] u u') (l1 l2 l3 t0 : Int32) (u : Mem) (h : FX3_goOn_104_b108 k40 l1 l2 l3 t0 u = some u') : FrL [14, 98, 102, 105] u u' := by
  unfold FX3_goOn_104_b108 at h
  rcases io h with ⟨c1, h⟩ | ⟨c1, h⟩
  · skip
    obtain ⟨x2, u3, gx2, h⟩ := o_bnd2 h
    refine ft (fr_mono rfl (frX3_asked_104 l3 1 u gx2)) ?_
    obtain ⟨u5, gu5, h⟩ := o_bind h
    refine ft (fr_mono rfl (frX3_walk_104 l3 x2 u3 gu5)) ?_
    exact fbX3_goOn_104_155 hk40 l1 l2 l3 u5 h
  · skip
    obtain ⟨x6, gx6, h⟩ := o_bind h
    obtain ⟨u7, gu7, h⟩ := o_bind h
    refine ft (fr_wr rfl gu7) ?_
    exact fbX3_goOn_104_155 hk40 l1 l2 l3 u7 h
theorem fbX3_goOn_104_90 {u' : Mem} {k40 : Int32 → Int32 → Int32 → Mem → Option Mem} (hk40 : ∀ (l1 l2 l3 : Int32) (u : Mem), k40 l1 l2 l3 u = some u' → FrL [14, 98, 102, 105] u u') (l1 l2 l3 t0 : Int32) (u : Mem) (h : FX3_goOn_104_b90 k40 l1 l2 l3 t0 u = some u') : FrL [14, 98, 102, 105] u u' := by
  unfold FX3_goOn_104_b90 at h
  rcases io h with ⟨c1, h⟩ | ⟨c1, h⟩
  · skip
    obtain ⟨x2, u3, gx2, h⟩ := o_bnd2 h
    refine ft (fr_mono rfl (frX3_asked_104 l3 2 u gx2)) ?_
    exact fbX3_goOn_104_108 hk40 l1 l2 l3 x2 u3 h
  · skip
    exact fbX3_goOn_104_108 hk40 l1 l2 l3 10 u h
theorem fbX3_goOn_104_40 {u' : Mem} {k40 : Int32 → Int32 → Int32 → Mem → Option Mem} (hk40 : ∀ (l1 l2 l3 : Int32) (u : Mem), k40 l1 l2 l3 u = some u' → FrL [14, 98, 102, 105] u u') (l1 l2 l3 : Int32) (u : Mem) (h : FX3_goOn_104_b40 k40 l1 l2 l3 u = some u') : FrL [14, 98, 102, 105] u u' := by
  unfold FX3_goOn_104_b40 at h
  rcases io h with ⟨c1, h⟩ | ⟨c1, h⟩
  · skip
    cases h
    exact fr_refl _ _
  · skip
    rcases io h with ⟨c2, h⟩ | ⟨c2, h⟩
    · skip
      cases h
      exact fr_refl _ _
    · skip
      obtain ⟨x3, gx3, h⟩ := o_bind h
      rcases io h with ⟨c4, h⟩ | ⟨c4, h⟩
      · skip
        obtain ⟨x5, gx5, h⟩ := o_bind h
        rcases oi h with ⟨c6, h⟩ | ⟨c6, h⟩
        · skip
          exact fbX3_goOn_104_90 hk40 l1 l2 l3 l2 u h
        · skip
          exact fbX3_goOn_104_90 hk40 l1 l2 l3 l1 u h
      · skip
        exact fbX3_goOn_104_155 hk40 l1 l2 l3 u h
theorem flX3_goOn_104_40 {u' : Mem} : ∀ (n : Nat) (l1 l2 l3 : Int32) (u : Mem), FX3_goOn_104_L40 n l1 l2 l3 u = some u' → FrL [14, 98, 102, 105] u u' := by
  intro n
  induction n with
  | zero =>
    intro l1 l2 l3 u h
    exact nn_ h
  | succ n ih =>
    intro l1 l2 l3 u h
    exact fbX3_goOn_104_40 ih l1 l2 l3 u h
theorem frX3_goOn_104 (u : Mem) {u' : Mem} (h : FX3_goOn_104 u = some u') : FrL [14, 98, 102, 105] u u' := by
  unfold FX3_goOn_104 at h
  obtain ⟨x1, gx1, h⟩ := o_bind h
  obtain ⟨x2, gx2, h⟩ := o_bind h
  exact flX3_goOn_104_40 FU x1 x2 0 u h
theorem fbX3_halve_104_41 {u' : Mem} {k2 : Int32 → Int32 → Mem → Option Mem} (hk2 : ∀ (l1 l2 : Int32) (u : Mem), k2 l1 l2 u = some u' → FrL [98] u u') (l1 l2 : Int32) (u : Mem) (h : FX3_halve_104_b41 k2 l1 l2 u = some u') : FrL [98] u u' := by
  unfold FX3_halve_104_b41 at h
  exact hk2 l1 (l2 + 1) u h
theorem fbX3_halve_104_2 {u' : Mem} {k2 : Int32 → Int32 → Mem → Option Mem} (hk2 : ∀ (l1 l2 : Int32) (u : Mem), k2 l1 l2 u = some u' → FrL [98] u u') (l1 l2 : Int32) (u : Mem) (h : FX3_halve_104_b2 k2 l1 l2 u = some u') : FrL [98] u u' := by
  unfold FX3_halve_104_b2 at h
  rcases io h with ⟨c1, h⟩ | ⟨c1, h⟩
  · skip
    cases h
    exact fr_refl _ _
  · skip
    rcases io h with ⟨c2, h⟩ | ⟨c2, h⟩
    · skip
      cases h
      exact fr_refl _ _
    · skip
      obtain ⟨x3, gx3, h⟩ := o_bind h
      rcases io h with ⟨c4, h⟩ | ⟨c4, h⟩
      · skip
        exact fbX3_halve_104_41 hk2 l1 l2 u h
      · skip
        obtain ⟨x5, gx5, h⟩ := o_bind h
        obtain ⟨x6, gx6, h⟩ := o_bind h
        obtain ⟨u7, gu7, h⟩ := o_bind h
        refine ft (fr_wr rfl gu7) ?_
        exact fbX3_halve_104_41 hk2 l1 l2 u7 h
theorem flX3_halve_104_2 {u' : Mem} : ∀ (n : Nat) (l1 l2 : Int32) (u : Mem), FX3_halve_104_L2 n l1 l2 u = some u' → FrL [98] u u' := by
  intro n
  induction n with
  | zero =>
    intro l1 l2 u h
    exact nn_ h
  | succ n ih =>
    intro l1 l2 u h
    exact fbX3_halve_104_2 ih l1 l2 u h
theorem frX3_halve_104 (p1 : Int32) (u : Mem) {u' : Mem} (h : FX3_halve_104 p1 u = some u') : FrL [98] u u' := by
  unfold FX3_halve_104 at h
  exact flX3_halve_104_2 FU p1 0 u h
theorem fbX3_catchYoungest_104_96 {u' : Mem} (l2 l3 : Int32) (u : Mem) (h : FX3_catchYoungest_104_b96 l2 l3 u = some u') : FrL [31, 97, 101, 103, 104] u u' := by
  unfold FX3_catchYoungest_104_b96 at h
  rcases io h with ⟨c1, h⟩ | ⟨c1, h⟩
  · skip
    cases h
    exact fr_refl _ _
  · skip
    obtain ⟨u2, gu2, h⟩ := o_bind h
    refine ft (fr_wr rfl gu2) ?_
    obtain ⟨u3, gu3, h⟩ := o_bind h
    refine ft (fr_wr rfl gu3) ?_
    obtain ⟨u4, gu4, h⟩ := o_bind h
    refine ft (fr_upd rfl gu4) ?_
    obtain ⟨u6, gu6, h⟩ := o_bind h
    refine ft (fr_mono rfl (frX3_note_104 1 l3 l2 u4 gu6)) ?_
    cases h
    exact fr_refl _ _
theorem fbX3_catchYoungest_104_90 {u' : Mem} {k5 : Int32 → Int32 → Int32 → Int32 → Mem → Option Mem} (hk5 : ∀ (l1 l2 l3 l4 : Int32) (u : Mem), k5 l1 l2 l3 l4 u = some u' → FrL [31, 97, 101, 103, 104] u u') (l1 l2 l3 l4 : Int32) (u : Mem) (h : FX3_catchYoungest_104_b90 k5 l1 l2 l3 l4 u = some u') : FrL [31, 97, 101, 103, 104] u u' := by
  unfold FX3_catchYoungest_104_b90 at h
  exact hk5 l1 l2 l3 (l4 + 1) u h
theorem fbX3_catchYoungest_104_87 {u' : Mem} {k5 : Int32 → Int32 → Int32 → Int32 → Mem → Option Mem} (hk5 : ∀ (l1 l2 l3 l4 : Int32) (u : Mem), k5 l1 l2 l3 l4 u = some u' → FrL [31, 97, 101, 103, 104] u u') (l1 l2 l4 : Int32) (u : Mem) (h : FX3_catchYoungest_104_b87 k5 l1 l2 l4 u = some u') : FrL [31, 97, 101, 103, 104] u u' := by
  unfold FX3_catchYoungest_104_b87 at h
  exact fbX3_catchYoungest_104_90 hk5 l1 l2 l4 l4 u h
theorem fbX3_catchYoungest_104_53 {u' : Mem} {k5 : Int32 → Int32 → Int32 → Int32 → Mem → Option Mem} (hk5 : ∀ (l1 l2 l3 l4 : Int32) (u : Mem), k5 l1 l2 l3 l4 u = some u' → FrL [31, 97, 101, 103, 104] u u') (l1 l2 l3 l4 t0 : Int32) (u : Mem) (h : FX3_catchYoungest_104_b53 k5 l1 l2 l3 l4 t0 u = some u') : FrL [31, 97, 101, 103, 104] u u' := by
  unfold FX3_catchYoungest_104_b53 at h
  rcases io h with ⟨c1, h⟩ | ⟨c1, h⟩
  · skip
    exact fbX3_catchYoungest_104_90 hk5 l1 l2 l3 l4 u h
  · skip
    rcases io h with ⟨c2, h⟩ | ⟨c2, h⟩
    · skip
      exact fbX3_catchYoungest_104_87 hk5 l1 l2 l4 u h
    · skip
      obtain ⟨x3, gx3, h⟩ := o_bind h
      obtain ⟨x4, gx4, h⟩ := o_bind h
      rcases io h with ⟨c5, h⟩ | ⟨c5, h⟩
      · skip
        exact fbX3_catchYoungest_104_90 hk5 l1 l2 l3 l4 u h
      · skip
        exact fbX3_catchYoungest_104_87 hk5 l1 l2 l4 u h
theorem fbX3_catchYoungest_104_5 {u' : Mem} {k5 : Int32 → Int32 → Int32 → Int32 → Mem → Option Mem} (hk5 : ∀ (l1 l2 l3 l4 : Int32) (u : Mem), k5 l1 l2 l3 l4 u = some u' → FrL [31, 97, 101, 103, 104] u u') (l1 l2 l3 l4 : Int32) (u : Mem) (h : FX3_catchYoungest_104_b5 k5 l1 l2 l3 l4 u = some u') : FrL [31, 97, 101, 103, 104] u u' := by
  unfold FX3_catchYoungest_104_b5 at h
  rcases io h with ⟨c1, h⟩ | ⟨c1, h⟩
  · skip
    exact fbX3_catchYoungest_104_96 l2 l3 u h
  · skip
    rcases io h with ⟨c2, h⟩ | ⟨c2, h⟩
    · skip
      exact fbX3_catchYoungest_104_96 l2 l3 u h
    · skip
      obtain ⟨x3, gx3, h⟩ := o_bind h
      rcases oi h with ⟨c4, h⟩ | ⟨c4, h⟩
      · skip
        exact fbX3_catchYoungest_104_53 hk5 l1 l2 l3 l4 0 u h
      · skip
        obtain ⟨x5, gx5, h⟩ := o_bind h
        rcases io h with ⟨c6, h⟩ | ⟨c6, h⟩
        · skip
          exact fbX3_catchYoungest_104_53 hk5 l1 l2 l3 l4 0 u h
        · skip
          exact fbX3_catchYoungest_104_53 hk5 l1 l2 l3 l4 1 u h
theorem flX3_catchYoungest_104_5 {u' : Mem} : ∀ (n : Nat) (l1 l2 l3 l4 : Int32) (u : Mem), FX3_catchYoungest_104_L5 n l1 l2 l3 l4 u = some u' → FrL [31, 97, 101, 103, 104] u u' := by
  intro n
  induction n with
  | zero =>
    intro l1 l2 l3 l4 u h
    exact nn_ h
  | succ n ih =>
    intro l1 l2 l3 l4 u h
    exact fbX3_catchYoungest_104_5 ih l1 l2 l3 l4 u h
theorem frX3_catchYoungest_104 (p1 p2 : Int32) (u : Mem) {u' : Mem} (h : FX3_catchYoungest_104 p1 p2 u = some u') : FrL [31, 97, 101, 103, 104] u u' := by
  unfold FX3_catchYoungest_104 at h
  exact flX3_catchYoungest_104_5 FU p1 p2 (-1) 0 u h
theorem fbX3_beat_104_102 {u' : Mem} {k2 : Int32 → Int32 → Int32 → Mem → Option Mem} (hk2 : ∀ (l1 l2 l3 : Int32) (u : Mem), k2 l1 l2 l3 u = some u' → FrL [31, 97, 98, 101] u u') (l1 l2 l3 : Int32) (u : Mem) (h : FX3_beat_104_b102 k2 l1 l2 l3 u = some u') : FrL [31, 97, 98, 101] u u' := by
  unfold FX3_beat_104_b102 at h
  exact hk2 l1 l2 (l3 + 1) u h
theorem fbX3_beat_104_2 {u' : Mem} {k2 : Int32 → Int32 → Int32 → Mem → Option Mem} (hk2 : ∀ (l1 l2 l3 : Int32) (u : Mem), k2 l1 l2 l3 u = some u' → FrL [31, 97, 98, 101] u u') (l1 l2 l3 : Int32) (u : Mem) (h : FX3_beat_104_b2 k2 l1 l2 l3 u = some u') : FrL [31, 97, 98, 101] u u' := by
  unfold FX3_beat_104_b2 at h
  rcases io h with ⟨c1, h⟩ | ⟨c1, h⟩
  · skip
    cases h
    exact fr_refl _ _
  · skip
    rcases io h with ⟨c2, h⟩ | ⟨c2, h⟩
    · skip
      cases h
      exact fr_refl _ _
    · skip
      obtain ⟨x3, gx3, h⟩ := o_bind h
      rcases oi h with ⟨c4, h⟩ | ⟨c4, h⟩
      · skip
        obtain ⟨x5, gx5, h⟩ := o_bind h
        rcases io h with ⟨c6, h⟩ | ⟨c6, h⟩
        · skip
          obtain ⟨u7, gu7, h⟩ := o_bind h
          refine ft (fr_wr rfl gu7) ?_
          obtain ⟨x8, gx8, h⟩ := o_bind h
          obtain ⟨x9, gx9, h⟩ := o_bind h
          obtain ⟨u10, gu10, h⟩ := o_bind h
          refine ft (fr_wr rfl gu10) ?_
          obtain ⟨u12, gu12, h⟩ := o_bind h
          refine ft (fr_mono rfl (frX3_note_104 2 l3 l2 u10 gu12)) ?_
          exact fbX3_beat_104_102 hk2 l1 l2 l3 u12 h
        · skip
          obtain ⟨x13, gx13, h⟩ := o_bind h
          obtain ⟨u14, gu14, h⟩ := o_bind h
          refine ft (fr_wr rfl gu14) ?_
          exact fbX3_beat_104_102 hk2 l1 l2 l3 u14 h
      · skip
        exact fbX3_beat_104_102 hk2 l1 l2 l3 u h
theorem flX3_beat_104_2 {u' : Mem} : ∀ (n : Nat) (l1 l2 l3 : Int32) (u : Mem), FX3_beat_104_L2 n l1 l2 l3 u = some u' → FrL [31, 97, 98, 101] u u' := by
  intro n
  induction n with
  | zero =>
    intro l1 l2 l3 u h
    exact nn_ h
  | succ n ih =>
    intro l1 l2 l3 u h
    exact fbX3_beat_104_2 ih l1 l2 l3 u h
theorem frX3_beat_104 (p1 p2 : Int32) (u : Mem) {u' : Mem} (h : FX3_beat_104 p1 p2 u = some u') : FrL [31, 97, 98, 101] u u' := by
  unfold FX3_beat_104 at h
  exact flX3_beat_104_2 FU p1 p2 0 u h
theorem fbX3_fight_104_85 {u' : Mem} {k14 : Int32 → Int32 → Mem → Option Mem} (hk14 : ∀ (l1 l2 : Int32) (u : Mem), k14 l1 l2 u = some u' → FrL [31, 97, 98, 101, 103, 104] u u') (l1 l2 : Int32) (u : Mem) (h : FX3_fight_104_b85 k14 l1 l2 u = some u') : FrL [31, 97, 98, 101, 103, 104] u u' := by
  unfold FX3_fight_104_b85 at h
  exact hk14 l1 (l2 + 1) u h
theorem fbX3_fight_104_81 {u' : Mem} {k14 : Int32 → Int32 → Mem → Option Mem} (hk14 : ∀ (l1 l2 : Int32) (u : Mem), k14 l1 l2 u = some u' → FrL [31, 97, 98, 101, 103, 104] u u') (l1 l2 t1 : Int32) (u : Mem) (h : FX3_fight_104_b81 k14 l1 l2 t1 u = some u') : FrL [31, 97, 98, 101, 103, 104] u u' := by
  unfold FX3_fight_104_b81 at h
  obtain ⟨u2, gu2, h⟩ := o_bind h
  refine ft (fr_mono rfl (frX3_beat_104 t1 l2 u gu2)) ?_
  exact fbX3_fight_104_85 hk14 l1 l2 u2 h
theorem fbX3_fight_104_67 {u' : Mem} {k14 : Int32 → Int32 → Mem → Option Mem} (hk14 : ∀ (l1 l2 : Int32) (u : Mem), k14 l1 l2 u = some u' → FrL [31, 97, 98, 101, 103, 104] u u') (l1 l2 l3 t1 : Int32) (u : Mem) (h : FX3_fight_104_b67 k14 l1 l2 l3 t1 u = some u') : FrL [31, 97, 98, 101, 103, 104] u u' := by
  unfold FX3_fight_104_b67 at h
  obtain ⟨u2, gu2, h⟩ := o_bind h
  refine ft (fr_mono rfl (frX3_catchYoungest_104 t1 l2 u gu2)) ?_
  rcases io h with ⟨c3, h⟩ | ⟨c3, h⟩
  · skip
    exact fbX3_fight_104_81 hk14 l1 l2 1 u2 h
  · skip
    exact fbX3_fight_104_81 hk14 l1 l2 0 u2 h
theorem fbX3_fight_104_14 {u' : Mem} {k14 : Int32 → Int32 → Mem → Option Mem} (hk14 : ∀ (l1 l2 : Int32) (u : Mem), k14 l1 l2 u = some u' → FrL [31, 97, 98, 101, 103, 104] u u') (l1 l2 : Int32) (u : Mem) (h : FX3_fight_104_b14 k14 l1 l2 u = some u') : FrL [31, 97, 98, 101, 103, 104] u u' := by
  unfold FX3_fight_104_b14 at h
  rcases io h with ⟨c1, h⟩ | ⟨c1, h⟩
  · skip
    cases h
    exact fr_refl _ _
  · skip
    obtain ⟨x2, gx2, h⟩ := o_bind h
    rcases oi h with ⟨c3, h⟩ | ⟨c3, h⟩
    · skip
      obtain ⟨x4, gx4, h⟩ := o_bind h
      obtain ⟨x5, gx5, h⟩ := o_bind h
      rcases oi h with ⟨c6, h⟩ | ⟨c6, h⟩
      · skip
        rcases io h with ⟨c7, h⟩ | ⟨c7, h⟩
        · skip
          exact fbX3_fight_104_67 hk14 l1 l2 (x4 - x5) 1 u h
        · skip
          exact fbX3_fight_104_67 hk14 l1 l2 (x4 - x5) 0 u h
      · skip
        obtain ⟨u9, gu9, h⟩ := o_bind h
        refine ft (fr_mono rfl (frX3_halve_104 l2 u gu9)) ?_
        exact fbX3_fight_104_85 hk14 l1 l2 u9 h
    · skip
      exact fbX3_fight_104_85 hk14 l1 l2 u h
theorem flX3_fight_104_14 {u' : Mem} : ∀ (n : Nat) (l1 l2 : Int32) (u : Mem), FX3_fight_104_L14 n l1 l2 u = some u' → FrL [31, 97, 98, 101, 103, 104] u u' := by
  intro n
  induction n with
  | zero =>
    intro l1 l2 u h
    exact nn_ h
  | succ n ih =>
    intro l1 l2 u h
    exact fbX3_fight_104_14 ih l1 l2 u h
theorem frX3_fight_104 (u : Mem) {u' : Mem} (h : FX3_fight_104 u = some u') : FrL [31, 97, 98, 101, 103, 104] u u' := by
  unfold FX3_fight_104 at h
  obtain ⟨x1, gx1, h⟩ := o_bind h
  obtain ⟨x2, gx2, h⟩ := o_bind h
  exact flX3_fight_104_14 FU (x1 &&& x2) 0 u h
theorem fbX3_arrive_104_66 {u' : Mem} (u : Mem) (h : FX3_arrive_104_b66 u = some u') : FrL [97] u u' := by
  unfold FX3_arrive_104_b66 at h
  obtain ⟨u1, gu1, h⟩ := o_bind h
  refine ft (fr_upd rfl gu1) ?_
  cases h
  exact fr_refl _ _
theorem fbX3_arrive_104_39 {u' : Mem} (l1 l2 t0 : Int32) (u : Mem) (h : FX3_arrive_104_b39 l1 l2 t0 u = some u') : FrL [97] u u' := by
  unfold FX3_arrive_104_b39 at h
  rcases oi h with ⟨c1, h⟩ | ⟨c1, h⟩
  · skip
    exact fbX3_arrive_104_66 u h
  · skip
    obtain ⟨x2, gx2, h⟩ := o_bind h
    obtain ⟨x3, gx3, h⟩ := o_bind h
    rcases io h with ⟨c4, h⟩ | ⟨c4, h⟩
    · skip
      cases h
      exact fr_refl _ _
    · skip
      obtain ⟨x5, gx5, h⟩ := o_bind h
      obtain ⟨x6, gx6, h⟩ := o_bind h
      rcases oi h with ⟨c7, h⟩ | ⟨c7, h⟩
      · skip
        cases h
        exact fr_refl _ _
      · skip
        exact fbX3_arrive_104_66 u h
theorem frX3_arrive_104 (u : Mem) {u' : Mem} (h : FX3_arrive_104 u = some u') : FrL [97] u u' := by
  unfold FX3_arrive_104 at h
  obtain ⟨x1, gx1, h⟩ := o_bind h
  obtain ⟨x2, gx2, h⟩ := o_bind h
  obtain ⟨x3, gx3, h⟩ := o_bind h
  obtain ⟨x4, gx4, h⟩ := o_bind h
  rcases io h with ⟨c5, h⟩ | ⟨c5, h⟩
  · skip
    exact fbX3_arrive_104_39 x1 x2 0 u h
  · skip
    obtain ⟨x6, gx6, h⟩ := o_bind h
    obtain ⟨x7, gx7, h⟩ := o_bind h
    rcases oi h with ⟨c8, h⟩ | ⟨c8, h⟩
    · skip
      exact fbX3_arrive_104_39 x1 x2 0 u h
    · skip
      exact fbX3_arrive_104_39 x1 x2 1 u h
theorem fbX3_tellOn_104_115 {u' : Mem} {k2 : Int32 → Mem → Option Mem} (hk2 : ∀ (l1 : Int32) (u : Mem), k2 l1 u = some u' → FrL [99] u u') (l1 : Int32) (u : Mem) (h : FX3_tellOn_104_b115 k2 l1 u = some u') : FrL [99] u u' := by
  unfold FX3_tellOn_104_b115 at h
  exact hk2 (l1 + 1) u h
theorem fbX3_tellOn_104_109 {u' : Mem} {k21 : Int32 → Int32 → Mem → Option Mem} (hk21 : ∀ (l1 l2 : Int32) (u : Mem), k21 l1 l2 u = some u' → FrL [99] u u') (l1 l2 : Int32) (u : Mem) (h : FX3_tellOn_104_b109 k21 l1 l2 u = some u') : FrL [99] u u' := by
  unfold FX3_tellOn_104_b109 at h
  exact hk21 l1 (l2 + 1) u h
theorem fbX3_tellOn_104_67 {u' : Mem} {k21 : Int32 → Int32 → Mem → Option Mem} (hk21 : ∀ (l1 l2 : Int32) (u : Mem), k21 l1 l2 u = some u' → FrL [99] u u') (l1 l2 t0 : Int32) (u : Mem) (h : FX3_tellOn_104_b67 k21 l1 l2 t0 u = some u') : FrL [99] u u' := by
  unfold FX3_tellOn_104_b67 at h
  rcases io h with ⟨c1, h⟩ | ⟨c1, h⟩
  · skip
    exact fbX3_tellOn_104_109 hk21 l1 l2 u h
  · skip
    obtain ⟨x2, gx2, h⟩ := o_bind h
    obtain ⟨x3, gx3, h⟩ := o_bind h
    rcases io h with ⟨c4, h⟩ | ⟨c4, h⟩
    · skip
      exact fbX3_tellOn_104_109 hk21 l1 l2 u h
    · skip
      obtain ⟨x5, gx5, h⟩ := o_bind h
      obtain ⟨x6, gx6, h⟩ := o_bind h
      obtain ⟨u7, gu7, h⟩ := o_bind h
      refine ft (fr_wr rfl gu7) ?_
      exact fbX3_tellOn_104_109 hk21 l1 l2 u7 h
theorem fbX3_tellOn_104_21 {u' : Mem} {k2 : Int32 → Mem → Option Mem} (hk2 : ∀ (l1 : Int32) (u : Mem), k2 l1 u = some u' → FrL [99] u u') {k21 : Int32 → Int32 → Mem → Option Mem} (hk21 : ∀ (l1 l2 : Int32) (u : Mem), k21 l1 l2 u = some u' → FrL [99] u u') (l1 l2 : Int32) (u : Mem) (h : FX3_tellOn_104_b21 k2 k21 l1 l2 u = some u') : FrL [99] u u' := by
  unfold FX3_tellOn_104_b21 at h
  rcases io h with ⟨c1, h⟩ | ⟨c1, h⟩
  · skip
    exact fbX3_tellOn_104_115 hk2 l1 u h
  · skip
    rcases io h with ⟨c2, h⟩ | ⟨c2, h⟩
    · skip
      exact fbX3_tellOn_104_115 hk2 l1 u h
    · skip
      obtain ⟨x3, gx3, h⟩ := o_bind h
      rcases oi h with ⟨c4, h⟩ | ⟨c4, h⟩
      · skip
        exact fbX3_tellOn_104_67 hk21 l1 l2 0 u h
      · skip
        obtain ⟨x5, gx5, h⟩ := o_bind h
        rcases oi h with ⟨c6, h⟩ | ⟨c6, h⟩
        · skip
          exact fbX3_tellOn_104_67 hk21 l1 l2 0 u h
        · skip
          exact fbX3_tellOn_104_67 hk21 l1 l2 1 u h
theorem flX3_tellOn_104_21 {u' : Mem} {k2 : Int32 → Mem → Option Mem} (hk2 : ∀ (l1 : Int32) (u : Mem), k2 l1 u = some u' → FrL [99] u u') : ∀ (n : Nat) (l1 l2 : Int32) (u : Mem), FX3_tellOn_104_L21 k2 n l1 l2 u = some u' → FrL [99] u u' := by
  intro n
  induction n with
  | zero =>
    intro l1 l2 u h
    exact nn_ h
  | succ n ih =>
    intro l1 l2 u h
    exact fbX3_tellOn_104_21 hk2 ih l1 l2 u h
theorem fbX3_tellOn_104_2 {u' : Mem} {k2 : Int32 → Mem → Option Mem} (hk2 : ∀ (l1 : Int32) (u : Mem), k2 l1 u = some u' → FrL [99] u u') (l1 : Int32) (u : Mem) (h : FX3_tellOn_104_b2 k2 l1 u = some u') : FrL [99] u u' := by
  unfold FX3_tellOn_104_b2 at h
  rcases io h with ⟨c1, h⟩ | ⟨c1, h⟩
  · skip
    cases h
    exact fr_refl _ _
  · skip
    rcases io h with ⟨c2, h⟩ | ⟨c2, h⟩
    · skip
      cases h
      exact fr_refl _ _
    · skip
      exact flX3_tellOn_104_21 hk2 FU l1 0 u h
theorem flX3_tellOn_104_2 {u' : Mem} : ∀ (n : Nat) (l1 : Int32) (u : Mem), FX3_tellOn_104_L2 n l1 u = some u' → FrL [99] u u' := by
  intro n
  induction n with
  | zero =>
    intro l1 u h
    exact nn_ h
  | succ n ih =>
    intro l1 u h
    exact fbX3_tellOn_104_2 ih l1 u h
theorem frX3_tellOn_104 (u : Mem) {u' : Mem} (h : FX3_tellOn_104 u = some u') : FrL [99] u u' := by
  unfold FX3_tellOn_104 at h
  exact flX3_tellOn_104_2 FU 0 u h
theorem frX0_draw_97 (p1 : Int32) (u : Mem) {v : Int32} {u' : Mem} (h : FX0_draw_97 p1 u = some (v, u')) : FrL [97] u u' := by
  unfold FX0_draw_97 at h
  obtain ⟨u1, gu1, h⟩ := o_bind h
  refine ft (fr_upd rfl gu1) ?_
  rcases io h with ⟨c2, h⟩ | ⟨c2, h⟩
  · skip
    cases h
    exact fr_refl _ _
  · skip
    obtain ⟨x3, gx3, h⟩ := o_bind h
    cases h
    exact fr_refl _ _
theorem fbX3_fade_104_87 {u' : Mem} {k2 : Int32 → Mem → Option Mem} (hk2 : ∀ (l1 : Int32) (u : Mem), k2 l1 u = some u' → FrL [14, 31, 97, 99, 105] u u') (l1 : Int32) (u : Mem) (h : FX3_fade_104_b87 k2 l1 u = some u') : FrL [14, 31, 97, 99, 105] u u' := by
  unfold FX3_fade_104_b87 at h
  exact hk2 (l1 + 1) u h
theorem fbX3_fade_104_2 {u' : Mem} {k2 : Int32 → Mem → Option Mem} (hk2 : ∀ (l1 : Int32) (u : Mem), k2 l1 u = some u' → FrL [14, 31, 97, 99, 105] u u') (l1 : Int32) (u : Mem) (h : FX3_fade_104_b2 k2 l1 u = some u') : FrL [14, 31, 97, 99, 105] u u' := by
  unfold FX3_fade_104_b2 at h
  rcases io h with ⟨c1, h⟩ | ⟨c1, h⟩
  · skip
    cases h
    exact fr_refl _ _
  · skip
    rcases io h with ⟨c2, h⟩ | ⟨c2, h⟩
    · skip
      cases h
      exact fr_refl _ _
    · skip
      obtain ⟨x3, gx3, h⟩ := o_bind h
      rcases io h with ⟨c4, h⟩ | ⟨c4, h⟩
      · skip
        exact fbX3_fade_104_87 hk2 l1 u h
      · skip
        obtain ⟨x5, u6, gx5, h⟩ := o_bnd2 h
        refine ft (fr_mono rfl (frX0_draw_97 1000 u gx5)) ?_
        obtain ⟨x7, u8, gx7, h⟩ := o_bnd2 h
        refine ft (fr_mono rfl (frX3_asked_104 l1 3 u6 gx7)) ?_
        rcases io h with ⟨c9, h⟩ | ⟨c9, h⟩
        · skip
          exact fbX3_fade_104_87 hk2 l1 u8 h
        · skip
          obtain ⟨x10, gx10, h⟩ := o_bind h
          obtain ⟨x11, gx11, h⟩ := o_bind h
          obtain ⟨x12, gx12, h⟩ := o_bind h
          obtain ⟨u13, gu13, h⟩ := o_bind h
          refine ft (fr_wr rfl gu13) ?_
          obtain ⟨u15, gu15, h⟩ := o_bind h
          refine ft (fr_mono rfl (frX3_note_104 3 l1 x11 u13 gu15)) ?_
          exact fbX3_fade_104_87 hk2 l1 u15 h
theorem flX3_fade_104_2 {u' : Mem} : ∀ (n : Nat) (l1 : Int32) (u : Mem), FX3_fade_104_L2 n l1 u = some u' → FrL [14, 31, 97, 99, 105] u u' := by
  intro n
  induction n with
  | zero =>
    intro l1 u h
    exact nn_ h
  | succ n ih =>
    intro l1 u h
    exact fbX3_fade_104_2 ih l1 u h
theorem frX3_fade_104 (u : Mem) {u' : Mem} (h : FX3_fade_104 u = some u') : FrL [14, 31, 97, 99, 105] u u' := by
  unfold FX3_fade_104 at h
  exact flX3_fade_104_2 FU 0 u h
theorem fbJ7_fill_53178_101_5 {u' : Mem} {k5 : Int32 → Int32 → Int32 → Mem → Option Mem} (hk5 : ∀ (l1 l2 l3 : Int32) (u : Mem), k5 l1 l2 l3 u = some u' → FrL [101] u u') (l1 l2 l3 : Int32) (u : Mem) (h : FJ7_fill_53178_101_b5 k5 l1 l2 l3 u = some u') : FrL [101] u u' := by
  unfold FJ7_fill_53178_101_b5 at h
  rcases io h with ⟨c1, h⟩ | ⟨c1, h⟩
  · skip
    cases h
    exact fr_refl _ _
  · skip
    obtain ⟨u2, gu2, h⟩ := o_bind h
    refine ft (fr_wr rfl gu2) ?_
    exact hk5 l1 (l2 + 1) l3 u2 h
theorem flJ7_fill_53178_101_5 {u' : Mem} : ∀ (n : Nat) (l1 l2 l3 : Int32) (u : Mem), FJ7_fill_53178_101_L5 n l1 l2 l3 u = some u' → FrL [101] u u' := by
  intro n
  induction n with
  | zero =>
    intro l1 l2 l3 u h
    exact nn_ h
  | succ n ih =>
    intro l1 l2 l3 u h
    exact fbJ7_fill_53178_101_5 ih l1 l2 l3 u h
theorem frJ7_fill_53178_101 (p1 : Int32) (u : Mem) {u' : Mem} (h : FJ7_fill_53178_101 p1 u = some u') : FrL [101] u u' := by
  unfold FJ7_fill_53178_101 at h
  exact flJ7_fill_53178_101_5 FU p1 0 12 u h
theorem fbX3_endDay_104_134 {u' : Mem} (u : Mem) (h : FX3_endDay_104_b134 u = some u') : FrL [31, 97, 101] u u' := by
  unfold FX3_endDay_104_b134 at h
  rcases oi h with ⟨c1, h⟩ | ⟨c1, h⟩
  · skip
    cases h
    exact fr_refl _ _
  · skip
    obtain ⟨u3, gu3, h⟩ := o_bind h
    refine ft (fr_mono rfl (frJ7_fill_53178_101 0 u gu3)) ?_
    obtain ⟨u5, gu5, h⟩ := o_bind h
    refine ft (fr_mono rfl (frX3_note_104 4 (-1) 0 u3 gu5)) ?_
    cases h
    exact fr_refl _ _
theorem fbX3_endDay_104_128 {u' : Mem} {k54 : Int32 → Mem → Option Mem} (hk54 : ∀ (l1 : Int32) (u : Mem), k54 l1 u = some u' → FrL [31, 97, 101] u u') (l1 : Int32) (u : Mem) (h : FX3_endDay_104_b128 k54 l1 u = some u') : FrL [31, 97, 101] u u' := by
  unfold FX3_endDay_104_b128 at h
  exact hk54 (l1 + 1) u h
theorem fbX3_endDay_104_54 {u' : Mem} {k54 : Int32 → Mem → Option Mem} (hk54 : ∀ (l1 : Int32) (u : Mem), k54 l1 u = some u' → FrL [31, 97, 101] u u') (l1 : Int32) (u : Mem) (h : FX3_endDay_104_b54 k54 l1 u = some u') : FrL [31, 97, 101] u u' := by
  unfold FX3_endDay_104_b54 at h
  rcases io h with ⟨c1, h⟩ | ⟨c1, h⟩
  · skip
    exact fbX3_endDay_104_134 u h
  · skip
    rcases io h with ⟨c2, h⟩ | ⟨c2, h⟩
    · skip
      exact fbX3_endDay_104_134 u h
    · skip
      obtain ⟨x3, gx3, h⟩ := o_bind h
      rcases oi h with ⟨c4, h⟩ | ⟨c4, h⟩
      · skip
        exact fbX3_endDay_104_128 hk54 l1 u h
      · skip
        obtain ⟨x5, gx5, h⟩ := o_bind h
        rcases io h with ⟨c6, h⟩ | ⟨c6, h⟩
        · skip
          exact fbX3_endDay_104_128 hk54 l1 u h
        · skip
          obtain ⟨u7, gu7, h⟩ := o_bind h
          refine ft (fr_wr rfl gu7) ?_
          obtain ⟨u9, gu9, h⟩ := o_bind h
          refine ft (fr_mono rfl (frX3_note_104 5 l1 0 u7 gu9)) ?_
          exact fbX3_endDay_104_128 hk54 l1 u9 h
theorem flX3_endDay_104_54 {u' : Mem} : ∀ (n : Nat) (l1 : Int32) (u : Mem), FX3_endDay_104_L54 n l1 u = some u' → FrL [31, 97, 101] u u' := by
  intro n
  induction n with
  | zero =>
    intro l1 u h
    exact nn_ h
  | succ n ih =>
    intro l1 u h
    exact fbX3_endDay_104_54 ih l1 u h
theorem fbX3_endDay_104_52 {u' : Mem} (u : Mem) (h : FX3_endDay_104_b52 u = some u') : FrL [31, 97, 101] u u' := by
  unfold FX3_endDay_104_b52 at h
  exact flX3_endDay_104_54 FU 0 u h
theorem fbX3_endDay_104_44 {u' : Mem} (u : Mem) (h : FX3_endDay_104_b44 u = some u') : FrL [31, 97, 101] u u' := by
  unfold FX3_endDay_104_b44 at h
  obtain ⟨u1, gu1, h⟩ := o_bind h
  refine ft (fr_upd rfl gu1) ?_
  exact fbX3_endDay_104_52 u1 h
theorem frX3_endDay_104 (u : Mem) {u' : Mem} (h : FX3_endDay_104 u = some u') : FrL [31, 97, 101] u u' := by
  unfold FX3_endDay_104 at h
  obtain ⟨x1, gx1, h⟩ := o_bind h
  obtain ⟨x2, gx2, h⟩ := o_bind h
  rcases io h with ⟨c3, h⟩ | ⟨c3, h⟩
  · skip
    exact fbX3_endDay_104_44 u h
  · skip
    obtain ⟨x4, gx4, h⟩ := o_bind h
    obtain ⟨x5, gx5, h⟩ := o_bind h
    rcases io h with ⟨c6, h⟩ | ⟨c6, h⟩
    · skip
      exact fbX3_endDay_104_52 u h
    · skip
      exact fbX3_endDay_104_44 u h
theorem fbX3_pass_104_79 {u' : Mem} (u : Mem) (h : FX3_pass_104_b79 u = some u') : FrL [14, 31, 97, 98, 99, 101, 102, 103, 104, 105] u u' := by
  unfold FX3_pass_104_b79 at h
  obtain ⟨u1, gu1, h⟩ := o_bind h
  refine ft (fr_upd rfl gu1) ?_
  cases h
  exact fr_refl _ _
theorem fbX3_pass_104_71 {u' : Mem} (l1 : Int32) (u : Mem) (h : FX3_pass_104_b71 l1 u = some u') : FrL [14, 31, 97, 98, 99, 101, 102, 103, 104, 105] u u' := by
  unfold FX3_pass_104_b71 at h
  rcases io h with ⟨c1, h⟩ | ⟨c1, h⟩
  · skip
    exact fbX3_pass_104_79 u h
  · skip
    obtain ⟨u3, gu3, h⟩ := o_bind h
    refine ft (fr_mono rfl (frX3_endDay_104 u gu3)) ?_
    exact fbX3_pass_104_79 u3 h
theorem fbX3_pass_104_60 {u' : Mem} (l1 : Int32) (u : Mem) (h : FX3_pass_104_b60 l1 u = some u') : FrL [14, 31, 97, 98, 99, 101, 102, 103, 104, 105] u u' := by
  unfold FX3_pass_104_b60 at h
  rcases io h with ⟨c1, h⟩ | ⟨c1, h⟩
  · skip
    exact fbX3_pass_104_71 l1 u h
  · skip
    obtain ⟨u3, gu3, h⟩ := o_bind h
    refine ft (fr_mono rfl (frX3_fade_104 u gu3)) ?_
    exact fbX3_pass_104_71 l1 u3 h
theorem fbX3_pass_104_43 {u' : Mem} (l1 : Int32) (u : Mem) (h : FX3_pass_104_b43 l1 u = some u') : FrL [14, 31, 97, 98, 99, 101, 102, 103, 104, 105] u u' := by
  unfold FX3_pass_104_b43 at h
  obtain ⟨x1, gx1, h⟩ := o_bind h
  rcases oi h with ⟨c2, h⟩ | ⟨c2, h⟩
  · skip
    exact fbX3_pass_104_60 l1 u h
  · skip
    obtain ⟨u4, gu4, h⟩ := o_bind h
    refine ft (fr_mono rfl (frX3_tellOn_104 u gu4)) ?_
    exact fbX3_pass_104_60 l1 u4 h
theorem fbX3_pass_104_16 {u' : Mem} (t0 : Int32) (u : Mem) (h : FX3_pass_104_b16 t0 u = some u') : FrL [14, 31, 97, 98, 99, 101, 102, 103, 104, 105] u u' := by
  unfold FX3_pass_104_b16 at h
  rcases io h with ⟨c1, h⟩ | ⟨c1, h⟩
  · skip
    exact fbX3_pass_104_43 t0 u h
  · skip
    obtain ⟨u3, gu3, h⟩ := o_bind h
    refine ft (fr_mono rfl (frX3_callUp_104 0 u gu3)) ?_
    obtain ⟨u5, gu5, h⟩ := o_bind h
    refine ft (fr_mono rfl (frX3_callUp_104 1 u3 gu5)) ?_
    obtain ⟨u7, gu7, h⟩ := o_bind h
    refine ft (fr_mono rfl (frX3_goOn_104 u5 gu7)) ?_
    obtain ⟨u9, gu9, h⟩ := o_bind h
    refine ft (fr_mono rfl (frX3_fight_104 u7 gu9)) ?_
    obtain ⟨u11, gu11, h⟩ := o_bind h
    refine ft (fr_mono rfl (frX3_arrive_104 u9 gu11)) ?_
    exact fbX3_pass_104_43 t0 u11 h
theorem frX3_pass_104 (u : Mem) {u' : Mem} (h : FX3_pass_104 u = some u') : FrL [14, 31, 97, 98, 99, 101, 102, 103, 104, 105] u u' := by
  unfold FX3_pass_104 at h
  rcases oi h with ⟨c1, h⟩ | ⟨c1, h⟩
  · skip
    exact fbX3_pass_104_16 0 u h
  · skip
    exact fbX3_pass_104_16 1 u h
theorem fbX2_until_96_31 {v : Int32} {u' : Mem} (l2 : Int32) (u : Mem) (h : FX2_until_96_b31 l2 u = some (v, u')) : FrL [14, 31, 97, 98, 99, 101, 102, 103, 104, 105] u u' := by
  unfold FX2_until_96_b31 at h
  rcases oi h with ⟨c1, h⟩ | ⟨c1, h⟩
  · skip
    cases h
    exact fr_refl _ _
  · skip
    cases h
    exact fr_refl _ _
theorem fbX2_until_96_2 {v : Int32} {u' : Mem} {k2 : Int32 → Int32 → Mem → Option (Int32 × Mem)} (hk2 : ∀ (l1 l2 : Int32) (u : Mem), k2 l1 l2 u = some (v, u') → FrL [14, 31, 97, 98, 99, 101, 102, 103, 104, 105] u u') (l1 l2 : Int32) (u : Mem) (h : FX2_until_96_b2 k2 l1 l2 u = some (v, u')) : FrL [14, 31, 97, 98, 99, 101, 102, 103, 104, 105] u u' := by
  unfold FX2_until_96_b2 at h
  rcases io h with ⟨c1, h⟩ | ⟨c1, h⟩
  · skip
    exact fbX2_until_96_31 l2 u h
  · skip
    rcases oi h with ⟨c2, h⟩ | ⟨c2, h⟩
    · skip
      exact fbX2_until_96_31 l2 u h
    · skip
      obtain ⟨u4, gu4, h⟩ := o_bind h
      refine ft (fr_mono rfl (frX3_pass_104 u gu4)) ?_
      exact hk2 l1 (l2 + 1) u4 h
theorem flX2_until_96_2 {v : Int32} {u' : Mem} : ∀ (n : Nat) (l1 l2 : Int32) (u : Mem), FX2_until_96_L2 n l1 l2 u = some (v, u') → FrL [14, 31, 97, 98, 99, 101, 102, 103, 104, 105] u u' := by
  intro n
  induction n with
  | zero =>
    intro l1 l2 u h
    exact nn_ h
  | succ n ih =>
    intro l1 l2 u h
    exact fbX2_until_96_2 ih l1 l2 u h
theorem frX2_until_96 (p1 : Int32) (u : Mem) {v : Int32} {u' : Mem} (h : FX2_until_96 p1 u = some (v, u')) : FrL [14, 31, 97, 98, 99, 101, 102, 103, 104, 105] u u' := by
  unfold FX2_until_96 at h
  exact flX2_until_96_2 FU p1 0 u h
theorem frX2_lasting_96 (p1 : Int32) (u : Mem) {v : Int32} {u' : Mem} (h : FX2_lasting_96 p1 u = some (v, u')) : FrL [14, 31, 97, 98, 99, 100, 101, 102, 103, 104, 105] u u' := by
  unfold FX2_lasting_96 at h
  obtain ⟨u2, gu2, h⟩ := o_bind h
  refine ft (fr_mono rfl (frX2_imagine_96 0 u gu2)) ?_
  obtain ⟨x3, u4, gx3, h⟩ := o_bnd2 h
  refine ft (fr_mono rfl (frX2_until_96 99 u2 gx3)) ?_
  by_cases c5 : p1 = 0
  · have h := it h c5
    cases h
    exact fr_refl _ _
  · have h := ie h c5
    by_cases c6 : p1 = 1
    · have h := it h c6
      cases h
      exact fr_refl _ _
    · have h := ie h c6
      obtain ⟨x7, gx7, h⟩ := o_bind h
      cases h
      exact fr_refl _ _
theorem frX11_lasts_0 (p1 : Int32) (u : Mem) {v : Int32} {u' : Mem} (h : FX11_lasts_0 p1 u = some (v, u')) : FrL [14, 31, 97, 98, 99, 100, 101, 102, 103, 104, 105] u u' := by
  unfold FX11_lasts_0 at h
  rcases io h with ⟨c1, h⟩ | ⟨c1, h⟩
  · skip
    cases h
    exact fr_refl _ _
  · skip
    rcases io h with ⟨c2, h⟩ | ⟨c2, h⟩
    · skip
      obtain ⟨x3, u4, gx3, h⟩ := o_bnd2 h
      refine ft (fr_mono rfl (frX2_lasting_96 p1 u gx3)) ?_
      cases h
      exact fr_refl _ _
    · skip
      cases h
      exact fr_refl _ _
theorem fbX12_lastsWith_146_172 {v : Int32} {u' : Mem} {k172 : Int32 → Int32 → Int32 → Mem → Option (Int32 × Mem)} (hk172 : ∀ (l3 l4 l5 : Int32) (u : Mem), k172 l3 l4 l5 u = some (v, u') → FrL [146, 147, 150, 155, 156, 157] u u') (l3 l4 l5 : Int32) (u : Mem) (h : FX12_lastsWith_146_b172 k172 l3 l4 l5 u = some (v, u')) : FrL [146, 147, 150, 155, 156, 157] u u' := by
  unfold FX12_lastsWith_146_b172 at h
  rcases io h with ⟨c1, h⟩ | ⟨c1, h⟩
  · skip
    obtain ⟨u2, gu2, h⟩ := o_bind h
    refine ft (fr_upd rfl gu2) ?_
    rcases io h with ⟨c3, h⟩ | ⟨c3, h⟩
    · skip
      cases h
      exact fr_refl _ _
    · skip
      cases h
      exact fr_refl _ _
  · skip
    obtain ⟨x4, gx4, h⟩ := o_bind h
    obtain ⟨u5, gu5, h⟩ := o_bind h
    refine ft (fr_wr rfl gu5) ?_
    exact hk172 l3 l4 (l5 + 1) u5 h
theorem flX12_lastsWith_146_172 {v : Int32} {u' : Mem} : ∀ (n : Nat) (l3 l4 l5 : Int32) (u : Mem), FX12_lastsWith_146_L172 n l3 l4 l5 u = some (v, u') → FrL [146, 147, 150, 155, 156, 157] u u' := by
  intro n
  induction n with
  | zero =>
    intro l3 l4 l5 u h
    exact nn_ h
  | succ n ih =>
    intro l3 l4 l5 u h
    exact fbX12_lastsWith_146_172 ih l3 l4 l5 u h
theorem fbX12_lastsWith_146_122 {v : Int32} {u' : Mem} {k122 : Int32 → Int32 → Int32 → Mem → Option (Int32 × Mem)} (hk122 : ∀ (l3 l4 l5 : Int32) (u : Mem), k122 l3 l4 l5 u = some (v, u') → FrL [146, 147, 150, 155, 156, 157] u u') (l3 l4 l5 : Int32) (u : Mem) (h : FX12_lastsWith_146_b122 k122 l3 l4 l5 u = some (v, u')) : FrL [146, 147, 150, 155, 156, 157] u u' := by
  unfold FX12_lastsWith_146_b122 at h
  rcases io h with ⟨c1, h⟩ | ⟨c1, h⟩
  · skip
    exact flX12_lastsWith_146_172 FU l3 l4 0 u h
  · skip
    obtain ⟨x2, gx2, h⟩ := o_bind h
    obtain ⟨x3, gx3, h⟩ := o_bind h
    obtain ⟨x4, gx4, h⟩ := o_bind h
    obtain ⟨u5, gu5, h⟩ := o_bind h
    refine ft (fr_wr rfl gu5) ?_
    exact hk122 l3 l4 (l5 + 1) u5 h
theorem flX12_lastsWith_146_122 {v : Int32} {u' : Mem} : ∀ (n : Nat) (l3 l4 l5 : Int32) (u : Mem), FX12_lastsWith_146_L122 n l3 l4 l5 u = some (v, u') → FrL [146, 147, 150, 155, 156, 157] u u' := by
  intro n
  induction n with
  | zero =>
    intro l3 l4 l5 u h
    exact nn_ h
  | succ n ih =>
    intro l3 l4 l5 u h
    exact fbX12_lastsWith_146_122 ih l3 l4 l5 u h
theorem fbX12_lastsWith_146_93 {v : Int32} {u' : Mem} (l3 t0 : Int32) (u : Mem) (h : FX12_lastsWith_146_b93 l3 t0 u = some (v, u')) : FrL [146, 147, 150, 155, 156, 157] u u' := by
  unfold FX12_lastsWith_146_b93 at h
  obtain ⟨u1, gu1, h⟩ := o_bind h
  refine ft (fr_upd rfl gu1) ?_
  obtain ⟨u2, gu2, h⟩ := o_bind h
  refine ft (fr_upd rfl gu2) ?_
  obtain ⟨u3, gu3, h⟩ := o_bind h
  refine ft (fr_upd rfl gu3) ?_
  exact flX12_lastsWith_146_122 FU l3 t0 0 u3 h
theorem fbX12_lastsWith_146_79 {v : Int32} {u' : Mem} (l3 : Int32) (u : Mem) (h : FX12_lastsWith_146_b79 l3 u = some (v, u')) : FrL [146, 147, 150, 155, 156, 157] u u' := by
  unfold FX12_lastsWith_146_b79 at h
  rcases oi h with ⟨c1, h⟩ | ⟨c1, h⟩
  · skip
    exact fbX12_lastsWith_146_93 l3 0 u h
  · skip
    exact fbX12_lastsWith_146_93 l3 1 u h
theorem fbX12_lastsWith_146_53 {v : Int32} {u' : Mem} {k53 : Int32 → Mem → Option (Int32 × Mem)} (hk53 : ∀ (l3 : Int32) (u : Mem), k53 l3 u = some (v, u') → FrL [146, 147, 150, 155, 156, 157] u u') (l3 : Int32) (u : Mem) (h : FX12_lastsWith_146_b53 k53 l3 u = some (v, u')) : FrL [146, 147, 150, 155, 156, 157] u u' := by
  unfold FX12_lastsWith_146_b53 at h
  rcases oi h with ⟨c1, h⟩ | ⟨c1, h⟩
  · skip
    exact fbX12_lastsWith_146_79 l3 u h
  · skip
    rcases io h with ⟨c2, h⟩ | ⟨c2, h⟩
    · skip
      exact fbX12_lastsWith_146_79 l3 u h
    · skip
      obtain ⟨u4, gu4, h⟩ := o_bind h
      refine ft (fr_mono rfl (frX12_aDay_146 u gu4)) ?_
      exact hk53 (l3 + 1) u4 h
theorem flX12_lastsWith_146_53 {v : Int32} {u' : Mem} : ∀ (n : Nat) (l3 : Int32) (u : Mem), FX12_lastsWith_146_L53 n l3 u = some (v, u') → FrL [146, 147, 150, 155, 156, 157] u u' := by
  intro n
  induction n with
  | zero =>
    intro l3 u h
    exact nn_ h
  | succ n ih =>
    intro l3 u h
    exact fbX12_lastsWith_146_53 ih l3 u h
theorem fbX12_lastsWith_146_51 {v : Int32} {u' : Mem} (u : Mem) (h : FX12_lastsWith_146_b51 u = some (v, u')) : FrL [146, 147, 150, 155, 156, 157] u u' := by
  unfold FX12_lastsWith_146_b51 at h
  exact flX12_lastsWith_146_53 FU 0 u h
theorem fbX12_lastsWith_146_2 {v : Int32} {u' : Mem} {k2 : Int32 → Int32 → Int32 → Mem → Option (Int32 × Mem)} (hk2 : ∀ (l1 l2 l3 : Int32) (u : Mem), k2 l1 l2 l3 u = some (v, u') → FrL [146, 147, 150, 155, 156, 157] u u') (l1 l2 l3 : Int32) (u : Mem) (h : FX12_lastsWith_146_b2 k2 l1 l2 l3 u = some (v, u')) : FrL [146, 147, 150, 155, 156, 157] u u' := by
  unfold FX12_lastsWith_146_b2 at h
  rcases io h with ⟨c1, h⟩ | ⟨c1, h⟩
  · skip
    obtain ⟨u2, gu2, h⟩ := o_bind h
    refine ft (fr_upd rfl gu2) ?_
    obtain ⟨u3, gu3, h⟩ := o_bind h
    refine ft (fr_upd rfl gu3) ?_
    obtain ⟨u4, gu4, h⟩ := o_bind h
    refine ft (fr_upd rfl gu4) ?_
    rcases io h with ⟨c5, h⟩ | ⟨c5, h⟩
    · skip
      exact fbX12_lastsWith_146_51 u4 h
    · skip
      obtain ⟨u7, gu7, h⟩ := o_bind h
      refine ft (fr_mono rfl (frX12_takesField_146 l1 u4 gu7)) ?_
      exact fbX12_lastsWith_146_51 u7 h
  · skip
    obtain ⟨x8, gx8, h⟩ := o_bind h
    obtain ⟨u9, gu9, h⟩ := o_bind h
    refine ft (fr_wr rfl gu9) ?_
    exact hk2 l1 l2 (l3 + 1) u9 h
theorem flX12_lastsWith_146_2 {v : Int32} {u' : Mem} : ∀ (n : Nat) (l1 l2 l3 : Int32) (u : Mem), FX12_lastsWith_146_L2 n l1 l2 l3 u = some (v, u') → FrL [146, 147, 150, 155, 156, 157] u u' := by
  intro n
  induction n with
  | zero =>
    intro l1 l2 l3 u h
    exact nn_ h
  | succ n ih =>
    intro l1 l2 l3 u h
    exact fbX12_lastsWith_146_2 ih l1 l2 l3 u h
theorem frX12_lastsWith_146 (p1 p2 : Int32) (u : Mem) {v : Int32} {u' : Mem} (h : FX12_lastsWith_146 p1 p2 u = some (v, u')) : FrL [146, 147, 150, 155, 156, 157] u u' := by
  unfold FX12_lastsWith_146 at h
  exact flX12_lastsWith_146_2 FU p1 p2 0 u h
theorem frX12_lasts_146 (p1 : Int32) (u : Mem) {v : Int32} {u' : Mem} (h : FX12_lasts_146 p1 u = some (v, u')) : FrL [146, 147, 150, 155, 156, 157] u u' := by
  unfold FX12_lasts_146 at h
  obtain ⟨x1, gx1, h⟩ := o_bind h
  rcases oi h with ⟨c2, h⟩ | ⟨c2, h⟩
  · skip
    obtain ⟨x3, u4, gx3, h⟩ := o_bnd2 h
    refine ft (fr_mono rfl (frX12_lastsWith_146 (-1) 0 u gx3)) ?_
    rcases io h with ⟨c5, h⟩ | ⟨c5, h⟩
    · skip
      rcases oi h with ⟨c6, h⟩ | ⟨c6, h⟩
      · skip
        cases h
        exact fr_refl _ _
      · skip
        cases h
        exact fr_refl _ _
    · skip
      obtain ⟨x7, gx7, h⟩ := o_bind h
      cases h
      exact fr_refl _ _
  · skip
    cases h
    exact fr_refl _ _
theorem frX2_take_96 (p1 p2 : Int32) (u : Mem) {u' : Mem} (h : FX2_take_96 p1 p2 u = some u') : FrL [96] u u' := by
  unfold FX2_take_96 at h
  rcases io h with ⟨c1, h⟩ | ⟨c1, h⟩
  · skip
    cases h
    exact fr_refl _ _
  · skip
    rcases io h with ⟨c2, h⟩ | ⟨c2, h⟩
    · skip
      cases h
      exact fr_refl _ _
    · skip
      obtain ⟨u3, gu3, h⟩ := o_bind h
      refine ft (fr_upd rfl gu3) ?_
      obtain ⟨u4, gu4, h⟩ := o_bind h
      refine ft (fr_upd rfl gu4) ?_
      cases h
      exact fr_refl _ _
theorem fbX2_chooseMan_96_101 {u' : Mem} {k13 : Int32 → Int32 → Mem → Option Mem} (hk13 : ∀ (l1 l2 : Int32) (u : Mem), k13 l1 l2 u = some u' → FrL [14, 31, 96, 97, 98, 99, 100, 101, 102, 103, 104, 105] u u') (l1 l2 : Int32) (u : Mem) (h : FX2_chooseMan_96_b101 k13 l1 l2 u = some u') : FrL [14, 31, 96, 97, 98, 99, 100, 101, 102, 103, 104, 105] u u' := by
  unfold FX2_chooseMan_96_b101 at h
  exact hk13 l1 (l2 + 1) u h
theorem fbX2_chooseMan_96_13 {u' : Mem} {k13 : Int32 → Int32 → Mem → Option Mem} (hk13 : ∀ (l1 l2 : Int32) (u : Mem), k13 l1 l2 u = some u' → FrL [14, 31, 96, 97, 98, 99, 100, 101, 102, 103, 104, 105] u u') (l1 l2 : Int32) (u : Mem) (h : FX2_chooseMan_96_b13 k13 l1 l2 u = some u') : FrL [14, 31, 96, 97, 98, 99, 100, 101, 102, 103, 104, 105] u u' := by
  unfold FX2_chooseMan_96_b13 at h
  rcases io h with ⟨c1, h⟩ | ⟨c1, h⟩
  · skip
    cases h
    exact fr_refl _ _
  · skip
    rcases io h with ⟨c2, h⟩ | ⟨c2, h⟩
    · skip
      cases h
      exact fr_refl _ _
    · skip
      obtain ⟨x3, gx3, h⟩ := o_bind h
      rcases oi h with ⟨c4, h⟩ | ⟨c4, h⟩
      · skip
        exact fbX2_chooseMan_96_101 hk13 l1 l2 u h
      · skip
        obtain ⟨x5, gx5, h⟩ := o_bind h
        rcases io h with ⟨c6, h⟩ | ⟨c6, h⟩
        · skip
          obtain ⟨u8, gu8, h⟩ := o_bind h
          refine ft (fr_mono rfl (frX2_imagine_96 0 u gu8)) ?_
          obtain ⟨u9, gu9, h⟩ := o_bind h
          refine ft (fr_wr rfl gu9) ?_
          obtain ⟨x10, gx10, h⟩ := o_bind h
          obtain ⟨u11, gu11, h⟩ := o_bind h
          refine ft (fr_wr rfl gu11) ?_
          obtain ⟨x12, u13, gx12, h⟩ := o_bnd2 h
          refine ft (fr_mono rfl (frX2_until_96 ((u11 96 5) - 1) u11 gx12)) ?_
          obtain ⟨u15, gu15, h⟩ := o_bind h
          refine ft (fr_mono rfl (frX2_take_96 l2 x12 u13 gu15)) ?_
          exact fbX2_chooseMan_96_101 hk13 l1 l2 u15 h
        · skip
          exact fbX2_chooseMan_96_101 hk13 l1 l2 u h
theorem flX2_chooseMan_96_13 {u' : Mem} : ∀ (n : Nat) (l1 l2 : Int32) (u : Mem), FX2_chooseMan_96_L13 n l1 l2 u = some u' → FrL [14, 31, 96, 97, 98, 99, 100, 101, 102, 103, 104, 105] u u' := by
  intro n
  induction n with
  | zero =>
    intro l1 l2 u h
    exact nn_ h
  | succ n ih =>
    intro l1 l2 u h
    exact fbX2_chooseMan_96_13 ih l1 l2 u h
theorem frX2_chooseMan_96 (p1 : Int32) (u : Mem) {u' : Mem} (h : FX2_chooseMan_96 p1 u = some u') : FrL [14, 31, 96, 97, 98, 99, 100, 101, 102, 103, 104, 105] u u' := by
  unfold FX2_chooseMan_96 at h
  obtain ⟨u1, gu1, h⟩ := o_bind h
  refine ft (fr_upd rfl gu1) ?_
  obtain ⟨u2, gu2, h⟩ := o_bind h
  refine ft (fr_upd rfl gu2) ?_
  exact flX2_chooseMan_96_13 FU p1 0 u2 h
theorem frX11_soonest_0 (p1 p2 : Int32) (u : Mem) {v : Int32} {u' : Mem} (h : FX11_soonest_0 p1 p2 u = some (v, u')) : FrL [14, 31, 96, 97, 98, 99, 100, 101, 102, 103, 104, 105] u u' := by
  unfold FX11_soonest_0 at h
  obtain ⟨x1, gx1, h⟩ := o_bind h
  rcases io h with ⟨c2, h⟩ | ⟨c2, h⟩
  · skip
    cases h
    exact fr_refl _ _
  · skip
    rcases io h with ⟨c3, h⟩ | ⟨c3, h⟩
    · skip
      cases h
      exact fr_refl _ _
    · skip
      rcases io h with ⟨c4, h⟩ | ⟨c4, h⟩
      · skip
        obtain ⟨u6, gu6, h⟩ := o_bind h
        refine ft (fr_mono rfl (frX2_chooseMan_96 p1 u gu6)) ?_
        obtain ⟨x7, gx7, h⟩ := o_bind h
        cases h
        exact fr_refl _ _
      · skip
        cases h
        exact fr_refl _ _
theorem fbX12_soonest_146_95 {v : Int32} {u' : Mem} (l3 : Int32) (u : Mem) (h : FX12_soonest_146_b95 l3 u = some (v, u')) : FrL [146, 147, 150, 155, 156, 157] u u' := by
  unfold FX12_soonest_146_b95 at h
  cases h
  exact fr_refl _ _
theorem fbX12_soonest_146_80 {v : Int32} {u' : Mem} {k28 : Int32 → Int32 → Int32 → Int32 → Int32 → Mem → Option (Int32 × Mem)} (hk28 : ∀ (l1 l2 l3 l4 l5 : Int32) (u : Mem), k28 l1 l2 l3 l4 l5 u = some (v, u') → FrL [146, 147, 150, 155, 156, 157] u u') (l1 l2 l3 l4 l5 : Int32) (u : Mem) (h : FX12_soonest_146_b80 k28 l1 l2 l3 l4 l5 u = some (v, u')) : FrL [146, 147, 150, 155, 156, 157] u u' := by
  unfold FX12_soonest_146_b80 at h
  exact hk28 l1 l2 l3 l4 (l5 + 1) u h
theorem fbX12_soonest_146_28 {v : Int32} {u' : Mem} {k28 : Int32 → Int32 → Int32 → Int32 → Int32 → Mem → Option (Int32 × Mem)} (hk28 : ∀ (l1 l2 l3 l4 l5 : Int32) (u : Mem), k28 l1 l2 l3 l4 l5 u = some (v, u') → FrL [146, 147, 150, 155, 156, 157] u u') (l1 l2 l3 l4 l5 : Int32) (u : Mem) (h : FX12_soonest_146_b28 k28 l1 l2 l3 l4 l5 u = some (v, u')) : FrL [146, 147, 150, 155, 156, 157] u u' := by
  unfold FX12_soonest_146_b28 at h
  rcases io h with ⟨c1, h⟩ | ⟨c1, h⟩
  · skip
    rcases io h with ⟨c2, h⟩ | ⟨c2, h⟩
    · skip
      exact fbX12_soonest_146_95 l3 u h
    · skip
      rcases oi h with ⟨c3, h⟩ | ⟨c3, h⟩
      · skip
        cases h
        exact fr_refl _ _
      · skip
        exact fbX12_soonest_146_95 l3 u h
  · skip
    obtain ⟨x4, gx4, h⟩ := o_bind h
    rcases oi h with ⟨c5, h⟩ | ⟨c5, h⟩
    · skip
      obtain ⟨x6, u7, gx6, h⟩ := o_bnd2 h
      refine ft (fr_mono rfl (frX12_lastsWith_146 l5 0 u gx6)) ?_
      rcases io h with ⟨c8, h⟩ | ⟨c8, h⟩
      · skip
        exact fbX12_soonest_146_80 hk28 l1 l2 l5 x6 l5 u7 h
      · skip
        exact fbX12_soonest_146_80 hk28 l1 l2 l3 l4 l5 u7 h
    · skip
      exact fbX12_soonest_146_80 hk28 l1 l2 l3 l4 l5 u h
theorem flX12_soonest_146_28 {v : Int32} {u' : Mem} : ∀ (n : Nat) (l1 l2 l3 l4 l5 : Int32) (u : Mem), FX12_soonest_146_L28 n l1 l2 l3 l4 l5 u = some (v, u') → FrL [146, 147, 150, 155, 156, 157] u u' := by
  intro n
  induction n with
  | zero =>
    intro l1 l2 l3 l4 l5 u h
    exact nn_ h
  | succ n ih =>
    intro l1 l2 l3 l4 l5 u h
    exact fbX12_soonest_146_28 ih l1 l2 l3 l4 l5 u h
theorem frX12_soonest_146 (p1 p2 : Int32) (u : Mem) {v : Int32} {u' : Mem} (h : FX12_soonest_146 p1 p2 u = some (v, u')) : FrL [146, 147, 150, 155, 156, 157] u u' := by
  unfold FX12_soonest_146 at h
  obtain ⟨x1, gx1, h⟩ := o_bind h
  rcases io h with ⟨c2, h⟩ | ⟨c2, h⟩
  · skip
    cases h
    exact fr_refl _ _
  · skip
    obtain ⟨x3, gx3, h⟩ := o_bind h
    rcases oi h with ⟨c4, h⟩ | ⟨c4, h⟩
    · skip
      exact flX12_soonest_146_28 FU p1 p2 (-1) 1000000 0 u h
    · skip
      cases h
      exact fr_refl _ _
theorem fbX2_chooseAge_96_14 {u' : Mem} {k14 : Int32 → Mem → Option Mem} (hk14 : ∀ (l1 : Int32) (u : Mem), k14 l1 u = some u' → FrL [14, 31, 96, 97, 98, 99, 100, 101, 102, 103, 104, 105] u u') (l1 : Int32) (u : Mem) (h : FX2_chooseAge_96_b14 k14 l1 u = some u') : FrL [14, 31, 96, 97, 98, 99, 100, 101, 102, 103, 104, 105] u u' := by
  unfold FX2_chooseAge_96_b14 at h
  rcases io h with ⟨c1, h⟩ | ⟨c1, h⟩
  · skip
    cases h
    exact fr_refl _ _
  · skip
    obtain ⟨u3, gu3, h⟩ := o_bind h
    refine ft (fr_mono rfl (frX2_imagine_96 l1 u gu3)) ?_
    obtain ⟨x4, u5, gx4, h⟩ := o_bnd2 h
    refine ft (fr_mono rfl (frX2_until_96 ((u3 96 5) - 1) u3 gx4)) ?_
    obtain ⟨u7, gu7, h⟩ := o_bind h
    refine ft (fr_mono rfl (frX2_take_96 l1 x4 u5 gu7)) ?_
    exact hk14 (l1 + (-10)) u7 h
theorem flX2_chooseAge_96_14 {u' : Mem} : ∀ (n : Nat) (l1 : Int32) (u : Mem), FX2_chooseAge_96_L14 n l1 u = some u' → FrL [14, 31, 96, 97, 98, 99, 100, 101, 102, 103, 104, 105] u u' := by
  intro n
  induction n with
  | zero =>
    intro l1 u h
    exact nn_ h
  | succ n ih =>
    intro l1 u h
    exact fbX2_chooseAge_96_14 ih l1 u h
theorem frX2_chooseAge_96 (u : Mem) {u' : Mem} (h : FX2_chooseAge_96 u = some u') : FrL [14, 31, 96, 97, 98, 99, 100, 101, 102, 103, 104, 105] u u' := by
  unfold FX2_chooseAge_96 at h
  obtain ⟨u1, gu1, h⟩ := o_bind h
  refine ft (fr_upd rfl gu1) ?_
  obtain ⟨u2, gu2, h⟩ := o_bind h
  refine ft (fr_upd rfl gu2) ?_
  exact flX2_chooseAge_96_14 FU 120 u2 h
theorem frX11_from_0 (p1 : Int32) (u : Mem) {v : Int32} {u' : Mem} (h : FX11_from_0 p1 u = some (v, u')) : FrL [14, 31, 96, 97, 98, 99, 100, 101, 102, 103, 104, 105] u u' := by
  unfold FX11_from_0 at h
  rcases io h with ⟨c1, h⟩ | ⟨c1, h⟩
  · skip
    cases h
    exact fr_refl _ _
  · skip
    rcases io h with ⟨c2, h⟩ | ⟨c2, h⟩
    · skip
      obtain ⟨u4, gu4, h⟩ := o_bind h
      refine ft (fr_mono rfl (frX2_chooseAge_96 u gu4)) ?_
      obtain ⟨x5, gx5, h⟩ := o_bind h
      cases h
      exact fr_refl _ _
    · skip
      cases h
      exact fr_refl _ _
theorem fbX12_from_146_65 {v : Int32} {u' : Mem} (l2 : Int32) (u : Mem) (h : FX12_from_146_b65 l2 u = some (v, u')) : FrL [146, 147, 150, 155, 156, 157] u u' := by
  unfold FX12_from_146_b65 at h
  cases h
  exact fr_refl _ _
theorem fbX12_from_146_50 {v : Int32} {u' : Mem} {k21 : Int32 → Int32 → Int32 → Int32 → Mem → Option (Int32 × Mem)} (hk21 : ∀ (l1 l2 l3 l4 : Int32) (u : Mem), k21 l1 l2 l3 l4 u = some (v, u') → FrL [146, 147, 150, 155, 156, 157] u u') (l1 l2 l3 l4 : Int32) (u : Mem) (h : FX12_from_146_b50 k21 l1 l2 l3 l4 u = some (v, u')) : FrL [146, 147, 150, 155, 156, 157] u u' := by
  unfold FX12_from_146_b50 at h
  exact hk21 l1 l2 l3 (l4 + (-10)) u h
theorem fbX12_from_146_21 {v : Int32} {u' : Mem} {k21 : Int32 → Int32 → Int32 → Int32 → Mem → Option (Int32 × Mem)} (hk21 : ∀ (l1 l2 l3 l4 : Int32) (u : Mem), k21 l1 l2 l3 l4 u = some (v, u') → FrL [146, 147, 150, 155, 156, 157] u u') (l1 l2 l3 l4 : Int32) (u : Mem) (h : FX12_from_146_b21 k21 l1 l2 l3 l4 u = some (v, u')) : FrL [146, 147, 150, 155, 156, 157] u u' := by
  unfold FX12_from_146_b21 at h
  rcases io h with ⟨c1, h⟩ | ⟨c1, h⟩
  · skip
    rcases io h with ⟨c2, h⟩ | ⟨c2, h⟩
    · skip
      exact fbX12_from_146_65 l2 u h
    · skip
      rcases oi h with ⟨c3, h⟩ | ⟨c3, h⟩
      · skip
        cases h
        exact fr_refl _ _
      · skip
        exact fbX12_from_146_65 l2 u h
  · skip
    obtain ⟨x4, u5, gx4, h⟩ := o_bnd2 h
    refine ft (fr_mono rfl (frX12_lastsWith_146 (-1) l4 u gx4)) ?_
    rcases io h with ⟨c6, h⟩ | ⟨c6, h⟩
    · skip
      exact fbX12_from_146_50 hk21 l1 l4 x4 l4 u5 h
    · skip
      exact fbX12_from_146_50 hk21 l1 l2 l3 l4 u5 h
theorem flX12_from_146_21 {v : Int32} {u' : Mem} : ∀ (n : Nat) (l1 l2 l3 l4 : Int32) (u : Mem), FX12_from_146_L21 n l1 l2 l3 l4 u = some (v, u') → FrL [146, 147, 150, 155, 156, 157] u u' := by
  intro n
  induction n with
  | zero =>
    intro l1 l2 l3 l4 u h
    exact nn_ h
  | succ n ih =>
    intro l1 l2 l3 l4 u h
    exact fbX12_from_146_21 ih l1 l2 l3 l4 u h
theorem frX12_from_146 (p1 : Int32) (u : Mem) {v : Int32} {u' : Mem} (h : FX12_from_146 p1 u = some (v, u')) : FrL [146, 147, 150, 155, 156, 157] u u' := by
  unfold FX12_from_146 at h
  obtain ⟨x1, gx1, h⟩ := o_bind h
  rcases oi h with ⟨c2, h⟩ | ⟨c2, h⟩
  · skip
    exact flX12_from_146_21 FU p1 (-1) 1000000 120 u h
  · skip
    cases h
    exact fr_refl _ _
theorem fbX7_findWay_106_189 {v : Int32} {u' : Mem} (l2 l3 : Int32) (u : Mem) (h : FX7_findWay_106_b189 l2 l3 u = some (v, u')) : FrL [108, 109] u u' := by
  unfold FX7_findWay_106_b189 at h
  obtain ⟨x1, gx1, h⟩ := o_bind h
  obtain ⟨x2, gx2, h⟩ := o_bind h
  cases h
  exact fr_refl _ _
theorem fbX7_findWay_106_177 {v : Int32} {u' : Mem} {k86 : Int32 → Int32 → Int32 → Int32 → Int32 → Int32 → Mem → Option (Int32 × Mem)} (hk86 : ∀ (l2 l3 l4 l5 l6 l7 : Int32) (u : Mem), k86 l2 l3 l4 l5 l6 l7 u = some (v, u') → FrL [108, 109] u u') (l2 l3 l4 l5 l6 l7 : Int32) (u : Mem) (h : FX7_findWay_106_b177 k86 l2 l3 l4 l5 l6 l7 u = some (v, u')) : FrL [108, 109] u u' := by
  unfold FX7_findWay_106_b177 at h
  exact hk86 l2 l3 l4 l5 l6 (l7 + 1) u h
theorem fbX7_findWay_106_126 {v : Int32} {u' : Mem} {k86 : Int32 → Int32 → Int32 → Int32 → Int32 → Int32 → Mem → Option (Int32 × Mem)} (hk86 : ∀ (l2 l3 l4 l5 l6 l7 : Int32) (u : Mem), k86 l2 l3 l4 l5 l6 l7 u = some (v, u') → FrL [108, 109] u u') (l2 l3 l4 l5 l6 l7 t0 : Int32) (u : Mem) (h : FX7_findWay_106_b126 k86 l2 l3 l4 l5 l6 l7 t0 u = some (v, u')) : FrL [108, 109] u u' := by
  unfold FX7_findWay_106_b126 at h
  rcases io h with ⟨c1, h⟩ | ⟨c1, h⟩
  · skip
    exact fbX7_findWay_106_177 hk86 l2 l3 l4 l5 l6 l7 u h
  · skip
    obtain ⟨x2, gx2, h⟩ := o_bind h
    rcases oi h with ⟨c3, h⟩ | ⟨c3, h⟩
    · skip
      exact fbX7_findWay_106_177 hk86 l2 l3 l4 l5 l6 l7 u h
    · skip
      rcases io h with ⟨c4, h⟩ | ⟨c4, h⟩
      · skip
        exact fbX7_findWay_106_177 hk86 l2 l3 l4 l5 l6 l7 u h
      · skip
        obtain ⟨u5, gu5, h⟩ := o_bind h
        refine ft (fr_wr rfl gu5) ?_
        obtain ⟨u6, gu6, h⟩ := o_bind h
        refine ft (fr_wr rfl gu6) ?_
        exact fbX7_findWay_106_177 hk86 l2 (l3 ||| ((1 : Int32) <<< (l7 &&& 31))) (l4 + 1) l5 l6 l7 u6 h
theorem fbX7_findWay_106_86 {v : Int32} {u' : Mem} {k60 : Int32 → Int32 → Int32 → Int32 → Mem → Option (Int32 × Mem)} (hk60 : ∀ (l2 l3 l4 l5 : Int32) (u : Mem), k60 l2 l3 l4 l5 u = some (v, u') → FrL [108, 109] u u') {k86 : Int32 → Int32 → Int32 → Int32 → Int32 → Int32 → Mem → Option (Int32 × Mem)} (hk86 : ∀ (l2 l3 l4 l5 l6 l7 : Int32) (u : Mem), k86 l2 l3 l4 l5 l6 l7 u = some (v, u') → FrL [108, 109] u u') (l2 l3 l4 l5 l6 l7 : Int32) (u : Mem) (h : FX7_findWay_106_b86 k60 k86 l2 l3 l4 l5 l6 l7 u = some (v, u')) : FrL [108, 109] u u' := by
  unfold FX7_findWay_106_b86 at h
  rcases io h with ⟨c1, h⟩ | ⟨c1, h⟩
  · skip
    exact hk60 l2 l3 l4 (l5 + 1) u h
  · skip
    rcases io h with ⟨c2, h⟩ | ⟨c2, h⟩
    · skip
      exact fbX7_findWay_106_126 hk86 l2 l3 l4 l5 l6 l7 0 u h
    · skip
      rcases io h with ⟨c3, h⟩ | ⟨c3, h⟩
      · skip
        exact fbX7_findWay_106_126 hk86 l2 l3 l4 l5 l6 l7 0 u h
      · skip
        obtain ⟨x4, gx4, h⟩ := o_bind h
        rcases io h with ⟨c5, h⟩ | ⟨c5, h⟩
        · skip
          exact fbX7_findWay_106_126 hk86 l2 l3 l4 l5 l6 l7 0 u h
        · skip
          exact fbX7_findWay_106_126 hk86 l2 l3 l4 l5 l6 l7 1 u h
theorem flX7_findWay_106_86 {v : Int32} {u' : Mem} {k60 : Int32 → Int32 → Int32 → Int32 → Mem → Option (Int32 × Mem)} (hk60 : ∀ (l2 l3 l4 l5 : Int32) (u : Mem), k60 l2 l3 l4 l5 u = some (v, u') → FrL [108, 109] u u') : ∀ (n : Nat) (l2 l3 l4 l5 l6 l7 : Int32) (u : Mem), FX7_findWay_106_L86 k60 n l2 l3 l4 l5 l6 l7 u = some (v, u') → FrL [108, 109] u u' := by
  intro n
  induction n with
  | zero =>
    intro l2 l3 l4 l5 l6 l7 u h
    exact nn_ h
  | succ n ih =>
    intro l2 l3 l4 l5 l6 l7 u h
    exact fbX7_findWay_106_86 hk60 ih l2 l3 l4 l5 l6 l7 u h
theorem fbX7_findWay_106_60 {v : Int32} {u' : Mem} {k60 : Int32 → Int32 → Int32 → Int32 → Mem → Option (Int32 × Mem)} (hk60 : ∀ (l2 l3 l4 l5 : Int32) (u : Mem), k60 l2 l3 l4 l5 u = some (v, u') → FrL [108, 109] u u') (l2 l3 l4 l5 : Int32) (u : Mem) (h : FX7_findWay_106_b60 k60 l2 l3 l4 l5 u = some (v, u')) : FrL [108, 109] u u' := by
  unfold FX7_findWay_106_b60 at h
  rcases io h with ⟨c1, h⟩ | ⟨c1, h⟩
  · skip
    exact fbX7_findWay_106_189 l2 l3 u h
  · skip
    rcases io h with ⟨c2, h⟩ | ⟨c2, h⟩
    · skip
      exact fbX7_findWay_106_189 l2 l3 u h
    · skip
      obtain ⟨x3, gx3, h⟩ := o_bind h
      exact flX7_findWay_106_86 hk60 FU l2 l3 l4 l5 x3 0 u h
theorem flX7_findWay_106_60 {v : Int32} {u' : Mem} : ∀ (n : Nat) (l2 l3 l4 l5 : Int32) (u : Mem), FX7_findWay_106_L60 n l2 l3 l4 l5 u = some (v, u') → FrL [108, 109] u u' := by
  intro n
  induction n with
  | zero =>
    intro l2 l3 l4 l5 u h
    exact nn_ h
  | succ n ih =>
    intro l2 l3 l4 l5 u h
    exact fbX7_findWay_106_60 ih l2 l3 l4 l5 u h
theorem fbX7_findWay_106_51 {v : Int32} {u' : Mem} {k8 : Int32 → Int32 → Int32 → Int32 → Int32 → Mem → Option (Int32 × Mem)} (hk8 : ∀ (l1 l2 l3 l4 l5 : Int32) (u : Mem), k8 l1 l2 l3 l4 l5 u = some (v, u') → FrL [108, 109] u u') (l1 l2 l3 l4 l5 : Int32) (u : Mem) (h : FX7_findWay_106_b51 k8 l1 l2 l3 l4 l5 u = some (v, u')) : FrL [108, 109] u u' := by
  unfold FX7_findWay_106_b51 at h
  exact hk8 l1 l2 l3 l4 (l5 + 1) u h
theorem fbX7_findWay_106_8 {v : Int32} {u' : Mem} {k8 : Int32 → Int32 → Int32 → Int32 → Int32 → Mem → Option (Int32 × Mem)} (hk8 : ∀ (l1 l2 l3 l4 l5 : Int32) (u : Mem), k8 l1 l2 l3 l4 l5 u = some (v, u') → FrL [108, 109] u u') (l1 l2 l3 l4 l5 : Int32) (u : Mem) (h : FX7_findWay_106_b8 k8 l1 l2 l3 l4 l5 u = some (v, u')) : FrL [108, 109] u u' := by
  unfold FX7_findWay_106_b8 at h
  rcases io h with ⟨c1, h⟩ | ⟨c1, h⟩
  · skip
    exact flX7_findWay_106_60 FU l2 l3 l4 0 u h
  · skip
    obtain ⟨u2, gu2, h⟩ := o_bind h
    refine ft (fr_wr rfl gu2) ?_
    obtain ⟨x3, gx3, h⟩ := o_bind h
    rcases io h with ⟨c4, h⟩ | ⟨c4, h⟩
    · skip
      exact fbX7_findWay_106_51 hk8 l1 l2 l3 l4 l5 u2 h
    · skip
      rcases io h with ⟨c5, h⟩ | ⟨c5, h⟩
      · skip
        exact fbX7_findWay_106_51 hk8 l1 l2 l3 l4 l5 u2 h
      · skip
        obtain ⟨u6, gu6, h⟩ := o_bind h
        refine ft (fr_wr rfl gu6) ?_
        exact fbX7_findWay_106_51 hk8 l1 l2 l3 (l4 + 1) l5 u6 h
theorem flX7_findWay_106_8 {v : Int32} {u' : Mem} : ∀ (n : Nat) (l1 l2 l3 l4 l5 : Int32) (u : Mem), FX7_findWay_106_L8 n l1 l2 l3 l4 l5 u = some (v, u') → FrL [108, 109] u u' := by
  intro n
  induction n with
  | zero =>
    intro l1 l2 l3 l4 l5 u h
    exact nn_ h
  | succ n ih =>
    intro l1 l2 l3 l4 l5 u h
    exact fbX7_findWay_106_8 ih l1 l2 l3 l4 l5 u h
theorem frX7_findWay_106 (p1 p2 : Int32) (u : Mem) {v : Int32} {u' : Mem} (h : FX7_findWay_106 p1 p2 u = some (v, u')) : FrL [108, 109] u u' := by
  unfold FX7_findWay_106 at h
  exact flX7_findWay_106_8 FU p1 p2 p1 0 0 u h
theorem fbX7_useWay_106_4 {u' : Mem} {k4 : Int32 → Int32 → Mem → Option Mem} (hk4 : ∀ (l2 l3 : Int32) (u : Mem), k4 l2 l3 u = some u' → FrL [107] u u') (l2 l3 : Int32) (u : Mem) (h : FX7_useWay_106_b4 k4 l2 l3 u = some u') : FrL [107] u u' := by
  unfold FX7_useWay_106_b4 at h
  rcases io h with ⟨c1, h⟩ | ⟨c1, h⟩
  · skip
    cases h
    exact fr_refl _ _
  · skip
    rcases io h with ⟨c2, h⟩ | ⟨c2, h⟩
    · skip
      cases h
      exact fr_refl _ _
    · skip
      rcases io h with ⟨c3, h⟩ | ⟨c3, h⟩
      · skip
        cases h
        exact fr_refl _ _
      · skip
        obtain ⟨x4, gx4, h⟩ := o_bind h
        rcases io h with ⟨c5, h⟩ | ⟨c5, h⟩
        · skip
          cases h
          exact fr_refl _ _
        · skip
          rcases io h with ⟨c6, h⟩ | ⟨c6, h⟩
          · skip
            obtain ⟨x7, gx7, h⟩ := o_bind h
            obtain ⟨u8, gu8, h⟩ := o_bind h
            refine ft (fr_wr rfl gu8) ?_
            obtain ⟨x9, gx9, h⟩ := o_bind h
            obtain ⟨u10, gu10, h⟩ := o_bind h
            refine ft (fr_wr rfl gu10) ?_
            exact hk4 x4 (l3 + 1) u10 h
          · skip
            cases h
            exact fr_refl _ _
theorem flX7_useWay_106_4 {u' : Mem} : ∀ (n : Nat) (l2 l3 : Int32) (u : Mem), FX7_useWay_106_L4 n l2 l3 u = some u' → FrL [107] u u' := by
  intro n
  induction n with
  | zero =>
    intro l2 l3 u h
    exact nn_ h
  | succ n ih =>
    intro l2 l3 u h
    exact fbX7_useWay_106_4 ih l2 l3 u h
theorem frX7_useWay_106 (p1 : Int32) (u : Mem) {u' : Mem} (h : FX7_useWay_106 p1 u = some u') : FrL [107] u u' := by
  unfold FX7_useWay_106 at h
  exact flX7_useWay_106_4 FU p1 0 u h
theorem fbX7_fewestTellings_106_96 {v : Int32} {u' : Mem} (l3 : Int32) (u : Mem) (h : FX7_fewestTellings_106_b96 l3 u = some (v, u')) : FrL [107, 108, 109] u u' := by
  unfold FX7_fewestTellings_106_b96 at h
  cases h
  exact fr_refl _ _
theorem fbX7_fewestTellings_106_66 {v : Int32} {u' : Mem} {k66 : Int32 → Int32 → Int32 → Mem → Option (Int32 × Mem)} (hk66 : ∀ (l1 l2 l3 : Int32) (u : Mem), k66 l1 l2 l3 u = some (v, u') → FrL [107, 108, 109] u u') (l1 l2 l3 : Int32) (u : Mem) (h : FX7_fewestTellings_106_b66 k66 l1 l2 l3 u = some (v, u')) : FrL [107, 108, 109] u u' := by
  unfold FX7_fewestTellings_106_b66 at h
  rcases io h with ⟨c1, h⟩ | ⟨c1, h⟩
  · skip
    exact fbX7_fewestTellings_106_96 l3 u h
  · skip
    obtain ⟨x2, gx2, h⟩ := o_bind h
    obtain ⟨x3, u4, gx3, h⟩ := o_bnd2 h
    refine ft (fr_mono rfl (frX7_findWay_106 x2 l2 u gx3)) ?_
    rcases io h with ⟨c5, h⟩ | ⟨c5, h⟩
    · skip
      exact fbX7_fewestTellings_106_96 l3 u4 h
    · skip
      obtain ⟨u7, gu7, h⟩ := o_bind h
      refine ft (fr_mono rfl (frX7_useWay_106 l2 u4 gu7)) ?_
      exact hk66 l1 l2 (l3 + 1) u7 h
theorem flX7_fewestTellings_106_66 {v : Int32} {u' : Mem} : ∀ (n : Nat) (l1 l2 l3 : Int32) (u : Mem), FX7_fewestTellings_106_L66 n l1 l2 l3 u = some (v, u') → FrL [107, 108, 109] u u' := by
  intro n
  induction n with
  | zero =>
    intro l1 l2 l3 u h
    exact nn_ h
  | succ n ih =>
    intro l1 l2 l3 u h
    exact fbX7_fewestTellings_106_66 ih l1 l2 l3 u h
theorem fbX7_fewestTellings_106_51 {v : Int32} {u' : Mem} {k11 : Int32 → Int32 → Int32 → Int32 → Mem → Option (Int32 × Mem)} (hk11 : ∀ (l1 l2 l3 l4 : Int32) (u : Mem), k11 l1 l2 l3 l4 u = some (v, u') → FrL [107, 108, 109] u u') (l1 l2 l3 l4 t1 t2 : Int32) (u : Mem) (h : FX7_fewestTellings_106_b51 k11 l1 l2 l3 l4 t1 t2 u = some (v, u')) : FrL [107, 108, 109] u u' := by
  unfold FX7_fewestTellings_106_b51 at h
  obtain ⟨u1, gu1, h⟩ := o_bind h
  refine ft (fr_wr rfl gu1) ?_
  exact hk11 l1 l2 l3 (l4 + 1) u1 h
theorem fbX7_fewestTellings_106_11 {v : Int32} {u' : Mem} {k2 : Int32 → Int32 → Int32 → Mem → Option (Int32 × Mem)} (hk2 : ∀ (l1 l2 l3 : Int32) (u : Mem), k2 l1 l2 l3 u = some (v, u') → FrL [107, 108, 109] u u') {k11 : Int32 → Int32 → Int32 → Int32 → Mem → Option (Int32 × Mem)} (hk11 : ∀ (l1 l2 l3 l4 : Int32) (u : Mem), k11 l1 l2 l3 l4 u = some (v, u') → FrL [107, 108, 109] u u') (l1 l2 l3 l4 : Int32) (u : Mem) (h : FX7_fewestTellings_106_b11 k2 k11 l1 l2 l3 l4 u = some (v, u')) : FrL [107, 108, 109] u u' := by
  unfold FX7_fewestTellings_106_b11 at h
  rcases io h with ⟨c1, h⟩ | ⟨c1, h⟩
  · skip
    exact hk2 l1 l2 (l3 + 1) u h
  · skip
    obtain ⟨x2, gx2, h⟩ := o_bind h
    obtain ⟨x3, gx3, h⟩ := o_bind h
    rcases io h with ⟨c4, h⟩ | ⟨c4, h⟩
    · skip
      exact fbX7_fewestTellings_106_51 hk11 l1 l2 l3 l4 ((l3 * 12) + l4) 0 u h
    · skip
      exact fbX7_fewestTellings_106_51 hk11 l1 l2 l3 l4 ((l3 * 12) + l4) 1 u h
theorem flX7_fewestTellings_106_11 {v : Int32} {u' : Mem} {k2 : Int32 → Int32 → Int32 → Mem → Option (Int32 × Mem)} (hk2 : ∀ (l1 l2 l3 : Int32) (u : Mem), k2 l1 l2 l3 u = some (v, u') → FrL [107, 108, 109] u u') : ∀ (n : Nat) (l1 l2 l3 l4 : Int32) (u : Mem), FX7_fewestTellings_106_L11 k2 n l1 l2 l3 l4 u = some (v, u') → FrL [107, 108, 109] u u' := by
  intro n
  induction n with
  | zero =>
    intro l1 l2 l3 l4 u h
    exact nn_ h
  | succ n ih =>
    intro l1 l2 l3 l4 u h
    exact fbX7_fewestTellings_106_11 hk2 ih l1 l2 l3 l4 u h
theorem fbX7_fewestTellings_106_2 {v : Int32} {u' : Mem} {k2 : Int32 → Int32 → Int32 → Mem → Option (Int32 × Mem)} (hk2 : ∀ (l1 l2 l3 : Int32) (u : Mem), k2 l1 l2 l3 u = some (v, u') → FrL [107, 108, 109] u u') (l1 l2 l3 : Int32) (u : Mem) (h : FX7_fewestTellings_106_b2 k2 l1 l2 l3 u = some (v, u')) : FrL [107, 108, 109] u u' := by
  unfold FX7_fewestTellings_106_b2 at h
  rcases io h with ⟨c1, h⟩ | ⟨c1, h⟩
  · skip
    exact flX7_fewestTellings_106_66 FU l1 l2 0 u h
  · skip
    exact flX7_fewestTellings_106_11 hk2 FU l1 l2 l3 0 u h
theorem flX7_fewestTellings_106_2 {v : Int32} {u' : Mem} : ∀ (n : Nat) (l1 l2 l3 : Int32) (u : Mem), FX7_fewestTellings_106_L2 n l1 l2 l3 u = some (v, u') → FrL [107, 108, 109] u u' := by
  intro n
  induction n with
  | zero =>
    intro l1 l2 l3 u h
    exact nn_ h
  | succ n ih =>
    intro l1 l2 l3 u h
    exact fbX7_fewestTellings_106_2 ih l1 l2 l3 u h
theorem frX7_fewestTellings_106 (p1 p2 : Int32) (u : Mem) {v : Int32} {u' : Mem} (h : FX7_fewestTellings_106 p1 p2 u = some (v, u')) : FrL [107, 108, 109] u u' := by
  unfold FX7_fewestTellings_106 at h
  exact flX7_fewestTellings_106_2 FU p1 p2 0 u h
theorem fbX11_knees_0_35 {v : Int32} {u' : Mem} (l1 l2 t0 : Int32) (u : Mem) (h : FX11_knees_0_b35 l1 l2 t0 u = some (v, u')) : FrL [107, 108, 109] u u' := by
  unfold FX11_knees_0_b35 at h
  rcases io h with ⟨c1, h⟩ | ⟨c1, h⟩
  · skip
    cases h
    exact fr_refl _ _
  · skip
    obtain ⟨x2, u3, gx2, h⟩ := o_bnd2 h
    refine ft (fr_mono rfl (frX7_fewestTellings_106 l1 l2 u gx2)) ?_
    cases h
    exact fr_refl _ _
theorem frX11_knees_0 (p1 p2 : Int32) (u : Mem) {v : Int32} {u' : Mem} (h : FX11_knees_0 p1 p2 u = some (v, u')) : FrL [107, 108, 109] u u' := by
  unfold FX11_knees_0 at h
  obtain ⟨x1, gx1, h⟩ := o_bind h
  rcases io h with ⟨c2, h⟩ | ⟨c2, h⟩
  · skip
    exact fbX11_knees_0_35 p1 p2 0 u h
  · skip
    obtain ⟨x3, gx3, h⟩ := o_bind h
    rcases io h with ⟨c4, h⟩ | ⟨c4, h⟩
    · skip
      exact fbX11_knees_0_35 p1 p2 0 u h
    · skip
      obtain ⟨x5, gx5, h⟩ := o_bind h
      rcases oi h with ⟨c6, h⟩ | ⟨c6, h⟩
      · skip
        exact fbX11_knees_0_35 p1 p2 0 u h
      · skip
        exact fbX11_knees_0_35 p1 p2 1 u h
theorem fbX7_gather_106_141 {u' : Mem} {k12 : Int32 → Int32 → Mem → Option Mem} (hk12 : ∀ (l1 l2 : Int32) (u : Mem), k12 l1 l2 u = some u' → FrL [106, 110, 111] u u') (l1 l2 : Int32) (u : Mem) (h : FX7_gather_106_b141 k12 l1 l2 u = some u') : FrL [106, 110, 111] u u' := by
  unfold FX7_gather_106_b141 at h
  exact hk12 l1 (l2 + 1) u h
theorem fbX7_gather_106_87 {u' : Mem} {k12 : Int32 → Int32 → Mem → Option Mem} (hk12 : ∀ (l1 l2 : Int32) (u : Mem), k12 l1 l2 u = some u' → FrL [106, 110, 111] u u') (l1 l2 : Int32) (u : Mem) (h : FX7_gather_106_b87 k12 l1 l2 u = some u') : FrL [106, 110, 111] u u' := by
  unfold FX7_gather_106_b87 at h
  obtain ⟨x1, gx1, h⟩ := o_bind h
  rcases oi h with ⟨c2, h⟩ | ⟨c2, h⟩
  · skip
    exact fbX7_gather_106_141 hk12 l1 l2 u h
  · skip
    obtain ⟨x3, gx3, h⟩ := o_bind h
    rcases oi h with ⟨c4, h⟩ | ⟨c4, h⟩
    · skip
      exact fbX7_gather_106_141 hk12 l1 l2 u h
    · skip
      rcases io h with ⟨c5, h⟩ | ⟨c5, h⟩
      · skip
        exact fbX7_gather_106_141 hk12 l1 l2 u h
      · skip
        obtain ⟨u6, gu6, h⟩ := o_bind h
        refine ft (fr_wr rfl gu6) ?_
        obtain ⟨u7, gu7, h⟩ := o_bind h
        refine ft (fr_upd rfl gu7) ?_
        exact fbX7_gather_106_141 hk12 l1 l2 u7 h
theorem fbX7_gather_106_12 {u' : Mem} {k12 : Int32 → Int32 → Mem → Option Mem} (hk12 : ∀ (l1 l2 : Int32) (u : Mem), k12 l1 l2 u = some u' → FrL [106, 110, 111] u u') (l1 l2 : Int32) (u : Mem) (h : FX7_gather_106_b12 k12 l1 l2 u = some u') : FrL [106, 110, 111] u u' := by
  unfold FX7_gather_106_b12 at h
  rcases io h with ⟨c1, h⟩ | ⟨c1, h⟩
  · skip
    cases h
    exact fr_refl _ _
  · skip
    rcases io h with ⟨c2, h⟩ | ⟨c2, h⟩
    · skip
      cases h
      exact fr_refl _ _
    · skip
      obtain ⟨x3, gx3, h⟩ := o_bind h
      rcases oi h with ⟨c4, h⟩ | ⟨c4, h⟩
      · skip
        exact fbX7_gather_106_87 hk12 l1 l2 u h
      · skip
        obtain ⟨x5, gx5, h⟩ := o_bind h
        rcases oi h with ⟨c6, h⟩ | ⟨c6, h⟩
        · skip
          exact fbX7_gather_106_87 hk12 l1 l2 u h
        · skip
          rcases io h with ⟨c7, h⟩ | ⟨c7, h⟩
          · skip
            exact fbX7_gather_106_87 hk12 l1 l2 u h
          · skip
            obtain ⟨u8, gu8, h⟩ := o_bind h
            refine ft (fr_wr rfl gu8) ?_
            obtain ⟨u9, gu9, h⟩ := o_bind h
            refine ft (fr_upd rfl gu9) ?_
            exact fbX7_gather_106_141 hk12 l1 l2 u9 h
theorem flX7_gather_106_12 {u' : Mem} : ∀ (n : Nat) (l1 l2 : Int32) (u : Mem), FX7_gather_106_L12 n l1 l2 u = some u' → FrL [106, 110, 111] u u' := by
  intro n
  induction n with
  | zero =>
    intro l1 l2 u h
    exact nn_ h
  | succ n ih =>
    intro l1 l2 u h
    exact fbX7_gather_106_12 ih l1 l2 u h
theorem frX7_gather_106 (p1 : Int32) (u : Mem) {u' : Mem} (h : FX7_gather_106 p1 u = some u') : FrL [106, 110, 111] u u' := by
  unfold FX7_gather_106 at h
  obtain ⟨u1, gu1, h⟩ := o_bind h
  refine ft (fr_upd rfl gu1) ?_
  obtain ⟨u2, gu2, h⟩ := o_bind h
  refine ft (fr_upd rfl gu2) ?_
  exact flX7_gather_106_12 FU p1 0 u2 h
theorem fbX7_weighWays_106_135 {u' : Mem} {k13 : Int32 → Int32 → Mem → Option Mem} (hk13 : ∀ (l1 l2 : Int32) (u : Mem), k13 l1 l2 u = some u' → FrL [113] u u') (l1 l2 : Int32) (u : Mem) (h : FX7_weighWays_106_b135 k13 l1 l2 u = some u') : FrL [113] u u' := by
  unfold FX7_weighWays_106_b135 at h
  exact hk13 l1 (l2 + 1) u h
theorem fbX7_weighWays_106_95 {u' : Mem} {k35 : Int32 → Int32 → Int32 → Int32 → Mem → Option Mem} (hk35 : ∀ (l1 l2 l3 l4 : Int32) (u : Mem), k35 l1 l2 l3 l4 u = some u' → FrL [113] u u') (l1 l2 l4 t0 : Int32) (u : Mem) (h : FX7_weighWays_106_b95 k35 l1 l2 l4 t0 u = some u') : FrL [113] u u' := by
  unfold FX7_weighWays_106_b95 at h
  exact hk35 l1 l2 t0 (l4 + 1) u h
theorem fbX7_weighWays_106_64 {u' : Mem} {k35 : Int32 → Int32 → Int32 → Int32 → Mem → Option Mem} (hk35 : ∀ (l1 l2 l3 l4 : Int32) (u : Mem), k35 l1 l2 l3 l4 u = some u' → FrL [113] u u') (l1 l2 l3 l4 t0 : Int32) (u : Mem) (h : FX7_weighWays_106_b64 k35 l1 l2 l3 l4 t0 u = some u') : FrL [113] u u' := by
  unfold FX7_weighWays_106_b64 at h
  rcases oi h with ⟨c1, h⟩ | ⟨c1, h⟩
  · skip
    obtain ⟨x2, gx2, h⟩ := o_bind h
    exact fbX7_weighWays_106_95 hk35 l1 l2 l4 (if l3 < (t0 + x2) then (t0 + x2) else l3) u h
  · skip
    exact fbX7_weighWays_106_95 hk35 l1 l2 l4 l3 u h
theorem fbX7_weighWays_106_35 {u' : Mem} {k13 : Int32 → Int32 → Mem → Option Mem} (hk13 : ∀ (l1 l2 : Int32) (u : Mem), k13 l1 l2 u = some u' → FrL [113] u u') {k35 : Int32 → Int32 → Int32 → Int32 → Mem → Option Mem} (hk35 : ∀ (l1 l2 l3 l4 : Int32) (u : Mem), k35 l1 l2 l3 l4 u = some u' → FrL [113] u u') (l1 l2 l3 l4 : Int32) (u : Mem) (h : FX7_weighWays_106_b35 k13 k35 l1 l2 l3 l4 u = some u') : FrL [113] u u' := by
  unfold FX7_weighWays_106_b35 at h
  rcases io h with ⟨c1, h⟩ | ⟨c1, h⟩
  · skip
    rcases io h with ⟨c2, h⟩ | ⟨c2, h⟩
    · skip
      exact fbX7_weighWays_106_135 hk13 l1 l2 u h
    · skip
      rcases io h with ⟨c3, h⟩ | ⟨c3, h⟩
      · skip
        exact fbX7_weighWays_106_135 hk13 l1 l2 u h
      · skip
        obtain ⟨u4, gu4, h⟩ := o_bind h
        refine ft (fr_wr rfl gu4) ?_
        exact fbX7_weighWays_106_135 hk13 l1 l2 u4 h
  · skip
    obtain ⟨x5, gx5, h⟩ := o_bind h
    rcases io h with ⟨c6, h⟩ | ⟨c6, h⟩
    · skip
      obtain ⟨x7, gx7, h⟩ := o_bind h
      exact fbX7_weighWays_106_64 hk35 l1 l2 l3 l4 x7 u h
    · skip
      exact fbX7_weighWays_106_64 hk35 l1 l2 l3 l4 0 u h
theorem flX7_weighWays_106_35 {u' : Mem} {k13 : Int32 → Int32 → Mem → Option Mem} (hk13 : ∀ (l1 l2 : Int32) (u : Mem), k13 l1 l2 u = some u' → FrL [113] u u') : ∀ (n : Nat) (l1 l2 l3 l4 : Int32) (u : Mem), FX7_weighWays_106_L35 k13 n l1 l2 l3 l4 u = some u' → FrL [113] u u' := by
  intro n
  induction n with
  | zero =>
    intro l1 l2 l3 l4 u h
    exact nn_ h
  | succ n ih =>
    intro l1 l2 l3 l4 u h
    exact fbX7_weighWays_106_35 hk13 ih l1 l2 l3 l4 u h
theorem fbX7_weighWays_106_13 {u' : Mem} {k7 : Int32 → Mem → Option Mem} (hk7 : ∀ (l1 : Int32) (u : Mem), k7 l1 u = some u' → FrL [113] u u') {k13 : Int32 → Int32 → Mem → Option Mem} (hk13 : ∀ (l1 l2 : Int32) (u : Mem), k13 l1 l2 u = some u' → FrL [113] u u') (l1 l2 : Int32) (u : Mem) (h : FX7_weighWays_106_b13 k7 k13 l1 l2 u = some u') : FrL [113] u u' := by
  unfold FX7_weighWays_106_b13 at h
  rcases io h with ⟨c1, h⟩ | ⟨c1, h⟩
  · skip
    exact hk7 (l1 + (-1)) u h
  · skip
    obtain ⟨x2, gx2, h⟩ := o_bind h
    exact flX7_weighWays_106_35 hk13 FU l1 l2 x2 0 u h
theorem flX7_weighWays_106_13 {u' : Mem} {k7 : Int32 → Mem → Option Mem} (hk7 : ∀ (l1 : Int32) (u : Mem), k7 l1 u = some u' → FrL [113] u u') : ∀ (n : Nat) (l1 l2 : Int32) (u : Mem), FX7_weighWays_106_L13 k7 n l1 l2 u = some u' → FrL [113] u u' := by
  intro n
  induction n with
  | zero =>
    intro l1 l2 u h
    exact nn_ h
  | succ n ih =>
    intro l1 l2 u h
    exact fbX7_weighWays_106_13 hk7 ih l1 l2 u h
theorem fbX7_weighWays_106_7 {u' : Mem} {k7 : Int32 → Mem → Option Mem} (hk7 : ∀ (l1 : Int32) (u : Mem), k7 l1 u = some u' → FrL [113] u u') (l1 : Int32) (u : Mem) (h : FX7_weighWays_106_b7 k7 l1 u = some u') : FrL [113] u u' := by
  unfold FX7_weighWays_106_b7 at h
  rcases io h with ⟨c1, h⟩ | ⟨c1, h⟩
  · skip
    cases h
    exact fr_refl _ _
  · skip
    exact flX7_weighWays_106_13 hk7 FU l1 0 u h
theorem flX7_weighWays_106_7 {u' : Mem} : ∀ (n : Nat) (l1 : Int32) (u : Mem), FX7_weighWays_106_L7 n l1 u = some u' → FrL [113] u u' := by
  intro n
  induction n with
  | zero =>
    intro l1 u h
    exact nn_ h
  | succ n ih =>
    intro l1 u h
    exact fbX7_weighWays_106_7 ih l1 u h
theorem frX7_weighWays_106 (u : Mem) {u' : Mem} (h : FX7_weighWays_106 u = some u') : FrL [113] u u' := by
  unfold FX7_weighWays_106 at h
  exact flX7_weighWays_106_7 FU ((u 106 11) - 1) u h
theorem fbJ7_fill_53178_112_5 {u' : Mem} {k5 : Int32 → Int32 → Int32 → Mem → Option Mem} (hk5 : ∀ (l1 l2 l3 : Int32) (u : Mem), k5 l1 l2 l3 u = some u' → FrL [112] u u') (l1 l2 l3 : Int32) (u : Mem) (h : FJ7_fill_53178_112_b5 k5 l1 l2 l3 u = some u') : FrL [112] u u' := by
  unfold FJ7_fill_53178_112_b5 at h
  rcases io h with ⟨c1, h⟩ | ⟨c1, h⟩
  · skip
    cases h
    exact fr_refl _ _
  · skip
    obtain ⟨u2, gu2, h⟩ := o_bind h
    refine ft (fr_wr rfl gu2) ?_
    exact hk5 l1 (l2 + 1) l3 u2 h
theorem flJ7_fill_53178_112_5 {u' : Mem} : ∀ (n : Nat) (l1 l2 l3 : Int32) (u : Mem), FJ7_fill_53178_112_L5 n l1 l2 l3 u = some u' → FrL [112] u u' := by
  intro n
  induction n with
  | zero =>
    intro l1 l2 l3 u h
    exact nn_ h
  | succ n ih =>
    intro l1 l2 l3 u h
    exact fbJ7_fill_53178_112_5 ih l1 l2 l3 u h
theorem frJ7_fill_53178_112 (p1 : Int32) (u : Mem) {u' : Mem} (h : FJ7_fill_53178_112 p1 u = some u') : FrL [112] u u' := by
  unfold FJ7_fill_53178_112 at h
  exact flJ7_fill_53178_112_5 FU p1 0 12 u h
theorem fbX7_chooseGoers_106_158 {v : Int32} {u' : Mem} (l1 l3 l4 : Int32) (u : Mem) (h : FX7_chooseGoers_106_b158 l1 l3 l4 u = some (v, u')) : FrL [112] u u' := by
  unfold FX7_chooseGoers_106_b158 at h
  by_cases c1 : l1 = 0
  · have h := it h c1
    cases h
    exact fr_refl _ _
  · have h := ie h c1
    by_cases c2 : l1 = 1
    · have h := it h c2
      cases h
      exact fr_refl _ _
    · have h := ie h c2
      obtain ⟨x3, gx3, h⟩ := o_bind h
      cases h
      exact fr_refl _ _
theorem fbX7_chooseGoers_106_152 {v : Int32} {u' : Mem} {k18 : Int32 → Int32 → Int32 → Int32 → Int32 → Mem → Option (Int32 × Mem)} (hk18 : ∀ (l1 l2 l3 l4 l5 : Int32) (u : Mem), k18 l1 l2 l3 l4 l5 u = some (v, u') → FrL [112] u u') (l1 l2 l3 l4 l5 : Int32) (u : Mem) (h : FX7_chooseGoers_106_b152 k18 l1 l2 l3 l4 l5 u = some (v, u')) : FrL [112] u u' := by
  unfold FX7_chooseGoers_106_b152 at h
  exact hk18 l1 l2 l3 l4 (l5 + 1) u h
theorem fbX7_chooseGoers_106_146 {v : Int32} {u' : Mem} {k37 : Int32 → Int32 → Int32 → Int32 → Int32 → Int32 → Mem → Option (Int32 × Mem)} (hk37 : ∀ (l1 l2 l3 l4 l5 l6 : Int32) (u : Mem), k37 l1 l2 l3 l4 l5 l6 u = some (v, u') → FrL [112] u u') (l1 l2 l3 l4 l5 l6 : Int32) (u : Mem) (h : FX7_chooseGoers_106_b146 k37 l1 l2 l3 l4 l5 l6 u = some (v, u')) : FrL [112] u u' := by
  unfold FX7_chooseGoers_106_b146 at h
  exact hk37 l1 l2 l3 l4 l5 (l6 + 1) u h
theorem fbX7_chooseGoers_106_74 {v : Int32} {u' : Mem} {k18 : Int32 → Int32 → Int32 → Int32 → Int32 → Mem → Option (Int32 × Mem)} (hk18 : ∀ (l1 l2 l3 l4 l5 : Int32) (u : Mem), k18 l1 l2 l3 l4 l5 u = some (v, u') → FrL [112] u u') {k37 : Int32 → Int32 → Int32 → Int32 → Int32 → Int32 → Mem → Option (Int32 × Mem)} (hk37 : ∀ (l1 l2 l3 l4 l5 l6 : Int32) (u : Mem), k37 l1 l2 l3 l4 l5 l6 u = some (v, u') → FrL [112] u u') (l1 l2 l3 l4 l5 l6 t0 : Int32) (u : Mem) (h : FX7_chooseGoers_106_b74 k18 k37 l1 l2 l3 l4 l5 l6 t0 u = some (v, u')) : FrL [112] u u' := by
  unfold FX7_chooseGoers_106_b74 at h
  rcases io h with ⟨c1, h⟩ | ⟨c1, h⟩
  · skip
    exact fbX7_chooseGoers_106_146 hk37 l1 l2 l3 l4 l5 l6 u h
  · skip
    obtain ⟨x2, gx2, h⟩ := o_bind h
    obtain ⟨x3, gx3, h⟩ := o_bind h
    rcases oi h with ⟨c4, h⟩ | ⟨c4, h⟩
    · skip
      exact fbX7_chooseGoers_106_146 hk37 l1 l2 l3 l4 l5 l6 u h
    · skip
      obtain ⟨x5, gx5, h⟩ := o_bind h
      obtain ⟨u6, gu6, h⟩ := o_bind h
      refine ft (fr_wr rfl gu6) ?_
      exact fbX7_chooseGoers_106_152 hk18 l1 (l2 ||| ((1 : Int32) <<< (l6 &&& 31))) (l3 + 1) (l4 + (10000 - t0)) l5 u6 h
theorem fbX7_chooseGoers_106_37 {v : Int32} {u' : Mem} {k18 : Int32 → Int32 → Int32 → Int32 → Int32 → Mem → Option (Int32 × Mem)} (hk18 : ∀ (l1 l2 l3 l4 l5 : Int32) (u : Mem), k18 l1 l2 l3 l4 l5 u = some (v, u') → FrL [112] u u') {k37 : Int32 → Int32 → Int32 → Int32 → Int32 → Int32 → Mem → Option (Int32 × Mem)} (hk37 : ∀ (l1 l2 l3 l4 l5 l6 : Int32) (u : Mem), k37 l1 l2 l3 l4 l5 l6 u = some (v, u') → FrL [112] u u') (l1 l2 l3 l4 l5 l6 : Int32) (u : Mem) (h : FX7_chooseGoers_106_b37 k18 k37 l1 l2 l3 l4 l5 l6 u = some (v, u')) : FrL [112] u u' := by
  unfold FX7_chooseGoers_106_b37 at h
  rcases io h with ⟨c1, h⟩ | ⟨c1, h⟩
  · skip
    exact fbX7_chooseGoers_106_152 hk18 l1 l2 l3 l4 l5 u h
  · skip
    rcases io h with ⟨c2, h⟩ | ⟨c2, h⟩
    · skip
      exact fbX7_chooseGoers_106_152 hk18 l1 l2 l3 l4 l5 u h
    · skip
      obtain ⟨x3, gx3, h⟩ := o_bind h
      rcases io h with ⟨c4, h⟩ | ⟨c4, h⟩
      · skip
        obtain ⟨x5, gx5, h⟩ := o_bind h
        exact fbX7_chooseGoers_106_74 hk18 hk37 l1 l2 l3 l4 l5 l6 x5 u h
      · skip
        exact fbX7_chooseGoers_106_74 hk18 hk37 l1 l2 l3 l4 l5 l6 0 u h
theorem flX7_chooseGoers_106_37 {v : Int32} {u' : Mem} {k18 : Int32 → Int32 → Int32 → Int32 → Int32 → Mem → Option (Int32 × Mem)} (hk18 : ∀ (l1 l2 l3 l4 l5 : Int32) (u : Mem), k18 l1 l2 l3 l4 l5 u = some (v, u') → FrL [112] u u') : ∀ (n : Nat) (l1 l2 l3 l4 l5 l6 : Int32) (u : Mem), FX7_chooseGoers_106_L37 k18 n l1 l2 l3 l4 l5 l6 u = some (v, u') → FrL [112] u u' := by
  intro n
  induction n with
  | zero =>
    intro l1 l2 l3 l4 l5 l6 u h
    exact nn_ h
  | succ n ih =>
    intro l1 l2 l3 l4 l5 l6 u h
    exact fbX7_chooseGoers_106_37 hk18 ih l1 l2 l3 l4 l5 l6 u h
theorem fbX7_chooseGoers_106_18 {v : Int32} {u' : Mem} {k18 : Int32 → Int32 → Int32 → Int32 → Int32 → Mem → Option (Int32 × Mem)} (hk18 : ∀ (l1 l2 l3 l4 l5 : Int32) (u : Mem), k18 l1 l2 l3 l4 l5 u = some (v, u') → FrL [112] u u') (l1 l2 l3 l4 l5 : Int32) (u : Mem) (h : FX7_chooseGoers_106_b18 k18 l1 l2 l3 l4 l5 u = some (v, u')) : FrL [112] u u' := by
  unfold FX7_chooseGoers_106_b18 at h
  rcases io h with ⟨c1, h⟩ | ⟨c1, h⟩
  · skip
    exact fbX7_chooseGoers_106_158 l1 l3 l4 u h
  · skip
    rcases io h with ⟨c2, h⟩ | ⟨c2, h⟩
    · skip
      exact fbX7_chooseGoers_106_158 l1 l3 l4 u h
    · skip
      exact flX7_chooseGoers_106_37 hk18 FU l1 l2 l3 l4 l5 0 u h
theorem flX7_chooseGoers_106_18 {v : Int32} {u' : Mem} : ∀ (n : Nat) (l1 l2 l3 l4 l5 : Int32) (u : Mem), FX7_chooseGoers_106_L18 n l1 l2 l3 l4 l5 u = some (v, u') → FrL [112] u u' := by
  intro n
  induction n with
  | zero =>
    intro l1 l2 l3 l4 l5 u h
    exact nn_ h
  | succ n ih =>
    intro l1 l2 l3 l4 l5 u h
    exact fbX7_chooseGoers_106_18 ih l1 l2 l3 l4 l5 u h
theorem frX7_chooseGoers_106 (p1 : Int32) (u : Mem) {v : Int32} {u' : Mem} (h : FX7_chooseGoers_106 p1 u = some (v, u')) : FrL [112] u u' := by
  unfold FX7_chooseGoers_106 at h
  obtain ⟨u2, gu2, h⟩ := o_bind h
  refine ft (fr_mono rfl (frJ7_fill_53178_112 (-1) u gu2)) ?_
  exact flX7_chooseGoers_106_18 FU p1 0 0 0 0 u2 h
theorem frX7_standIns_106 (p1 p2 : Int32) (u : Mem) {v : Int32} {u' : Mem} (h : FX7_standIns_106 p1 p2 u = some (v, u')) : FrL [106, 110, 111, 112, 113] u u' := by
  unfold FX7_standIns_106 at h
  obtain ⟨u2, gu2, h⟩ := o_bind h
  refine ft (fr_mono rfl (frX7_gather_106 p1 u gu2)) ?_
  obtain ⟨u4, gu4, h⟩ := o_bind h
  refine ft (fr_mono rfl (frX7_weighWays_106 u2 gu4)) ?_
  obtain ⟨x5, u6, gx5, h⟩ := o_bnd2 h
  refine ft (fr_mono rfl (frX7_chooseGoers_106 p2 u4 gx5)) ?_
  cases h
  exact fr_refl _ _
theorem frX11_stands_0 (p1 p2 : Int32) (u : Mem) {v : Int32} {u' : Mem} (h : FX11_stands_0 p1 p2 u = some (v, u')) : FrL [106, 110, 111, 112, 113] u u' := by
  unfold FX11_stands_0 at h
  obtain ⟨x1, gx1, h⟩ := o_bind h
  rcases io h with ⟨c2, h⟩ | ⟨c2, h⟩
  · skip
    cases h
    exact fr_refl _ _
  · skip
    obtain ⟨x3, u4, gx3, h⟩ := o_bnd2 h
    refine ft (fr_mono rfl (frX7_standIns_106 p1 p2 u gx3)) ?_
    cases h
    exact fr_refl _ _
theorem fbX12_laysStands_146_176 {u' : Mem} {k25 : Int32 → Int32 → Int32 → Int32 → Mem → Option Mem} (hk25 : ∀ (l1 l2 l3 l4 : Int32) (u : Mem), k25 l1 l2 l3 l4 u = some u' → FrL [158] u u') (l1 l2 l3 l4 l5 : Int32) (u : Mem) (h : FX12_laysStands_146_b176 k25 l1 l2 l3 l4 l5 u = some u') : FrL [158] u u' := by
  unfold FX12_laysStands_146_b176 at h
  obtain ⟨u1, gu1, h⟩ := o_bind h
  refine ft (fr_wr rfl gu1) ?_
  exact hk25 l1 l2 l3 (l4 + 1) u1 h
theorem fbX12_laysStands_146_170 {u' : Mem} {k94 : Int32 → Int32 → Int32 → Int32 → Int32 → Int32 → Int32 → Mem → Option Mem} (hk94 : ∀ (l1 l2 l3 l4 l5 l6 l7 : Int32) (u : Mem), k94 l1 l2 l3 l4 l5 l6 l7 u = some u' → FrL [158] u u') (l1 l2 l3 l4 l5 l6 l7 : Int32) (u : Mem) (h : FX12_laysStands_146_b170 k94 l1 l2 l3 l4 l5 l6 l7 u = some u') : FrL [158] u u' := by
  unfold FX12_laysStands_146_b170 at h
  exact hk94 l1 l2 l3 l4 l5 l6 (l7 + 1) u h
theorem fbX12_laysStands_146_94 {u' : Mem} {k25 : Int32 → Int32 → Int32 → Int32 → Mem → Option Mem} (hk25 : ∀ (l1 l2 l3 l4 : Int32) (u : Mem), k25 l1 l2 l3 l4 u = some u' → FrL [158] u u') {k94 : Int32 → Int32 → Int32 → Int32 → Int32 → Int32 → Int32 → Mem → Option Mem} (hk94 : ∀ (l1 l2 l3 l4 l5 l6 l7 : Int32) (u : Mem), k94 l1 l2 l3 l4 l5 l6 l7 u = some u' → FrL [158] u u') (l1 l2 l3 l4 l5 l6 l7 : Int32) (u : Mem) (h : FX12_laysStands_146_b94 k25 k94 l1 l2 l3 l4 l5 l6 l7 u = some u') : FrL [158] u u' := by
  unfold FX12_laysStands_146_b94 at h
  rcases io h with ⟨c1, h⟩ | ⟨c1, h⟩
  · skip
    exact fbX12_laysStands_146_176 hk25 l1 l2 l3 l4 l5 u h
  · skip
    rcases io h with ⟨c2, h⟩ | ⟨c2, h⟩
    · skip
      exact fbX12_laysStands_146_176 hk25 l1 l2 l3 l4 l5 u h
    · skip
      rcases oi h with ⟨c3, h⟩ | ⟨c3, h⟩
      · skip
        exact fbX12_laysStands_146_170 hk94 l1 l2 l3 l4 l5 l6 l7 u h
      · skip
        obtain ⟨x4, gx4, h⟩ := o_bind h
        rcases io h with ⟨c5, h⟩ | ⟨c5, h⟩
        · skip
          exact fbX12_laysStands_146_170 hk94 l1 l2 l3 l4 l5 l6 l7 u h
        · skip
          obtain ⟨x6, gx6, h⟩ := o_bind h
          obtain ⟨x7, gx7, h⟩ := o_bind h
          obtain ⟨x8, gx8, h⟩ := o_bind h
          exact fbX12_laysStands_146_170 hk94 l1 l2 l3 l4 x8 l6 l7 u h
theorem flX12_laysStands_146_94 {u' : Mem} {k25 : Int32 → Int32 → Int32 → Int32 → Mem → Option Mem} (hk25 : ∀ (l1 l2 l3 l4 : Int32) (u : Mem), k25 l1 l2 l3 l4 u = some u' → FrL [158] u u') : ∀ (n : Nat) (l1 l2 l3 l4 l5 l6 l7 : Int32) (u : Mem), FX12_laysStands_146_L94 k25 n l1 l2 l3 l4 l5 l6 l7 u = some u' → FrL [158] u u' := by
  intro n
  induction n with
  | zero =>
    intro l1 l2 l3 l4 l5 l6 l7 u h
    exact nn_ h
  | succ n ih =>
    intro l1 l2 l3 l4 l5 l6 l7 u h
    exact fbX12_laysStands_146_94 hk25 ih l1 l2 l3 l4 l5 l6 l7 u h
theorem fbX12_laysStands_146_89 {u' : Mem} {k25 : Int32 → Int32 → Int32 → Int32 → Mem → Option Mem} (hk25 : ∀ (l1 l2 l3 l4 : Int32) (u : Mem), k25 l1 l2 l3 l4 u = some u' → FrL [158] u u') (l1 l2 l3 l4 l5 t0 : Int32) (u : Mem) (h : FX12_laysStands_146_b89 k25 l1 l2 l3 l4 l5 t0 u = some u') : FrL [158] u u' := by
  unfold FX12_laysStands_146_b89 at h
  exact flX12_laysStands_146_94 hk25 FU l1 l2 l3 l4 l5 t0 0 u h
theorem fbX12_laysStands_146_61 {u' : Mem} {k25 : Int32 → Int32 → Int32 → Int32 → Mem → Option Mem} (hk25 : ∀ (l1 l2 l3 l4 : Int32) (u : Mem), k25 l1 l2 l3 l4 u = some u' → FrL [158] u u') (l1 l2 l3 l4 t0 : Int32) (u : Mem) (h : FX12_laysStands_146_b61 k25 l1 l2 l3 l4 t0 u = some u') : FrL [158] u u' := by
  unfold FX12_laysStands_146_b61 at h
  rcases io h with ⟨c1, h⟩ | ⟨c1, h⟩
  · skip
    exact fbX12_laysStands_146_89 hk25 l1 l2 l3 l4 t0 0 u h
  · skip
    obtain ⟨x2, gx2, h⟩ := o_bind h
    rcases io h with ⟨c3, h⟩ | ⟨c3, h⟩
    · skip
      exact fbX12_laysStands_146_89 hk25 l1 l2 l3 l4 t0 0 u h
    · skip
      exact fbX12_laysStands_146_89 hk25 l1 l2 l3 l4 t0 1 u h
theorem fbX12_laysStands_146_25 {u' : Mem} {k18 : Int32 → Int32 → Int32 → Mem → Option Mem} (hk18 : ∀ (l1 l2 l3 : Int32) (u : Mem), k18 l1 l2 l3 u = some u' → FrL [158] u u') {k25 : Int32 → Int32 → Int32 → Int32 → Mem → Option Mem} (hk25 : ∀ (l1 l2 l3 l4 : Int32) (u : Mem), k25 l1 l2 l3 l4 u = some u' → FrL [158] u u') (l1 l2 l3 l4 : Int32) (u : Mem) (h : FX12_laysStands_146_b25 k18 k25 l1 l2 l3 l4 u = some u') : FrL [158] u u' := by
  unfold FX12_laysStands_146_b25 at h
  rcases io h with ⟨c1, h⟩ | ⟨c1, h⟩
  · skip
    exact hk18 l1 l2 (l3 + (-1)) u h
  · skip
    rcases oi h with ⟨c2, h⟩ | ⟨c2, h⟩
    · skip
      obtain ⟨x3, gx3, h⟩ := o_bind h
      exact fbX12_laysStands_146_61 hk25 l1 l2 l3 l4 x3 u h
    · skip
      exact fbX12_laysStands_146_61 hk25 l1 l2 l3 l4 0 u h
theorem flX12_laysStands_146_25 {u' : Mem} {k18 : Int32 → Int32 → Int32 → Mem → Option Mem} (hk18 : ∀ (l1 l2 l3 : Int32) (u : Mem), k18 l1 l2 l3 u = some u' → FrL [158] u u') : ∀ (n : Nat) (l1 l2 l3 l4 : Int32) (u : Mem), FX12_laysStands_146_L25 k18 n l1 l2 l3 l4 u = some u' → FrL [158] u u' := by
  intro n
  induction n with
  | zero =>
    intro l1 l2 l3 l4 u h
    exact nn_ h
  | succ n ih =>
    intro l1 l2 l3 l4 u h
    exact fbX12_laysStands_146_25 hk18 ih l1 l2 l3 l4 u h
theorem fbX12_laysStands_146_18 {u' : Mem} {k18 : Int32 → Int32 → Int32 → Mem → Option Mem} (hk18 : ∀ (l1 l2 l3 : Int32) (u : Mem), k18 l1 l2 l3 u = some u' → FrL [158] u u') (l1 l2 l3 : Int32) (u : Mem) (h : FX12_laysStands_146_b18 k18 l1 l2 l3 u = some u') : FrL [158] u u' := by
  unfold FX12_laysStands_146_b18 at h
  rcases io h with ⟨c1, h⟩ | ⟨c1, h⟩
  · skip
    cases h
    exact fr_refl _ _
  · skip
    exact flX12_laysStands_146_25 hk18 FU l1 l2 l3 0 u h
theorem flX12_laysStands_146_18 {u' : Mem} : ∀ (n : Nat) (l1 l2 l3 : Int32) (u : Mem), FX12_laysStands_146_L18 n l1 l2 l3 u = some u' → FrL [158] u u' := by
  intro n
  induction n with
  | zero =>
    intro l1 l2 l3 u h
    exact nn_ h
  | succ n ih =>
    intro l1 l2 l3 u h
    exact fbX12_laysStands_146_18 ih l1 l2 l3 u h
theorem frX12_laysStands_146 (p1 : Int32) (u : Mem) {u' : Mem} (h : FX12_laysStands_146 p1 u = some u') : FrL [158] u u' := by
  unfold FX12_laysStands_146 at h
  exact flX12_laysStands_146_18 FU p1 ((1 : Int32) <<< ((u 147 78) &&& 31)) (u 147 78) u h
theorem fbX12_stands_146_142 {v : Int32} {u' : Mem} {k106 : Int32 → Int32 → Int32 → Int32 → Int32 → Mem → Option (Int32 × Mem)} (hk106 : ∀ (l1 l2 l3 l6 l7 : Int32) (u : Mem), k106 l1 l2 l3 l6 l7 u = some (v, u') → FrL [158] u u') (l1 l2 l6 l7 t0 t1 : Int32) (u : Mem) (h : FX12_stands_146_b142 k106 l1 l2 l6 l7 t0 t1 u = some (v, u')) : FrL [158] u u' := by
  unfold FX12_stands_146_b142 at h
  exact hk106 l1 l2 (t0 &&& t1) l6 (l7 + 1) u h
theorem fbX12_stands_146_106 {v : Int32} {u' : Mem} {k106 : Int32 → Int32 → Int32 → Int32 → Int32 → Mem → Option (Int32 × Mem)} (hk106 : ∀ (l1 l2 l3 l6 l7 : Int32) (u : Mem), k106 l1 l2 l3 l6 l7 u = some (v, u') → FrL [158] u u') (l1 l2 l3 l6 l7 : Int32) (u : Mem) (h : FX12_stands_146_b106 k106 l1 l2 l3 l6 l7 u = some (v, u')) : FrL [158] u u' := by
  unfold FX12_stands_146_b106 at h
  rcases io h with ⟨c1, h⟩ | ⟨c1, h⟩
  · skip
    cases h
    exact fr_refl _ _
  · skip
    obtain ⟨x2, gx2, h⟩ := o_bind h
    rcases oi h with ⟨c3, h⟩ | ⟨c3, h⟩
    · skip
      exact fbX12_stands_146_142 hk106 l1 l2 x2 l7 l3 (((1 : Int32) <<< (x2 &&& 31)) ^^^ (-1)) u h
    · skip
      exact fbX12_stands_146_142 hk106 l1 l2 x2 l7 l3 l3 u h
theorem flX12_stands_146_106 {v : Int32} {u' : Mem} : ∀ (n : Nat) (l1 l2 l3 l6 l7 : Int32) (u : Mem), FX12_stands_146_L106 n l1 l2 l3 l6 l7 u = some (v, u') → FrL [158] u u' := by
  intro n
  induction n with
  | zero =>
    intro l1 l2 l3 l6 l7 u h
    exact nn_ h
  | succ n ih =>
    intro l1 l2 l3 l6 l7 u h
    exact fbX12_stands_146_106 ih l1 l2 l3 l6 l7 u h
theorem fbX12_stands_146_37 {v : Int32} {u' : Mem} (l1 l2 : Int32) (u : Mem) (h : FX12_stands_146_b37 l1 l2 u = some (v, u')) : FrL [158] u u' := by
  unfold FX12_stands_146_b37 at h
  obtain ⟨u2, gu2, h⟩ := o_bind h
  refine ft (fr_mono rfl (frX12_laysStands_146 l1 u gu2)) ?_
  obtain ⟨x3, gx3, h⟩ := o_bind h
  obtain ⟨x4, gx4, h⟩ := o_bind h
  rcases io h with ⟨c5, h⟩ | ⟨c5, h⟩
  · skip
    exact flX12_stands_146_106 FU l1 l2 (((1 : Int32) <<< ((u2 147 78) &&& 31)) - 1) (-1) 0 u2 h
  · skip
    rcases oi h with ⟨c6, h⟩ | ⟨c6, h⟩
    · skip
      cases h
      exact fr_refl _ _
    · skip
      cases h
      exact fr_refl _ _
theorem frX12_stands_146 (p1 p2 : Int32) (u : Mem) {v : Int32} {u' : Mem} (h : FX12_stands_146 p1 p2 u = some (v, u')) : FrL [158] u u' := by
  unfold FX12_stands_146 at h
  obtain ⟨x1, gx1, h⟩ := o_bind h
  rcases io h with ⟨c2, h⟩ | ⟨c2, h⟩
  · skip
    cases h
    exact fr_refl _ _
  · skip
    obtain ⟨x3, gx3, h⟩ := o_bind h
    rcases oi h with ⟨c4, h⟩ | ⟨c4, h⟩
    · skip
      exact fbX12_stands_146_37 p1 p2 u h
    · skip
      obtain ⟨x5, gx5, h⟩ := o_bind h
      rcases oi h with ⟨c6, h⟩ | ⟨c6, h⟩
      · skip
        exact fbX12_stands_146_37 p1 p2 u h
      · skip
        cases h
        exact fr_refl _ _
theorem fbX8_find_19_47 {v : Int32} {u' : Mem} (l1 l2 l3 t0 : Int32) (u : Mem) (h : FX8_find_19_b47 l1 l2 l3 t0 u = some (v, u')) : FrL [19, 20, 21, 22] u u' := by
  unfold FX8_find_19_b47 at h
  rcases io h with ⟨c1, h⟩ | ⟨c1, h⟩
  · skip
    cases h
    exact fr_refl _ _
  · skip
    rcases io h with ⟨c2, h⟩ | ⟨c2, h⟩
    · skip
      cases h
      exact fr_refl _ _
    · skip
      rcases io h with ⟨c3, h⟩ | ⟨c3, h⟩
      · skip
        obtain ⟨u4, gu4, h⟩ := o_bind h
        refine ft (fr_wr rfl gu4) ?_
        obtain ⟨u5, gu5, h⟩ := o_bind h
        refine ft (fr_wr rfl gu5) ?_
        obtain ⟨u6, gu6, h⟩ := o_bind h
        refine ft (fr_wr rfl gu6) ?_
        obtain ⟨u7, gu7, h⟩ := o_bind h
        refine ft (fr_upd rfl gu7) ?_
        cases h
        exact fr_refl _ _
      · skip
        cases h
        exact fr_refl _ _
theorem frX8_find_19 (p1 p2 p3 : Int32) (u : Mem) {v : Int32} {u' : Mem} (h : FX8_find_19 p1 p2 p3 u = some (v, u')) : FrL [19, 20, 21, 22] u u' := by
  unfold FX8_find_19 at h
  rcases oi h with ⟨c1, h⟩ | ⟨c1, h⟩
  · skip
    rcases io h with ⟨c2, h⟩ | ⟨c2, h⟩
    · skip
      exact fbX8_find_19_47 p1 p2 p3 0 u h
    · skip
      rcases io h with ⟨c3, h⟩ | ⟨c3, h⟩
      · skip
        exact fbX8_find_19_47 p1 p2 p3 0 u h
      · skip
        rcases io h with ⟨c4, h⟩ | ⟨c4, h⟩
        · skip
          exact fbX8_find_19_47 p1 p2 p3 0 u h
        · skip
          rcases io h with ⟨c5, h⟩ | ⟨c5, h⟩
          · skip
            exact fbX8_find_19_47 p1 p2 p3 0 u h
          · skip
            rcases io h with ⟨c6, h⟩ | ⟨c6, h⟩
            · skip
              exact fbX8_find_19_47 p1 p2 p3 0 u h
            · skip
              rcases io h with ⟨c7, h⟩ | ⟨c7, h⟩
              · skip
                exact fbX8_find_19_47 p1 p2 p3 0 u h
              · skip
                exact fbX8_find_19_47 p1 p2 p3 1 u h
  · skip
    obtain ⟨u8, gu8, h⟩ := o_bind h
    refine ft (fr_upd rfl gu8) ?_
    cases h
    exact fr_refl _ _
theorem frX11_slipper_0 (p1 p2 p3 : Int32) (u : Mem) {v : Int32} {u' : Mem} (h : FX11_slipper_0 p1 p2 p3 u = some (v, u')) : FrL [19, 20, 21, 22] u u' := by
  unfold FX11_slipper_0 at h
  obtain ⟨x1, u2, gx1, h⟩ := o_bnd2 h
  refine ft (fr_mono rfl (frX8_find_19 p1 p2 p3 u gx1)) ?_
  cases h
  exact fr_refl _ _
theorem frX12_slipper_146 (p1 p2 p3 : Int32) (u : Mem) {v : Int32} {u' : Mem} (h : FX12_slipper_146 p1 p2 p3 u = some (v, u')) : FrL [147] u u' := by
  unfold FX12_slipper_146 at h
  rcases oi h with ⟨c1, h⟩ | ⟨c1, h⟩
  · skip
    obtain ⟨x2, gx2, h⟩ := o_bind h
    rcases io h with ⟨c3, h⟩ | ⟨c3, h⟩
    · skip
      cases h
      exact fr_refl _ _
    · skip
      obtain ⟨x4, gx4, h⟩ := o_bind h
      rcases io h with ⟨c5, h⟩ | ⟨c5, h⟩
      · skip
        cases h
        exact fr_refl _ _
      · skip
        obtain ⟨x6, gx6, h⟩ := o_bind h
        rcases io h with ⟨c7, h⟩ | ⟨c7, h⟩
        · skip
          cases h
          exact fr_refl _ _
        · skip
          rcases oi h with ⟨c8, h⟩ | ⟨c8, h⟩
          · skip
            obtain ⟨u9, gu9, h⟩ := o_bind h
            refine ft (fr_wr rfl gu9) ?_
            obtain ⟨u10, gu10, h⟩ := o_bind h
            refine ft (fr_wr rfl gu10) ?_
            obtain ⟨u11, gu11, h⟩ := o_bind h
            refine ft (fr_wr rfl gu11) ?_
            obtain ⟨u12, gu12, h⟩ := o_bind h
            refine ft (fr_upd rfl gu12) ?_
            cases h
            exact fr_refl _ _
          · skip
            cases h
            exact fr_refl _ _
  · skip
    obtain ⟨u13, gu13, h⟩ := o_bind h
    refine ft (fr_upd rfl gu13) ?_
    cases h
    exact fr_refl _ _
theorem fbJ7_fill_53178_114_5 {u' : Mem} {k5 : Int32 → Int32 → Int32 → Mem → Option Mem} (hk5 : ∀ (l1 l2 l3 : Int32) (u : Mem), k5 l1 l2 l3 u = some u' → FrL [114] u u') (l1 l2 l3 : Int32) (u : Mem) (h : FJ7_fill_53178_114_b5 k5 l1 l2 l3 u = some u') : FrL [114] u u' := by
  unfold FJ7_fill_53178_114_b5 at h
  rcases io h with ⟨c1, h⟩ | ⟨c1, h⟩
  · skip
    cases h
    exact fr_refl _ _
  · skip
    obtain ⟨u2, gu2, h⟩ := o_bind h
    refine ft (fr_wr rfl gu2) ?_
    exact hk5 l1 (l2 + 1) l3 u2 h
theorem flJ7_fill_53178_114_5 {u' : Mem} : ∀ (n : Nat) (l1 l2 l3 : Int32) (u : Mem), FJ7_fill_53178_114_L5 n l1 l2 l3 u = some u' → FrL [114] u u' := by
  intro n
  induction n with
  | zero =>
    intro l1 l2 l3 u h
    exact nn_ h
  | succ n ih =>
    intro l1 l2 l3 u h
    exact fbJ7_fill_53178_114_5 ih l1 l2 l3 u h
theorem frJ7_fill_53178_114 (p1 : Int32) (u : Mem) {u' : Mem} (h : FJ7_fill_53178_114 p1 u = some u') : FrL [114] u u' := by
  unfold FJ7_fill_53178_114 at h
  exact flJ7_fill_53178_114_5 FU p1 0 9 u h
theorem fbX7_forgotten_106_71 {v : Int32} {u' : Mem} {k62 : Int32 → Int32 → Int32 → Mem → Option (Int32 × Mem)} (hk62 : ∀ (l2 l3 l5 : Int32) (u : Mem), k62 l2 l3 l5 u = some (v, u') → FrL [14, 33, 114] u u') {k71 : Int32 → Int32 → Int32 → Int32 → Mem → Option (Int32 × Mem)} (hk71 : ∀ (l2 l3 l5 l6 : Int32) (u : Mem), k71 l2 l3 l5 l6 u = some (v, u') → FrL [14, 33, 114] u u') (l2 l3 l5 l6 : Int32) (u : Mem) (h : FX7_forgotten_106_b71 k62 k71 l2 l3 l5 l6 u = some (v, u')) : FrL [14, 33, 114] u u' := by
  unfold FX7_forgotten_106_b71 at h
  rcases io h with ⟨c1, h⟩ | ⟨c1, h⟩
  · skip
    exact hk62 l2 l3 (l5 + 1) u h
  · skip
    obtain ⟨x2, gx2, h⟩ := o_bind h
    obtain ⟨x3, gx3, h⟩ := o_bind h
    obtain ⟨x4, gx4, h⟩ := o_bind h
    obtain ⟨u5, gu5, h⟩ := o_bind h
    refine ft (fr_wr rfl gu5) ?_
    obtain ⟨x6, gx6, h⟩ := o_bind h
    obtain ⟨u7, gu7, h⟩ := o_bind h
    refine ft (fr_wr rfl gu7) ?_
    exact hk71 l2 l3 l5 (l6 + 1) u7 h
theorem flX7_forgotten_106_71 {v : Int32} {u' : Mem} {k62 : Int32 → Int32 → Int32 → Mem → Option (Int32 × Mem)} (hk62 : ∀ (l2 l3 l5 : Int32) (u : Mem), k62 l2 l3 l5 u = some (v, u') → FrL [14, 33, 114] u u') : ∀ (n : Nat) (l2 l3 l5 l6 : Int32) (u : Mem), FX7_forgotten_106_L71 k62 n l2 l3 l5 l6 u = some (v, u') → FrL [14, 33, 114] u u' := by
  intro n
  induction n with
  | zero =>
    intro l2 l3 l5 l6 u h
    exact nn_ h
  | succ n ih =>
    intro l2 l3 l5 l6 u h
    exact fbX7_forgotten_106_71 hk62 ih l2 l3 l5 l6 u h
theorem fbX7_forgotten_106_62 {v : Int32} {u' : Mem} {k62 : Int32 → Int32 → Int32 → Mem → Option (Int32 × Mem)} (hk62 : ∀ (l2 l3 l5 : Int32) (u : Mem), k62 l2 l3 l5 u = some (v, u') → FrL [14, 33, 114] u u') (l2 l3 l5 : Int32) (u : Mem) (h : FX7_forgotten_106_b62 k62 l2 l3 l5 u = some (v, u')) : FrL [14, 33, 114] u u' := by
  unfold FX7_forgotten_106_b62 at h
  rcases io h with ⟨c1, h⟩ | ⟨c1, h⟩
  · skip
    cases h
    exact fr_refl _ _
  · skip
    exact flX7_forgotten_106_71 hk62 FU l2 l3 l5 1 u h
theorem flX7_forgotten_106_62 {v : Int32} {u' : Mem} : ∀ (n : Nat) (l2 l3 l5 : Int32) (u : Mem), FX7_forgotten_106_L62 n l2 l3 l5 u = some (v, u') → FrL [14, 33, 114] u u' := by
  intro n
  induction n with
  | zero =>
    intro l2 l3 l5 u h
    exact nn_ h
  | succ n ih =>
    intro l2 l3 l5 u h
    exact fbX7_forgotten_106_62 ih l2 l3 l5 u h
theorem frX7_forgotten_106 (p1 p2 : Int32) (u : Mem) {v : Int32} {u' : Mem} (h : FX7_forgotten_106 p1 p2 u = some (v, u')) : FrL [14, 33, 114] u u' := by
  unfold FX7_forgotten_106 at h
  obtain ⟨x1, gx1, h⟩ := o_bind h
  rcases oi h with ⟨c2, h⟩ | ⟨c2, h⟩
  · skip
    obtain ⟨x3, u4, gx3, h⟩ := o_bnd2 h
    refine ft (fr_mono rfl (frX3_asked_32 p1 3 u gx3)) ?_
    obtain ⟨x5, gx5, h⟩ := o_bind h
    obtain ⟨x6, gx6, h⟩ := o_bind h
    obtain ⟨u8, gu8, h⟩ := o_bind h
    refine ft (fr_mono rfl (frJ7_fill_53178_114 0 u4 gu8)) ?_
    obtain ⟨u9, gu9, h⟩ := o_bind h
    refine ft (fr_wr rfl gu9) ?_
    exact flX7_forgotten_106_62 FU p2 x3 0 u9 h
  · skip
    cases h
    exact fr_refl _ _
theorem frX11_forgets_0 (p1 p2 : Int32) (u : Mem) {v : Int32} {u' : Mem} (h : FX11_forgets_0 p1 p2 u = some (v, u')) : FrL [14, 33, 114] u u' := by
  unfold FX11_forgets_0 at h
  obtain ⟨x1, gx1, h⟩ := o_bind h
  rcases io h with ⟨c2, h⟩ | ⟨c2, h⟩
  · skip
    cases h
    exact fr_refl _ _
  · skip
    rcases io h with ⟨c3, h⟩ | ⟨c3, h⟩
    · skip
      cases h
      exact fr_refl _ _
    · skip
      rcases io h with ⟨c4, h⟩ | ⟨c4, h⟩
      · skip
        cases h
        exact fr_refl _ _
      · skip
        obtain ⟨x5, u6, gx5, h⟩ := o_bnd2 h
        refine ft (fr_mono rfl (frX7_forgotten_106 p1 p2 u gx5)) ?_
        cases h
        exact fr_refl _ _
theorem fbX12_forgets_146_85 {v : Int32} {u' : Mem} {k76 : Int32 → Int32 → Int32 → Mem → Option (Int32 × Mem)} (hk76 : ∀ (l2 l3 l4 : Int32) (u : Mem), k76 l2 l3 l4 u = some (v, u') → FrL [155, 156, 159] u u') {k85 : Int32 → Int32 → Int32 → Int32 → Mem → Option (Int32 × Mem)} (hk85 : ∀ (l2 l3 l4 l5 : Int32) (u : Mem), k85 l2 l3 l4 l5 u = some (v, u') → FrL [155, 156, 159] u u') (l2 l3 l4 l5 : Int32) (u : Mem) (h : FX12_forgets_146_b85 k76 k85 l2 l3 l4 l5 u = some (v, u')) : FrL [155, 156, 159] u u' := by
  unfold FX12_forgets_146_b85 at h
  rcases io h with ⟨c1, h⟩ | ⟨c1, h⟩
  · skip
    exact hk76 l2 l3 (l4 + 1) u h
  · skip
    obtain ⟨x2, gx2, h⟩ := o_bind h
    obtain ⟨x3, gx3, h⟩ := o_bind h
    obtain ⟨x4, gx4, h⟩ := o_bind h
    obtain ⟨x5, gx5, h⟩ := o_bind h
    obtain ⟨x6, gx6, h⟩ := o_bind h
    obtain ⟨x7, gx7, h⟩ := o_bind h
    obtain ⟨u8, gu8, h⟩ := o_bind h
    refine ft (fr_wr rfl gu8) ?_
    obtain ⟨x9, gx9, h⟩ := o_bind h
    obtain ⟨u10, gu10, h⟩ := o_bind h
    refine ft (fr_wr rfl gu10) ?_
    exact hk85 l2 l3 l4 (l5 + 1) u10 h
theorem flX12_forgets_146_85 {v : Int32} {u' : Mem} {k76 : Int32 → Int32 → Int32 → Mem → Option (Int32 × Mem)} (hk76 : ∀ (l2 l3 l4 : Int32) (u : Mem), k76 l2 l3 l4 u = some (v, u') → FrL [155, 156, 159] u u') : ∀ (n : Nat) (l2 l3 l4 l5 : Int32) (u : Mem), FX12_forgets_146_L85 k76 n l2 l3 l4 l5 u = some (v, u') → FrL [155, 156, 159] u u' := by
  intro n
  induction n with
  | zero =>
    intro l2 l3 l4 l5 u h
    exact nn_ h
  | succ n ih =>
    intro l2 l3 l4 l5 u h
    exact fbX12_forgets_146_85 hk76 ih l2 l3 l4 l5 u h
theorem fbX12_forgets_146_76 {v : Int32} {u' : Mem} {k76 : Int32 → Int32 → Int32 → Mem → Option (Int32 × Mem)} (hk76 : ∀ (l2 l3 l4 : Int32) (u : Mem), k76 l2 l3 l4 u = some (v, u') → FrL [155, 156, 159] u u') (l2 l3 l4 : Int32) (u : Mem) (h : FX12_forgets_146_b76 k76 l2 l3 l4 u = some (v, u')) : FrL [155, 156, 159] u u' := by
  unfold FX12_forgets_146_b76 at h
  rcases io h with ⟨c1, h⟩ | ⟨c1, h⟩
  · skip
    cases h
    exact fr_refl _ _
  · skip
    exact flX12_forgets_146_85 hk76 FU l2 l3 l4 1 u h
theorem flX12_forgets_146_76 {v : Int32} {u' : Mem} : ∀ (n : Nat) (l2 l3 l4 : Int32) (u : Mem), FX12_forgets_146_L76 n l2 l3 l4 u = some (v, u') → FrL [155, 156, 159] u u' := by
  intro n
  induction n with
  | zero =>
    intro l2 l3 l4 u h
    exact nn_ h
  | succ n ih =>
    intro l2 l3 l4 u h
    exact fbX12_forgets_146_76 ih l2 l3 l4 u h
theorem fbX12_forgets_146_66 {v : Int32} {u' : Mem} {k29 : Int32 → Int32 → Int32 → Int32 → Mem → Option (Int32 × Mem)} (hk29 : ∀ (l1 l2 l3 l4 : Int32) (u : Mem), k29 l1 l2 l3 l4 u = some (v, u') → FrL [155, 156, 159] u u') (l1 l2 l3 l4 t1 t2 : Int32) (u : Mem) (h : FX12_forgets_146_b66 k29 l1 l2 l3 l4 t1 t2 u = some (v, u')) : FrL [155, 156, 159] u u' := by
  unfold FX12_forgets_146_b66 at h
  obtain ⟨u1, gu1, h⟩ := o_bind h
  refine ft (fr_wr rfl gu1) ?_
  exact hk29 l1 l2 l3 (l4 + 1) u1 h
theorem fbX12_forgets_146_29 {v : Int32} {u' : Mem} {k29 : Int32 → Int32 → Int32 → Int32 → Mem → Option (Int32 × Mem)} (hk29 : ∀ (l1 l2 l3 l4 : Int32) (u : Mem), k29 l1 l2 l3 l4 u = some (v, u') → FrL [155, 156, 159] u u') (l1 l2 l3 l4 : Int32) (u : Mem) (h : FX12_forgets_146_b29 k29 l1 l2 l3 l4 u = some (v, u')) : FrL [155, 156, 159] u u' := by
  unfold FX12_forgets_146_b29 at h
  rcases io h with ⟨c1, h⟩ | ⟨c1, h⟩
  · skip
    exact flX12_forgets_146_76 FU l2 l3 0 u h
  · skip
    obtain ⟨x2, gx2, h⟩ := o_bind h
    obtain ⟨x3, gx3, h⟩ := o_bind h
    rcases oi h with ⟨c4, h⟩ | ⟨c4, h⟩
    · skip
      exact fbX12_forgets_146_66 hk29 l1 l2 l3 l4 l4 0 u h
    · skip
      exact fbX12_forgets_146_66 hk29 l1 l2 l3 l4 l4 1000000 u h
theorem flX12_forgets_146_29 {v : Int32} {u' : Mem} : ∀ (n : Nat) (l1 l2 l3 l4 : Int32) (u : Mem), FX12_forgets_146_L29 n l1 l2 l3 l4 u = some (v, u') → FrL [155, 156, 159] u u' := by
  intro n
  induction n with
  | zero =>
    intro l1 l2 l3 l4 u h
    exact nn_ h
  | succ n ih =>
    intro l1 l2 l3 l4 u h
    exact fbX12_forgets_146_29 ih l1 l2 l3 l4 u h
theorem frX12_forgets_146 (p1 p2 : Int32) (u : Mem) {v : Int32} {u' : Mem} (h : FX12_forgets_146 p1 p2 u = some (v, u')) : FrL [155, 156, 159] u u' := by
  unfold FX12_forgets_146 at h
  obtain ⟨x1, gx1, h⟩ := o_bind h
  rcases io h with ⟨c2, h⟩ | ⟨c2, h⟩
  · skip
    cases h
    exact fr_refl _ _
  · skip
    obtain ⟨x3, gx3, h⟩ := o_bind h
    rcases oi h with ⟨c4, h⟩ | ⟨c4, h⟩
    · skip
      obtain ⟨x5, u6, gx5, h⟩ := o_bnd2 h
      refine ft (fr_mono rfl (frX12_fadeOf_146 p1 u gx5)) ?_
      exact flX12_forgets_146_29 FU p1 p2 x5 0 u6 h
    · skip
      cases h
      exact fr_refl _ _
theorem frX0_become_23_54 (u : Mem) {u' : Mem} (h : FX0_become_23_54 u = some u') : FrL [23, 24, 25, 26, 27, 28, 29] u u' := by
  unfold FX0_become_23_54 at h
  obtain ⟨u1, gu1, h⟩ := o_bind h
  refine ft (fr_cp rfl gu1) ?_
  obtain ⟨u2, gu2, h⟩ := o_bind h
  refine ft (fr_cp rfl gu2) ?_
  obtain ⟨u3, gu3, h⟩ := o_bind h
  refine ft (fr_cp rfl gu3) ?_
  obtain ⟨u4, gu4, h⟩ := o_bind h
  refine ft (fr_cp rfl gu4) ?_
  obtain ⟨u5, gu5, h⟩ := o_bind h
  refine ft (fr_cp rfl gu5) ?_
  obtain ⟨u6, gu6, h⟩ := o_bind h
  refine ft (fr_cp rfl gu6) ?_
  obtain ⟨u7, gu7, h⟩ := o_bind h
  refine ft (fr_upd rfl gu7) ?_
  obtain ⟨u8, gu8, h⟩ := o_bind h
  refine ft (fr_upd rfl gu8) ?_
  obtain ⟨u9, gu9, h⟩ := o_bind h
  refine ft (fr_upd rfl gu9) ?_
  obtain ⟨u10, gu10, h⟩ := o_bind h
  refine ft (fr_upd rfl gu10) ?_
  cases h
  exact fr_refl _ _
theorem frX0_become_23_61 (u : Mem) {u' : Mem} (h : FX0_become_23_61 u = some u') : FrL [23, 24, 25, 26, 27, 28, 29] u u' := by
  unfold FX0_become_23_61 at h
  obtain ⟨u1, gu1, h⟩ := o_bind h
  refine ft (fr_cp rfl gu1) ?_
  obtain ⟨u2, gu2, h⟩ := o_bind h
  refine ft (fr_cp rfl gu2) ?_
  obtain ⟨u3, gu3, h⟩ := o_bind h
  refine ft (fr_cp rfl gu3) ?_
  obtain ⟨u4, gu4, h⟩ := o_bind h
  refine ft (fr_cp rfl gu4) ?_
  obtain ⟨u5, gu5, h⟩ := o_bind h
  refine ft (fr_cp rfl gu5) ?_
  obtain ⟨u6, gu6, h⟩ := o_bind h
  refine ft (fr_cp rfl gu6) ?_
  obtain ⟨u7, gu7, h⟩ := o_bind h
  refine ft (fr_upd rfl gu7) ?_
  obtain ⟨u8, gu8, h⟩ := o_bind h
  refine ft (fr_upd rfl gu8) ?_
  obtain ⟨u9, gu9, h⟩ := o_bind h
  refine ft (fr_upd rfl gu9) ?_
  obtain ⟨u10, gu10, h⟩ := o_bind h
  refine ft (fr_upd rfl gu10) ?_
  cases h
  exact fr_refl _ _
theorem frX0_become_23_68 (u : Mem) {u' : Mem} (h : FX0_become_23_68 u = some u') : FrL [23, 24, 25, 26, 27, 28, 29] u u' := by
  unfold FX0_become_23_68 at h
  obtain ⟨u1, gu1, h⟩ := o_bind h
  refine ft (fr_cp rfl gu1) ?_
  obtain ⟨u2, gu2, h⟩ := o_bind h
  refine ft (fr_cp rfl gu2) ?_
  obtain ⟨u3, gu3, h⟩ := o_bind h
  refine ft (fr_cp rfl gu3) ?_
  obtain ⟨u4, gu4, h⟩ := o_bind h
  refine ft (fr_cp rfl gu4) ?_
  obtain ⟨u5, gu5, h⟩ := o_bind h
  refine ft (fr_cp rfl gu5) ?_
  obtain ⟨u6, gu6, h⟩ := o_bind h
  refine ft (fr_cp rfl gu6) ?_
  obtain ⟨u7, gu7, h⟩ := o_bind h
  refine ft (fr_upd rfl gu7) ?_
  obtain ⟨u8, gu8, h⟩ := o_bind h
  refine ft (fr_upd rfl gu8) ?_
  obtain ⟨u9, gu9, h⟩ := o_bind h
  refine ft (fr_upd rfl gu9) ?_
  obtain ⟨u10, gu10, h⟩ := o_bind h
  refine ft (fr_upd rfl gu10) ?_
  cases h
  exact fr_refl _ _
theorem frX0_become_23_75 (u : Mem) {u' : Mem} (h : FX0_become_23_75 u = some u') : FrL [23, 24, 25, 26, 27, 28, 29] u u' := by
  unfold FX0_become_23_75 at h
  obtain ⟨u1, gu1, h⟩ := o_bind h
  refine ft (fr_cp rfl gu1) ?_
  obtain ⟨u2, gu2, h⟩ := o_bind h
  refine ft (fr_cp rfl gu2) ?_
  obtain ⟨u3, gu3, h⟩ := o_bind h
  refine ft (fr_cp rfl gu3) ?_
  obtain ⟨u4, gu4, h⟩ := o_bind h
  refine ft (fr_cp rfl gu4) ?_
  obtain ⟨u5, gu5, h⟩ := o_bind h
  refine ft (fr_cp rfl gu5) ?_
  obtain ⟨u6, gu6, h⟩ := o_bind h
  refine ft (fr_cp rfl gu6) ?_
  obtain ⟨u7, gu7, h⟩ := o_bind h
  refine ft (fr_upd rfl gu7) ?_
  obtain ⟨u8, gu8, h⟩ := o_bind h
  refine ft (fr_upd rfl gu8) ?_
  obtain ⟨u9, gu9, h⟩ := o_bind h
  refine ft (fr_upd rfl gu9) ?_
  obtain ⟨u10, gu10, h⟩ := o_bind h
  refine ft (fr_upd rfl gu10) ?_
  cases h
  exact fr_refl _ _
theorem frX0_become_23_82 (u : Mem) {u' : Mem} (h : FX0_become_23_82 u = some u') : FrL [23, 24, 25, 26, 27, 28, 29] u u' := by
  unfold FX0_become_23_82 at h
  obtain ⟨u1, gu1, h⟩ := o_bind h
  refine ft (fr_cp rfl gu1) ?_
  obtain ⟨u2, gu2, h⟩ := o_bind h
  refine ft (fr_cp rfl gu2) ?_
  obtain ⟨u3, gu3, h⟩ := o_bind h
  refine ft (fr_cp rfl gu3) ?_
  obtain ⟨u4, gu4, h⟩ := o_bind h
  refine ft (fr_cp rfl gu4) ?_
  obtain ⟨u5, gu5, h⟩ := o_bind h
  refine ft (fr_cp rfl gu5) ?_
  obtain ⟨u6, gu6, h⟩ := o_bind h
  refine ft (fr_cp rfl gu6) ?_
  obtain ⟨u7, gu7, h⟩ := o_bind h
  refine ft (fr_upd rfl gu7) ?_
  obtain ⟨u8, gu8, h⟩ := o_bind h
  refine ft (fr_upd rfl gu8) ?_
  obtain ⟨u9, gu9, h⟩ := o_bind h
  refine ft (fr_upd rfl gu9) ?_
  obtain ⟨u10, gu10, h⟩ := o_bind h
  refine ft (fr_upd rfl gu10) ?_
  cases h
  exact fr_refl _ _
theorem frX0_become_23_89 (u : Mem) {u' : Mem} (h : FX0_become_23_89 u = some u') : FrL [23, 24, 25, 26, 27, 28, 29] u u' := by
  unfold FX0_become_23_89 at h
  obtain ⟨u1, gu1, h⟩ := o_bind h
  refine ft (fr_cp rfl gu1) ?_
  obtain ⟨u2, gu2, h⟩ := o_bind h
  refine ft (fr_cp rfl gu2) ?_
  obtain ⟨u3, gu3, h⟩ := o_bind h
  refine ft (fr_cp rfl gu3) ?_
  obtain ⟨u4, gu4, h⟩ := o_bind h
  refine ft (fr_cp rfl gu4) ?_
  obtain ⟨u5, gu5, h⟩ := o_bind h
  refine ft (fr_cp rfl gu5) ?_
  obtain ⟨u6, gu6, h⟩ := o_bind h
  refine ft (fr_cp rfl gu6) ?_
  obtain ⟨u7, gu7, h⟩ := o_bind h
  refine ft (fr_upd rfl gu7) ?_
  obtain ⟨u8, gu8, h⟩ := o_bind h
  refine ft (fr_upd rfl gu8) ?_
  obtain ⟨u9, gu9, h⟩ := o_bind h
  refine ft (fr_upd rfl gu9) ?_
  obtain ⟨u10, gu10, h⟩ := o_bind h
  refine ft (fr_upd rfl gu10) ?_
  cases h
  exact fr_refl _ _
theorem frX10_goBack_52_23 (u : Mem) {v : Int32} {u' : Mem} (h : FX10_goBack_52_23 u = some (v, u')) : FrL [23, 24, 25, 26, 27, 28, 29, 52] u u' := by
  unfold FX10_goBack_52_23 at h
  obtain ⟨x1, gx1, h⟩ := o_bind h
  rcases io h with ⟨c2, h⟩ | ⟨c2, h⟩
  · skip
    cases h
    exact fr_refl _ _
  · skip
    rcases io h with ⟨c3, h⟩ | ⟨c3, h⟩
    · skip
      cases h
      exact fr_refl _ _
    · skip
      rcases io h with ⟨c4, h⟩ | ⟨c4, h⟩
      · skip
        cases h
        exact fr_refl _ _
      · skip
        by_cases c5 : x1 = 0
        · have h := it h c5
          obtain ⟨u7, gu7, h⟩ := o_bind h
          refine ft (fr_mono rfl (frX0_become_23_54 u gu7)) ?_
          obtain ⟨u8, gu8, h⟩ := o_bind h
          refine ft (fr_upd rfl gu8) ?_
          obtain ⟨u9, gu9, h⟩ := o_bind h
          refine ft (fr_upd rfl gu9) ?_
          cases h
          exact fr_refl _ _
        · have h := ie h c5
          by_cases c10 : x1 = 1
          · have h := it h c10
            obtain ⟨u12, gu12, h⟩ := o_bind h
            refine ft (fr_mono rfl (frX0_become_23_61 u gu12)) ?_
            obtain ⟨u13, gu13, h⟩ := o_bind h
            refine ft (fr_upd rfl gu13) ?_
            obtain ⟨u14, gu14, h⟩ := o_bind h
            refine ft (fr_upd rfl gu14) ?_
            cases h
            exact fr_refl _ _
          · have h := ie h c10
            by_cases c15 : x1 = 2
            · have h := it h c15
              obtain ⟨u17, gu17, h⟩ := o_bind h
              refine ft (fr_mono rfl (frX0_become_23_68 u gu17)) ?_
              obtain ⟨u18, gu18, h⟩ := o_bind h
              refine ft (fr_upd rfl gu18) ?_
              obtain ⟨u19, gu19, h⟩ := o_bind h
              refine ft (fr_upd rfl gu19) ?_
              cases h
              exact fr_refl _ _
            · have h := ie h c15
              by_cases c20 : x1 = 3
              · have h := it h c20
                obtain ⟨u22, gu22, h⟩ := o_bind h
                refine ft (fr_mono rfl (frX0_become_23_75 u gu22)) ?_
                obtain ⟨u23, gu23, h⟩ := o_bind h
                refine ft (fr_upd rfl gu23) ?_
                obtain ⟨u24, gu24, h⟩ := o_bind h
                refine ft (fr_upd rfl gu24) ?_
                cases h
                exact fr_refl _ _
              · have h := ie h c20
                by_cases c25 : x1 = 4
                · have h := it h c25
                  obtain ⟨u27, gu27, h⟩ := o_bind h
                  refine ft (fr_mono rfl (frX0_become_23_82 u gu27)) ?_
                  obtain ⟨u28, gu28, h⟩ := o_bind h
                  refine ft (fr_upd rfl gu28) ?_
                  obtain ⟨u29, gu29, h⟩ := o_bind h
                  refine ft (fr_upd rfl gu29) ?_
                  cases h
                  exact fr_refl _ _
                · have h := ie h c25
                  by_cases c30 : x1 = 5
                  · have h := it h c30
                    obtain ⟨u32, gu32, h⟩ := o_bind h
                    refine ft (fr_mono rfl (frX0_become_23_89 u gu32)) ?_
                    obtain ⟨u33, gu33, h⟩ := o_bind h
                    refine ft (fr_upd rfl gu33) ?_
                    obtain ⟨u34, gu34, h⟩ := o_bind h
                    refine ft (fr_upd rfl gu34) ?_
                    cases h
                    exact fr_refl _ _
                  · have h := ie h c30
                    cases h
theorem frX11_undo_0 (u : Mem) {v : Int32} {u' : Mem} (h : FX11_undo_0 u = some (v, u')) : FrL [23, 24, 25, 26, 27, 28, 29, 52] u u' := by
  unfold FX11_undo_0 at h
  obtain ⟨x1, u2, gx1, h⟩ := o_bnd2 h
  refine ft (fr_mono rfl (frX10_goBack_52_23 u gx1)) ?_
  obtain ⟨x3, gx3, h⟩ := o_bind h
  cases h
  exact fr_refl _ _
theorem fbX12_undo_146_21 {v : Int32} {u' : Mem} {k21 : Int32 → Mem → Option (Int32 × Mem)} (hk21 : ∀ (l1 : Int32) (u : Mem), k21 l1 u = some (v, u') → FrL [146, 147] u u') (l1 : Int32) (u : Mem) (h : FX12_undo_146_b21 k21 l1 u = some (v, u')) : FrL [146, 147] u u' := by
  unfold FX12_undo_146_b21 at h
  rcases io h with ⟨c1, h⟩ | ⟨c1, h⟩
  · skip
    cases h
    exact fr_refl _ _
  · skip
    obtain ⟨x2, gx2, h⟩ := o_bind h
    obtain ⟨u3, gu3, h⟩ := o_bind h
    refine ft (fr_wr rfl gu3) ?_
    exact hk21 (l1 + 1) u3 h
theorem flX12_undo_146_21 {v : Int32} {u' : Mem} : ∀ (n : Nat) (l1 : Int32) (u : Mem), FX12_undo_146_L21 n l1 u = some (v, u') → FrL [146, 147] u u' := by
  intro n
  induction n with
  | zero =>
    intro l1 u h
    exact nn_ h
  | succ n ih =>
    intro l1 u h
    exact fbX12_undo_146_21 ih l1 u h
theorem frX12_undo_146 (u : Mem) {v : Int32} {u' : Mem} (h : FX12_undo_146 u = some (v, u')) : FrL [146, 147] u u' := by
  unfold FX12_undo_146 at h
  rcases oi h with ⟨c1, h⟩ | ⟨c1, h⟩
  · skip
    obtain ⟨u2, gu2, h⟩ := o_bind h
    refine ft (fr_upd rfl gu2) ?_
    exact flX12_undo_146_21 FU 0 u2 h
  · skip
    cases h
    exact fr_refl _ _
theorem frX4_become_8_122 (u : Mem) {u' : Mem} (h : FX4_become_8_122 u = some u') : FrL [8, 9, 10, 11, 12, 13] u u' := by
  unfold FX4_become_8_122 at h
  obtain ⟨u1, gu1, h⟩ := o_bind h
  refine ft (fr_cp rfl gu1) ?_
  obtain ⟨u2, gu2, h⟩ := o_bind h
  refine ft (fr_cp rfl gu2) ?_
  obtain ⟨u3, gu3, h⟩ := o_bind h
  refine ft (fr_cp rfl gu3) ?_
  obtain ⟨u4, gu4, h⟩ := o_bind h
  refine ft (fr_cp rfl gu4) ?_
  obtain ⟨u5, gu5, h⟩ := o_bind h
  refine ft (fr_cp rfl gu5) ?_
  obtain ⟨u6, gu6, h⟩ := o_bind h
  refine ft (fr_upd rfl gu6) ?_
  obtain ⟨u7, gu7, h⟩ := o_bind h
  refine ft (fr_upd rfl gu7) ?_
  cases h
  exact fr_refl _ _
theorem frX5_become_15_129 (u : Mem) {u' : Mem} (h : FX5_become_15_129 u = some u') : FrL [15, 16, 17, 18] u u' := by
  unfold FX5_become_15_129 at h
  obtain ⟨u1, gu1, h⟩ := o_bind h
  refine ft (fr_cp rfl gu1) ?_
  obtain ⟨u2, gu2, h⟩ := o_bind h
  refine ft (fr_cp rfl gu2) ?_
  obtain ⟨u3, gu3, h⟩ := o_bind h
  refine ft (fr_cp rfl gu3) ?_
  obtain ⟨u4, gu4, h⟩ := o_bind h
  refine ft (fr_upd rfl gu4) ?_
  cases h
  exact fr_refl _ _
theorem frX8_become_19_133 (u : Mem) {u' : Mem} (h : FX8_become_19_133 u = some u') : FrL [19, 20, 21, 22] u u' := by
  unfold FX8_become_19_133 at h
  obtain ⟨u1, gu1, h⟩ := o_bind h
  refine ft (fr_cp rfl gu1) ?_
  obtain ⟨u2, gu2, h⟩ := o_bind h
  refine ft (fr_cp rfl gu2) ?_
  obtain ⟨u3, gu3, h⟩ := o_bind h
  refine ft (fr_cp rfl gu3) ?_
  obtain ⟨u4, gu4, h⟩ := o_bind h
  refine ft (fr_upd rfl gu4) ?_
  cases h
  exact fr_refl _ _
theorem frX9_become_1_115 (u : Mem) {u' : Mem} (h : FX9_become_1_115 u = some u') : FrL [1, 2, 3, 4, 5, 6, 7, 8, 9, 10, 11, 12, 13, 15, 16, 17, 18, 19, 20, 21, 22] u u' := by
  unfold FX9_become_1_115 at h
  obtain ⟨u1, gu1, h⟩ := o_bind h
  refine ft (fr_upd rfl gu1) ?_
  obtain ⟨u2, gu2, h⟩ := o_bind h
  refine ft (fr_cp rfl gu2) ?_
  obtain ⟨u3, gu3, h⟩ := o_bind h
  refine ft (fr_cp rfl gu3) ?_
  obtain ⟨u4, gu4, h⟩ := o_bind h
  refine ft (fr_cp rfl gu4) ?_
  obtain ⟨u5, gu5, h⟩ := o_bind h
  refine ft (fr_cp rfl gu5) ?_
  obtain ⟨u6, gu6, h⟩ := o_bind h
  refine ft (fr_cp rfl gu6) ?_
  obtain ⟨u7, gu7, h⟩ := o_bind h
  refine ft (fr_cp rfl gu7) ?_
  obtain ⟨u8, gu8, h⟩ := o_bind h
  refine ft (fr_upd rfl gu8) ?_
  obtain ⟨u9, gu9, h⟩ := o_bind h
  refine ft (fr_upd rfl gu9) ?_
  obtain ⟨u10, gu10, h⟩ := o_bind h
  refine ft (fr_upd rfl gu10) ?_
  obtain ⟨u11, gu11, h⟩ := o_bind h
  refine ft (fr_upd rfl gu11) ?_
  obtain ⟨u12, gu12, h⟩ := o_bind h
  refine ft (fr_upd rfl gu12) ?_
  obtain ⟨u13, gu13, h⟩ := o_bind h
  refine ft (fr_upd rfl gu13) ?_
  obtain ⟨u15, gu15, h⟩ := o_bind h
  refine ft (fr_mono rfl (frX4_become_8_122 u13 gu15)) ?_
  obtain ⟨u17, gu17, h⟩ := o_bind h
  refine ft (fr_mono rfl (frX5_become_15_129 u15 gu17)) ?_
  obtain ⟨u19, gu19, h⟩ := o_bind h
  refine ft (fr_mono rfl (frX8_become_19_133 u17 gu19)) ?_
  cases h
  exact fr_refl _ _
theorem frX0_become_23_137 (u : Mem) {u' : Mem} (h : FX0_become_23_137 u = some u') : FrL [23, 24, 25, 26, 27, 28, 29] u u' := by
  unfold FX0_become_23_137 at h
  obtain ⟨u1, gu1, h⟩ := o_bind h
  refine ft (fr_cp rfl gu1) ?_
  obtain ⟨u2, gu2, h⟩ := o_bind h
  refine ft (fr_cp rfl gu2) ?_
  obtain ⟨u3, gu3, h⟩ := o_bind h
  refine ft (fr_cp rfl gu3) ?_
  obtain ⟨u4, gu4, h⟩ := o_bind h
  refine ft (fr_cp rfl gu4) ?_
  obtain ⟨u5, gu5, h⟩ := o_bind h
  refine ft (fr_cp rfl gu5) ?_
  obtain ⟨u6, gu6, h⟩ := o_bind h
  refine ft (fr_cp rfl gu6) ?_
  obtain ⟨u7, gu7, h⟩ := o_bind h
  refine ft (fr_upd rfl gu7) ?_
  obtain ⟨u8, gu8, h⟩ := o_bind h
  refine ft (fr_upd rfl gu8) ?_
  obtain ⟨u9, gu9, h⟩ := o_bind h
  refine ft (fr_upd rfl gu9) ?_
  obtain ⟨u10, gu10, h⟩ := o_bind h
  refine ft (fr_upd rfl gu10) ?_
  cases h
  exact fr_refl _ _
theorem frX1_become_30_144 (u : Mem) {u' : Mem} (h : FX1_become_30_144 u = some u') : FrL [31] u u' := by
  unfold FX1_become_30_144 at h
  obtain ⟨u1, gu1, h⟩ := o_bind h
  refine ft (fr_cp rfl gu1) ?_
  cases h
  exact fr_refl _ _
theorem frX4_become_122_8 (u : Mem) {u' : Mem} (h : FX4_become_122_8 u = some u') : FrL [122, 123, 124, 125, 126, 127] u u' := by
  unfold FX4_become_122_8 at h
  obtain ⟨u1, gu1, h⟩ := o_bind h
  refine ft (fr_cp rfl gu1) ?_
  obtain ⟨u2, gu2, h⟩ := o_bind h
  refine ft (fr_cp rfl gu2) ?_
  obtain ⟨u3, gu3, h⟩ := o_bind h
  refine ft (fr_cp rfl gu3) ?_
  obtain ⟨u4, gu4, h⟩ := o_bind h
  refine ft (fr_cp rfl gu4) ?_
  obtain ⟨u5, gu5, h⟩ := o_bind h
  refine ft (fr_cp rfl gu5) ?_
  obtain ⟨u6, gu6, h⟩ := o_bind h
  refine ft (fr_upd rfl gu6) ?_
  obtain ⟨u7, gu7, h⟩ := o_bind h
  refine ft (fr_upd rfl gu7) ?_
  cases h
  exact fr_refl _ _
theorem frX5_become_129_15 (u : Mem) {u' : Mem} (h : FX5_become_129_15 u = some u') : FrL [129, 130, 131, 132] u u' := by
  unfold FX5_become_129_15 at h
  obtain ⟨u1, gu1, h⟩ := o_bind h
  refine ft (fr_cp rfl gu1) ?_
  obtain ⟨u2, gu2, h⟩ := o_bind h
  refine ft (fr_cp rfl gu2) ?_
  obtain ⟨u3, gu3, h⟩ := o_bind h
  refine ft (fr_cp rfl gu3) ?_
  obtain ⟨u4, gu4, h⟩ := o_bind h
  refine ft (fr_upd rfl gu4) ?_
  cases h
  exact fr_refl _ _
theorem frX8_become_133_19 (u : Mem) {u' : Mem} (h : FX8_become_133_19 u = some u') : FrL [133, 134, 135, 136] u u' := by
  unfold FX8_become_133_19 at h
  obtain ⟨u1, gu1, h⟩ := o_bind h
  refine ft (fr_cp rfl gu1) ?_
  obtain ⟨u2, gu2, h⟩ := o_bind h
  refine ft (fr_cp rfl gu2) ?_
  obtain ⟨u3, gu3, h⟩ := o_bind h
  refine ft (fr_cp rfl gu3) ?_
  obtain ⟨u4, gu4, h⟩ := o_bind h
  refine ft (fr_upd rfl gu4) ?_
  cases h
  exact fr_refl _ _
theorem frX9_become_115_1 (u : Mem) {u' : Mem} (h : FX9_become_115_1 u = some u') : FrL [115, 116, 117, 118, 119, 120, 121, 122, 123, 124, 125, 126, 127, 129, 130, 131, 132, 133, 134, 135, 136] u u' := by
  unfold FX9_become_115_1 at h
  obtain ⟨u1, gu1, h⟩ := o_bind h
  refine ft (fr_upd rfl gu1) ?_
  obtain ⟨u2, gu2, h⟩ := o_bind h
  refine ft (fr_cp rfl gu2) ?_
  obtain ⟨u3, gu3, h⟩ := o_bind h
  refine ft (fr_cp rfl gu3) ?_
  obtain ⟨u4, gu4, h⟩ := o_bind h
  refine ft (fr_cp rfl gu4) ?_
  obtain ⟨u5, gu5, h⟩ := o_bind h
  refine ft (fr_cp rfl gu5) ?_
  obtain ⟨u6, gu6, h⟩ := o_bind h
  refine ft (fr_cp rfl gu6) ?_
  obtain ⟨u7, gu7, h⟩ := o_bind h
  refine ft (fr_cp rfl gu7) ?_
  obtain ⟨u8, gu8, h⟩ := o_bind h
  refine ft (fr_upd rfl gu8) ?_
  obtain ⟨u9, gu9, h⟩ := o_bind h
  refine ft (fr_upd rfl gu9) ?_
  obtain ⟨u10, gu10, h⟩ := o_bind h
  refine ft (fr_upd rfl gu10) ?_
  obtain ⟨u11, gu11, h⟩ := o_bind h
  refine ft (fr_upd rfl gu11) ?_
  obtain ⟨u12, gu12, h⟩ := o_bind h
  refine ft (fr_upd rfl gu12) ?_
  obtain ⟨u13, gu13, h⟩ := o_bind h
  refine ft (fr_upd rfl gu13) ?_
  obtain ⟨u15, gu15, h⟩ := o_bind h
  refine ft (fr_mono rfl (frX4_become_122_8 u13 gu15)) ?_
  obtain ⟨u17, gu17, h⟩ := o_bind h
  refine ft (fr_mono rfl (frX5_become_129_15 u15 gu17)) ?_
  obtain ⟨u19, gu19, h⟩ := o_bind h
  refine ft (fr_mono rfl (frX8_become_133_19 u17 gu19)) ?_
  cases h
  exact fr_refl _ _
theorem frX0_become_137_23 (u : Mem) {u' : Mem} (h : FX0_become_137_23 u = some u') : FrL [137, 138, 139, 140, 141, 142, 143] u u' := by
  unfold FX0_become_137_23 at h
  obtain ⟨u1, gu1, h⟩ := o_bind h
  refine ft (fr_cp rfl gu1) ?_
  obtain ⟨u2, gu2, h⟩ := o_bind h
  refine ft (fr_cp rfl gu2) ?_
  obtain ⟨u3, gu3, h⟩ := o_bind h
  refine ft (fr_cp rfl gu3) ?_
  obtain ⟨u4, gu4, h⟩ := o_bind h
  refine ft (fr_cp rfl gu4) ?_
  obtain ⟨u5, gu5, h⟩ := o_bind h
  refine ft (fr_cp rfl gu5) ?_
  obtain ⟨u6, gu6, h⟩ := o_bind h
  refine ft (fr_cp rfl gu6) ?_
  obtain ⟨u7, gu7, h⟩ := o_bind h
  refine ft (fr_upd rfl gu7) ?_
  obtain ⟨u8, gu8, h⟩ := o_bind h
  refine ft (fr_upd rfl gu8) ?_
  obtain ⟨u9, gu9, h⟩ := o_bind h
  refine ft (fr_upd rfl gu9) ?_
  obtain ⟨u10, gu10, h⟩ := o_bind h
  refine ft (fr_upd rfl gu10) ?_
  cases h
  exact fr_refl _ _
theorem frX1_become_144_30 (u : Mem) {u' : Mem} (h : FX1_become_144_30 u = some u') : FrL [145] u u' := by
  unfold FX1_become_144_30 at h
  obtain ⟨u1, gu1, h⟩ := o_bind h
  refine ft (fr_cp rfl gu1) ?_
  cases h
  exact fr_refl _ _
theorem fbX11_image_0_92 {v : Int32} {u' : Mem} (u : Mem) (h : FX11_image_0_b92 u = some (v, u')) : FrL [0, 1, 2, 3, 4, 5, 6, 7, 8, 9, 10, 11, 12, 13, 15, 16, 17, 18, 19, 20, 21, 22, 23, 24, 25, 26, 27, 28, 29, 31, 52, 115, 116, 117, 118, 119, 120, 121, 122, 123, 124, 125, 126, 127, 129, 130, 131, 132, 133, 134, 135, 136, 137, 138, 139, 140, 141, 142, 143, 145] u u' := by
  unfold FX11_image_0_b92 at h
  obtain ⟨x1, gx1, h⟩ := o_bind h
  cases h
  exact fr_refl _ _
theorem frX11_image_0 (p1 : Int32) (u : Mem) {v : Int32} {u' : Mem} (h : FX11_image_0 p1 u = some (v, u')) : FrL [0, 1, 2, 3, 4, 5, 6, 7, 8, 9, 10, 11, 12, 13, 15, 16, 17, 18, 19, 20, 21, 22, 23, 24, 25, 26, 27, 28, 29, 31, 52, 115, 116, 117, 118, 119, 120, 121, 122, 123, 124, 125, 126, 127, 129, 130, 131, 132, 133, 134, 135, 136, 137, 138, 139, 140, 141, 142, 143, 145] u u' := by
  unfold FX11_image_0 at h
  rcases io h with ⟨c1, h⟩ | ⟨c1, h⟩
  · skip
    rcases io h with ⟨c2, h⟩ | ⟨c2, h⟩
    · skip
      exact fbX11_image_0_92 u h
    · skip
      obtain ⟨u4, gu4, h⟩ := o_bind h
      refine ft (fr_mono rfl (frX9_become_1_115 u gu4)) ?_
      obtain ⟨u6, gu6, h⟩ := o_bind h
      refine ft (fr_mono rfl (frX0_become_23_137 u4 gu6)) ?_
      obtain ⟨u8, gu8, h⟩ := o_bind h
      refine ft (fr_mono rfl (frX1_become_30_144 u6 gu8)) ?_
      obtain ⟨u10, gu10, h⟩ := o_bind h
      refine ft (fr_mono rfl (frX10_forgetAll_52 u8 gu10)) ?_
      exact fbX11_image_0_92 u10 h
  · skip
    obtain ⟨u12, gu12, h⟩ := o_bind h
    refine ft (fr_mono rfl (frX9_become_115_1 u gu12)) ?_
    obtain ⟨u14, gu14, h⟩ := o_bind h
    refine ft (fr_mono rfl (frX0_become_137_23 u12 gu14)) ?_
    obtain ⟨u16, gu16, h⟩ := o_bind h
    refine ft (fr_mono rfl (frX1_become_144_30 u14 gu16)) ?_
    obtain ⟨u17, gu17, h⟩ := o_bind h
    refine ft (fr_upd rfl gu17) ?_
    exact fbX11_image_0_92 u17 h
theorem fbX12_image_146_67 {v : Int32} {u' : Mem} (u : Mem) (h : FX12_image_146_b67 u = some (v, u')) : FrL [146, 147, 148] u u' := by
  unfold FX12_image_146_b67 at h
  obtain ⟨u1, gu1, h⟩ := o_bind h
  refine ft (fr_upd rfl gu1) ?_
  cases h
  exact fr_refl _ _
theorem fbX12_image_146_53 {v : Int32} {u' : Mem} {k15 : Int32 → Int32 → Mem → Option (Int32 × Mem)} (hk15 : ∀ (l1 l2 : Int32) (u : Mem), k15 l1 l2 u = some (v, u') → FrL [146, 147, 148] u u') (l1 l2 : Int32) (u : Mem) (h : FX12_image_146_b53 k15 l1 l2 u = some (v, u')) : FrL [146, 147, 148] u u' := by
  unfold FX12_image_146_b53 at h
  exact hk15 l1 (l2 + 1) u h
theorem fbX12_image_146_15 {v : Int32} {u' : Mem} {k15 : Int32 → Int32 → Mem → Option (Int32 × Mem)} (hk15 : ∀ (l1 l2 : Int32) (u : Mem), k15 l1 l2 u = some (v, u') → FrL [146, 147, 148] u u') (l1 l2 : Int32) (u : Mem) (h : FX12_image_146_b15 k15 l1 l2 u = some (v, u')) : FrL [146, 147, 148] u u' := by
  unfold FX12_image_146_b15 at h
  rcases io h with ⟨c1, h⟩ | ⟨c1, h⟩
  · skip
    rcases oi h with ⟨c2, h⟩ | ⟨c2, h⟩
    · skip
      exact fbX12_image_146_67 u h
    · skip
      obtain ⟨u4, gu4, h⟩ := o_bind h
      refine ft (fr_mono rfl (frX12_forgetsActs_146 u gu4)) ?_
      exact fbX12_image_146_67 u4 h
  · skip
    rcases io h with ⟨c5, h⟩ | ⟨c5, h⟩
    · skip
      obtain ⟨x6, gx6, h⟩ := o_bind h
      obtain ⟨u7, gu7, h⟩ := o_bind h
      refine ft (fr_wr rfl gu7) ?_
      exact fbX12_image_146_53 hk15 l1 l2 u7 h
    · skip
      obtain ⟨x8, gx8, h⟩ := o_bind h
      obtain ⟨u9, gu9, h⟩ := o_bind h
      refine ft (fr_wr rfl gu9) ?_
      exact fbX12_image_146_53 hk15 l1 l2 u9 h
theorem flX12_image_146_15 {v : Int32} {u' : Mem} : ∀ (n : Nat) (l1 l2 : Int32) (u : Mem), FX12_image_146_L15 n l1 l2 u = some (v, u') → FrL [146, 147, 148] u u' := by
  intro n
  induction n with
  | zero =>
    intro l1 l2 u h
    exact nn_ h
  | succ n ih =>
    intro l1 l2 u h
    exact fbX12_image_146_15 ih l1 l2 u h
theorem fbX12_image_146_13 {v : Int32} {u' : Mem} (l1 : Int32) (u : Mem) (h : FX12_image_146_b13 l1 u = some (v, u')) : FrL [146, 147, 148] u u' := by
  unfold FX12_image_146_b13 at h
  exact flX12_image_146_15 FU l1 0 u h
theorem frX12_image_146 (p1 : Int32) (u : Mem) {v : Int32} {u' : Mem} (h : FX12_image_146 p1 u = some (v, u')) : FrL [146, 147, 148] u u' := by
  unfold FX12_image_146 at h
  rcases oi h with ⟨c1, h⟩ | ⟨c1, h⟩
  · skip
    exact fbX12_image_146_13 p1 u h
  · skip
    rcases oi h with ⟨c2, h⟩ | ⟨c2, h⟩
    · skip
      exact fbX12_image_146_13 p1 u h
    · skip
      cases h
      exact fr_refl _ _
