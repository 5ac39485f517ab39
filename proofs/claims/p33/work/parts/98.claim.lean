/-! THE CLAIM OUT OF ONE WALK OF THE LAW'S BODY. Your part is whole_start (and what it stands on); all else here is the same for every law, but numbers. -/
def R_law : String := "OldestDownLaw"
def lw_P (b : Addr) (xs : List Int32) (args : Array Value) (s : State) : Prop := args = #[.ref b] ∧ s.IntsAt b xs ∧ xs.length ≤ 260 ∧ (Jvm.Cond.and given_1 narrow_1).before args s = true
def lw_Q (_ : Array Value) (s : State) (o : Outcome) (t : State) : Prop := o = .returned (some (.int 1)) ∧ Framed s o t [] 600000 7302250
def lw_Z (below : List Frame) (a : Array Value) (s : State) : State → Prop := fun t => ∃ o, t.status = .running ∧ Ended t below o ∧ lw_Q a s o t
/-- the law's own end, with 1 on the stack, nothing written that was there before, its room as the claim has it -/
theorem lw_ret {p : Program} {l : Launch} {e : Env} {s : State} {m : MethodId} {below : List Frame} {meth : Method} {c : Code} {b : Nat} (hx : p.tables.exec = Jvm.exec) (hb : c.code = code) (hr : meth.sig.returnType = ret) (hlocks : meth.locks = false) {pc : Nat} {H : Heap} {ls : Array Slot} (hdg : decode code pc = .ok (.ireturn, 1)) : W p l e room_1 s m #[Value.ref b] below meth c H [] 600000 7302250 (lw_Z below #[Value.ref b] s) (F0 m pc ls [.int 1]) := by
  intro T hT X
  obtain ⟨fs, hret, hrun, hended, hW, hframe⟩ := X.leave (v := some (.int 1)) (hlocks := hlocks) (fun h => by rw [hr] at h; cases h)
  have hmeth' : T.vm.method? m = some meth := X.method'
  refine ⟨T.setFrames fs, ?_, .returned (some (.int 1)), hrun, hended, rfl, ⟨_, rfl⟩, hW, hframe⟩
  jvm_step X.here [X.here.top, hx, hb, hdg, hmeth', hr, ret, narrow_b1]
  (try refine ⟨rfl, ?_⟩); (try refine ⟨rfl, ?_⟩)
  first | (intro acts; rw [hret _ acts rfl rfl rfl]) | rw [hret _ _ rfl rfl rfl]
  exact Steps.refl _
/-- what holds at the law's entry: the machine, the code, the tables' words (any of lw_tbl by 'hts w (by decide +kernel)'), the script of L ints xs at the cell b, what the Statement gives of the start (any of its parts by flat_of_before) -/
def lw_At (p : Program) (s : State) (m : MethodId) (meth : Method) (c : Code) (b L : Nat) (xs : Nat → Int32) : Prop :=
  p.tables.exec = Jvm.exec ∧ c.code = code ∧ meth.sig.returnType = ret ∧ c.maxLocals = 17 ∧ s.vm.findClass R_law = some m.cls ∧ (∀ w ∈ lw_tbl, w.before #[Value.ref b] s = true) ∧ va_X b L xs s s.heap ∧ b < s.heap.size ∧ meth.locks = false ∧ (Jvm.Cond.and given_1 narrow_1).before #[Value.ref b] s = true
set_option maxHeartbeats 4000000 in
theorem whole_start {p : Program} {e : Env} {s : State} {m : MethodId} {below : List Frame} {meth : Method} {c : Code} (l : Launch) (hflags : l.flags = flags0) {b L : Nat} {xs : Nat → Int32} (hL : L ≤ 260) (C0 : lw_At p s m meth c b L xs) : W p l e room_1 s m #[Value.ref b] below meth c s.heap [] 0 0 (lw_Z below #[Value.ref b] s) (entryFrame m ([Value.ref b] : List Value).toArray 17) := by
  obtain ⟨hx, hb, hr, hml, hown, hts, hXs, hbl, hlocks, hgv⟩ := id C0
  have hT : ∀ w ∈ TW, w.before #[Value.ref b] s = true := fun w hw => hts w (List.mem_filter.mp hw).1
  have hF : ∀ w ∈ FLT, w.before #[Value.ref b] s = true := flat_of_before _ hgv
  have hA : ∀ a : Nat, a < s.heap.size → ¬ (fun q : Nat => s.heap.size ≤ q) a := fun a h h1 => Nat.not_le.mpr h h1
  obtain ⟨dd, hdd⟩ := Classical.axiomOfChoice (u_all hT)
  obtain ⟨cI, kI, compI, i1, i2, i3⟩ := Cond.arrayClass_spec (hT _ aw_int)
  obtain ⟨cB, kB, compB, j1, j2, j3⟩ := Cond.arrayClass_spec (hT _ aw_byte)
  have hAO : va_AO "OldestDown$Being" s := va_AO.of (hts _ (List.mem_of_getElem? tb_ao))
  obtain ⟨compR, cR, kR, r1, r2, r3, r4, r5⟩ := Cond.arrayOver_spec hAO
  have hAW : va_AO "OldestDownLaw$War" s := va_AO.of (hts _ (List.mem_of_getElem? tb_aw))
  obtain ⟨compW, cW, kW, y1, y2, y3, y4, y5⟩ := Cond.arrayOver_spec hAW
  have hAA : gAO s := hts _ (List.mem_of_getElem? tb_aa)
  obtain ⟨compA, cA, kA, a1, a2, a3, a4, a5⟩ := arrayOverA_spec hAA
  have hcA : compA = cI := Option.some.inj (a1.symm.trans i1)
  obtain ⟨adK, adV, hS, hSe⟩ := S_of (A := fun q : Nat => s.heap.size ≤ q) hF hA
  obtain ⟨dO, o1, o2⟩ := va_Tof (N := 100) (f := fun j => .int (digO j)) (A := fun q : Nat => s.heap.size ≤ q) (by decide) (hF _ (flt_mem ft_oa)) (va_eqt (hF _ (flt_mem ft_ol))) (fun j hj => va_eqt (hF _ (flt_mem (ft_oe j hj)))) hA
  obtain ⟨dT, t1, t2⟩ := va_Tof (N := 100) (f := fun j => .int (digT j)) (A := fun q : Nat => s.heap.size ≤ q) (by decide) (hF _ (flt_mem ft_ta)) (va_eqt (hF _ (flt_mem ft_tl))) (fun j hj => va_eqt (hF _ (flt_mem (ft_te j hj)))) hA
  have hW : RepW (l, s.heap.size, s.heap, (fun c => (dd c).1), (fun c => (dd c).2), cI, cR, adK, adV, (b, L, xs), (cW, cA, cB), (dO, dT), ([], fun _ _ => none)) s := by
    refine ⟨⟨fun c q hq => hdd c q hq, fun k q hq => ?_⟩, fun w hw => ?_, rfl, hS, fun i hi => ?_, hXs, hbl, hL, hAO, ?_, ?_, hAW, hAA, ⟨kA, a3, by rw [a4, hcA]; rfl⟩, ?_, ?_, o2, t2⟩
    · match k, hq with
      | 0, hq =>
        cases hq
        exact ⟨fun n z => ⟨fun k h => (by cases h), kI, i2, compI, i3⟩, i1⟩
      | 1, hq =>
        cases hq
        exact ⟨fun n z => ⟨fun k h => (by cases h), kR, r3, compR, r4⟩, ⟨kR, compR, r3, r4, r1, r5⟩⟩
      | 2, hq =>
        cases hq
        exact ⟨fun n z => ⟨fun k h => (by cases h), kW, y3, compW, y4⟩, ⟨kW, compW, y3, y4, y1, y5⟩⟩
      | 3, hq =>
        cases hq
        exact ⟨fun n z => ⟨fun k h => (by cases h), kA, a3, compA, a4⟩, a5⟩
      | 4, hq =>
        cases hq
        exact ⟨fun n z => ⟨fun k h => (by cases h), kB, j2, compB, j3⟩, j1⟩
      | k + 5, hq => simp at hq
    · have h1 := List.mem_filter.mp hw
      have h3 : w.onTables = true := by
        have h2 := h1.2
        cases w <;> first | rfl | (simp [isNest] at h2)
      exact va_Nw.of h3 (hts w h1.1)
    · exact vk_R.of (hts _ (List.mem_of_getElem? (str_ref i hi))) (hSe i hi)
    · exact va_Zof (hts _ (List.mem_of_getElem? tb_cs)) (hts _ (List.mem_of_getElem? tb_ci)) (va_eqi (hF _ (flt_mem ft_cs))) hA
    · exact va_Zqof (hts _ (List.mem_of_getElem? tb_ps)) (hts _ (List.mem_of_getElem? tb_pi)) (hF _ (flt_mem ft_ps)) hA
    · exact va_Zof (hts _ (List.mem_of_getElem? tb_dO)) (hts _ (List.mem_of_getElem? tb_ii)) o1 hA
    · exact va_Zof (hts _ (List.mem_of_getElem? tb_dT)) (hts _ (List.mem_of_getElem? tb_ii)) t1 hA
  obtain ⟨w', hrun⟩ := sem_all L xs hL
  have hbd := d_bd hrun SH_bd
  have hXc : CxOk (l, s.heap.size, s.heap, (fun c => (dd c).1), (fun c => (dd c).2), cI, cR, adK, adV, (b, L, xs), (cW, cA, cB), (dO, dT), ([], fun _ _ => none)) (p, e, room_1, s, m, #[Value.ref b], below, meth, c, lw_Z below #[Value.ref b] s, 17, 0, 0) cL_law 17 RL (some (.int 1), w'.1, w'.2.1, w'.2.2) 1000 := ⟨hx, hb, hml, hown, hT, hW, rfl, by decide, by decide, by have h9 := hbd.1; show w'.1.length ≤ 600000 + 0; omega, by have h9 := hbd.2; show ssum w'.1 ≤ 7302250 + 0; omega, hlocks⟩
  have hRt : LwR (l, s.heap.size, s.heap, (fun c => (dd c).1), (fun c => (dd c).2), cI, cR, adK, adV, (b, L, xs), (cW, cA, cB), (dO, dT), ([], fun _ _ => none)) (p, e, room_1, s, m, #[Value.ref b], below, meth, c, lw_Z below #[Value.ref b] s, 17, 0, 0) 1 w' := by
    intro pc lv hd H locs ls k n _ hlocs _ hk hn
    refine va_forget (fun q hq => hlocs q hq) ?_
    refine W.widen (k := 600000) (n := 7302250) (by have h9 := hbd.1; omega) (by have h9 := hbd.2; omega) ?_
    exact lw_ret hx hb hr hlocks hd
  have hw := law_0 hXc hRt hrun
  have hl := lv_entry ([.ref b]) (n := 17) (Nat.le_of_ble_eq_true rfl)
  rw [lg_entry_eq]
  refine hw s.heap [] _ 0 0 ⟨fun i sh h => by simp at h, rfl, fun q _ => rfl, Nat.zero_le _, Nat.zero_le _⟩ (fun q h => by cases h) ?_ rfl rfl
  exact hl
set_option maxHeartbeats 4000000 in
theorem lw_walk (l : Launch) (hflags : l.flags = flags0) (b : Addr) (xs : List Int32) : MetFree l x (headSpec (Jvm.Cond.code x code maxLocals ret :: tables_1) room_1) (lw_P b xs) (fun _ _ _ _ _ => True) lw_Q := by
  refine MetFree.of_bodyS (code := code) (maxLocals := maxLocals) (ret := ret) (by decide) ?_ ?_
  · intro args s m h hn
    obtain ⟨meth, c, h1, h2, h3, h4, h5, h6, -, -⟩ := Cond.code_spec hn (atoms_spec (ws := Jvm.Cond.code x code maxLocals ret :: tables_1) h _ List.mem_cons_self)
    exact ⟨meth, c, h1, h2, h3, h4, h5, h6⟩
  · intro p e s m args below meth c s₁ B hml0 hP _
    obtain ⟨rfl, hx, hbd, hgv⟩ := hP
    obtain ⟨scr, harrAt, hlist, hof, hsmall⟩ := hx
    obtain ⟨hcb, hkn, -, -⟩ := State.arrayAt?_spec harrAt
    have hown : s.vm.findClass R_law = some m.cls := findClass_of_methodNamed B.named
    have hts0 : ∀ c ∈ (Jvm.Cond.code x code maxLocals ret :: tables_1), c.before #[Value.ref b] s = true := atoms_spec (ws := Jvm.Cond.code x code maxLocals ret :: tables_1) B.pre
    have hts : ∀ w ∈ lw_tbl, w.before #[Value.ref b] s = true := k2_hts_sels lw_privs (fun w hw => hts0 w (List.mem_cons_of_mem _ hw)) lw_privs_ok
    have hml : c.maxLocals = 17 := B.maxLocals_eq (hts0 _ List.mem_cons_self)
    have X₀ : Stand p l e room_1 s m #[Value.ref b] below meth c s₁ [] 0 0 := Stand.of_body B
    have hh0 : s₁.heap = s.heap := by rw [B.state]; rfl
    have hsz : scr.slots.size = xs.length := by rw [← Array.length_toList, hlist, List.length_map]
    have hval : ∀ j : Nat, j < xs.length → scr.slots[j]? = some (.int (xs.getD j 0)) := fun j hj => by
      rw [← Array.getElem?_toList, hlist]
      simp [hj]
    have hbl : b < s.heap.size := (Array.getElem?_eq_some_iff.mp hcb).1
    have hX : va_X b xs.length (fun j => xs.getD j 0) s s.heap := ⟨scr, hcb, hof, hkn, hsz, hval⟩
    have K : W p l e room_1 s m #[Value.ref b] below meth c s₁.heap [] 0 0 (lw_Z below #[Value.ref b] s) (entryFrame m ([Value.ref b] : List Value).toArray 17) := by
      rw [hh0]
      exact whole_start l hflags hbd ⟨B.exec, B.bytes, B.returns, hml, hown, hts, hX, hbl, B.notSynchronized, hgv⟩
    obtain ⟨t, a1, o, b1, b2, b3⟩ := K s₁ rfl X₀
    exact ⟨t, o, a1, b1, b2, b3⟩
theorem lw_pre_spec {args : Array Value} {s : State} (h : (Jvm.Cond.and given_1 narrow_1).before args s = true) (hr : rest_1_c.before args s = true) : ∃ (b : Addr) (xs : List Int32), lw_P b xs args s := by
  have hs := flat_of_before _ h
  have hq := flat_of_before _ hr
  have hc : (Cond.count 1).before args s = true := hs _ (by decide +kernel)
  have harr : (Cond.arrayOf (.arg 0) .int).before args s = true := hs _ (by decide +kernel)
  have hle : (Cond.le (.length (.arg 0)) (.int 260)).before args s = true := hs _ (by decide +kernel)
  have hlen : (Cond.isInt (.length (.arg 0))).before args s = true := hq _ (by decide +kernel)
  have hall : (Cond.all (.arg 0) (.isInt (.elem (.arg 0) (.index 0)))).before args s = true := hq _ (by decide +kernel)
  obtain ⟨b, xs, hb, hx⟩ := State.ints_of_pre rfl harr hlen hall
  have hsm : xs.length < 2 ^ 31 := hx.choose_spec.2.2.2
  have hev : (Term.length (.arg 0)).eval args s none [] s = some (.int xs.length.toInt32) := hx.length_eval hb
  have hv := Cond.le_ints hev (show (Term.int 260).eval args s none [] s = some (.int 260) from rfl)
  have hd : xs.length.toInt32 ≤ 260 := by
    simpa [Cond.before, Cond.holds, hv] using hle
  have hN : xs.length ≤ 260 := (Int32.ofNat_le_ofNat hsm (by decide)).mp (show Int32.ofNat xs.length ≤ Int32.ofNat 260 from hd)
  exact ⟨b, xs, Cond.one_arg hc (show args[0]? = some (.ref b) from hb), hx, hN, h⟩
theorem lw_comes (l : Launch) (hflags : l.flags = flags0) : Comes l x (Jvm.Cond.code x code maxLocals ret :: tables_1) room_1 (fun tb e args s => Calls_1 tb e args s ∧ rest_1 tb e args s ∧ Pre_1 tb e args s)
    (fun _ _ args s o t => lw_Q args s o t) := by
  intro p e ha hc hk s m args below hf hfit hheap happ hpre
  obtain ⟨b, xs, hP⟩ := lw_pre_spec hpre.2.2 hpre.2.1
  obtain ⟨k, o, h1, h2, h3, hQ⟩ := lw_walk l hflags b xs p e ha hc hk s m args below hf ((Spec.applies_iff_loose hf).mp happ).1 hP trivial
  exact ⟨k, o, h1, h2, h3, hQ⟩
theorem lw_frame {s t : State} {o : Outcome} {args : Array Value} (h : Framed s o t [] 600000 7302250) :
    Framed s o t (fieldLocs frame_1_writes args s ++ arrayLocs frame_1_arrays args s ++ staticLocs frame_1_statics s) 600000 7302250 := h
theorem lw_limb (L : Cond) (hL : ∀ (args : Array Value) (s t : State), L.after args s (.returned (some (.int 1))) t = true) :
    ArmFor flags0 classFile x code maxLocals ret World_1 tables_1 room_1 Calls_1 rest_1 Pre_1
      (fun tb e a s o t => postC L tb e a s o t ∧ Framed s o t (fieldLocs frame_1_writes a s ++ arrayLocs frame_1_arrays a s ++ staticLocs frame_1_statics s) 600000 7302250) := by
  intro l hflags _ _ p e ha hc hk s m args below hf hfit hheap happ hpre
  obtain ⟨k, o, h1, h2, h3, rfl, hF⟩ := lw_comes l hflags p e ha hc hk s m args below hf hfit hheap happ hpre
  exact ⟨k, _, h1, h2, h3, hL args s _, lw_frame hF⟩
