/-! ===== THE THIN ROWS: a memory of numbers behind a fixed graph of cells; the machine's rows over it ===== -/
abbrev Gt : Type := Launch × Nat × Heap × (Nat → ClassId) × (Nat → Nat → Nat) × ClassId × ClassId × (Nat → Nat) × (Nat → Nat) × (Nat × Nat × (Nat → Int32)) × (ClassId × ClassId × ClassId) × (Nat × Nat) × (List Shp × Rf)
def gL (G : Gt) : Launch := G.1
def gN (G : Gt) : Nat := G.2.1
def gB (G : Gt) : Heap := G.2.2.1
def gD (G : Gt) : va_G := (G.2.2.2.1, G.2.2.2.2.1)
def gI (G : Gt) : ClassId := G.2.2.2.2.2.1
def gR (G : Gt) : ClassId := G.2.2.2.2.2.2.1
def gK (G : Gt) : Nat → Nat := G.2.2.2.2.2.2.2.1
def gV (G : Gt) : Nat → Nat := G.2.2.2.2.2.2.2.2.1
def gS (G : Gt) : Nat × Nat × (Nat → Int32) := G.2.2.2.2.2.2.2.2.2.1
/-- the classes of the other arrays: of Wars, of rows of ints, of bytes -/
def gQ (G : Gt) : ClassId × ClassId × ClassId := G.2.2.2.2.2.2.2.2.2.2.1
/-- where Integer's two rows of digits lie -/
def gJ (G : Gt) : Nat × Nat := G.2.2.2.2.2.2.2.2.2.2.2.1
/-- cells behind the system's, and references -/
def gE (G : Gt) : List Shp × Rf := G.2.2.2.2.2.2.2.2.2.2.2.2
def gA (G : Gt) : Nat → Prop := fun q => gN G ≤ q
/-- a cell's number and its address: under 1000000 the cells made, 1999999 the script, from 2000000 the text constants, from 3000000 their bytes, 3500000 and 3500001 the digits, from 4000000 any address -/
def adr (G : Gt) (i : Nat) : Nat := if i < 1000000 then gN G + i else if i < 2000000 then (gS G).1 else if i < 3000000 then gK G (i - 2000000) else if i < 3500000 then gV G (i - 3000000) else if i < 3500001 then (gJ G).1 else if i < 4000000 then (gJ G).2 else i - 4000000
def cv (G : Gt) (v : Value) : Value := match v with
  | .ref i => .ref (adr G i)
  | w => w
theorem cv_cat (G : Gt) (v : Value) : (cv G v).category = v.category := by cases v <;> rfl
def sts (G : Gt) (st : List Value) : List Value := st.map (cv G)
def lvs (G : Gt) (lv : List (Nat × Value)) : List (Nat × Value) := lv.map (fun q => (q.1, cv G q.2))
def flds (G : Gt) (ci : Nat) (r : Nat → Option Nat) (u : Nat → Int32) : List Value := (fkind ci).mapIdx (fun k b => if b = true then va_rf ((r k).map (adr G)) else .int (u k))
def cellv (G : Gt) (s : Shp) (r : Nat → Option Nat) (u : Nat → Int32) : va_E := match s with
  | .inl n => .inl (gI G, n, .inl u)
  | .inr (.inl ci) => .inr (ci, flds G ci r u)
  | .inr (.inr (0, n)) => .inl (gR G, n, .inr (.inr (.inr (.inr (fun k => (r k).map (adr G))))))
  | .inr (.inr (1, n)) => .inl ((gQ G).1, n, .inr (.inr (.inr (.inr (fun k => (r k).map (adr G))))))
  | .inr (.inr (2, n)) => .inl ((gQ G).2.1, n, .inr (.inr (.inr (.inr (fun k => (r k).map (adr G))))))
  | .inr (.inr (_ + 3, n)) => .inl ((gQ G).2.2, n, .inl u)
def ssz (s : Shp) : Nat := match s with
  | .inl n => n
  | .inr (.inl ci) => (fkind ci).length
  | .inr (.inr q) => q.2
def ssum (sh : List Shp) : Nat := (sh.map ssz).sum
def RepC (G : Gt) (sh : List Shp) (r : Rf) (u : Mem) (H : Heap) : Prop := (∀ (i : Nat) (s : Shp), sh[i]? = some s → va_at (gD G) vwCl (gN G + i, cellv G s (r i) (u i)) H) ∧ H.size = gN G + sh.length ∧ (∀ q : Nat, q < gN G → H[q]? = (gB G)[q]?) ∧ sh.length ≤ 590000 ∧ ssum sh ≤ 7080000
def digO (j : Nat) : Int32 := Int32.ofNat (48 + j % 10)
def digT (j : Nat) : Int32 := Int32.ofNat (48 + j / 10)
/-- arrays of rows of ints can be made; whose component class is that of rows of ints -/
def gAO (U : State) : Prop := (Cond.arrayOver (.array .int)).before #[] U = true
def gAA (G : Gt) (U : State) : Prop := ∃ kA : Class, U.vm.classes[(gQ G).2.1]? = some kA ∧ kA.kind = .array (gI G) (.array .int)
def RepV (G : Gt) (U : State) : Prop := va_AO "OldestDownLaw$War" U ∧ gAO U ∧ gAA G U ∧ va_Z "java/lang/Integer" "DigitOnes" "[B" (.ref (gJ G).1) (gA G) U (gB G) ∧ va_Z "java/lang/Integer" "DigitTens" "[B" (.ref (gJ G).2) (gA G) U (gB G) ∧ va_T .byte (gJ G).1 100 (fun j => .int (digO j)) (gA G) U (gB G) ∧ va_T .byte (gJ G).2 100 (fun j => .int (digT j)) (gA G) U (gB G)
theorem gAO.moved {u U : State} (hvm : u.vm.Alike U.vm) (h : gAO u) : gAO U := by
  obtain ⟨comp, c, k, h1, h2, h3, h4, h5⟩ := arrayOverA_spec h
  obtain ⟨k', hk', he⟩ := hvm.2.2 _ _ h3
  have hi : (U.vm.classes.findIdx? fun (x : Class) => match x.kind with | .array component _ => component == comp | _ => false) = some c :=
    (va_idx_bare U.vm comp).symm.trans (by rw [hvm.bare_eq]; exact (va_idx_bare u.vm comp).trans h2)
  have hkind : k'.kind = .array comp (.array .int) := by rw [he]; exact h4
  have f1 : U.vm.findClass (FieldType.array .int).toString = some comp := by rw [hvm.findClass]; exact h1
  have f2 : U.vm.findClass ("[" ++ (FieldType.array .int).toString) = some c := by rw [hvm.findClass]; exact h5
  unfold gAO Cond.before Cond.holds
  simp only [Cond.value]
  rw [f1, Option.bind_some]
  refine (congrArg (fun o : Option Nat => (o.bind (fun c => (U.vm.classes[c]?).map fun (k : Class) => match k.kind with | .array _ ty => decide (ty = FieldType.array .int) && decide (U.vm.findClass ("[" ++ (FieldType.array .int).toString) = some c) | _ => false) == some true)) hi).trans ?_
  simp [hk', hkind, f2]
theorem gAA.moved {G : Gt} {u U : State} (hvm : u.vm.Alike U.vm) (h : gAA G u) : gAA G U := by
  obtain ⟨k, h1, h2⟩ := h
  obtain ⟨k', hk', he⟩ := hvm.2.2 _ _ h1
  exact ⟨k', hk', by rw [he]; exact h2⟩
theorem RepV.moved {G : Gt} {u U : State} (hvm : u.vm.Alike U.vm) (h : RepV G u) : RepV G U :=
  ⟨va_AO.moved hvm h.1, gAO.moved hvm h.2.1, gAA.moved hvm h.2.2.1, va_Z.moved hvm h.2.2.2.1, va_Z.moved hvm h.2.2.2.2.1, va_T.moved hvm h.2.2.2.2.2.1, va_T.moved hvm h.2.2.2.2.2.2⟩
def RepW (G : Gt) (U : State) : Prop := va_K (gD G) vwCl [(gI G, .int), (gR G, .object "OldestDown$Being"), ((gQ G).1, .object "OldestDownLaw$War"), ((gQ G).2.1, .array .int), ((gQ G).2.2, .byte)] U ∧ (∀ w ∈ NW, va_Nw w U) ∧ (gB G).size = gN G ∧ vk_S strN strLen strByt (gK G) (gV G) (gA G) U (gB G) ∧ (∀ i : Nat, i < strN → vk_R (strOwn i) (strIdx i) (strTx i) (gK G i) U) ∧ va_X (gS G).1 (gS G).2.1 (gS G).2.2 U (gB G) ∧ (gS G).1 < gN G ∧ (gS G).2.1 ≤ 260 ∧ va_AO "OldestDown$Being" U ∧ va_Z "java/lang/String" "COMPACT_STRINGS" "Z" (.int 1) (gA G) U (gB G) ∧ va_Zq "jdk/internal/util/Preconditions" "SIOOBE_FORMATTER" "Ljava/util/function/BiFunction;" (gA G) U (gB G) ∧ RepV G U
def RepU (G : Gt) (sh : List Shp) (r : Rf) (u : Mem) (U : State) : Prop := RepC G sh r u U.heap ∧ RepW G U
theorem nw_warmP {x : MethodName} {s U : State} (hW : s.WarmedH U.vm) (hZ : va_Nw (.privateMethod x) s) : va_Nw (.privateMethod x) U := va_tabs rfl (rfl : (s.setVm U.vm).vm = U.vm) (by rw [Cond.privateMethod_setVm hW.alike]; exact hZ)
theorem RepW.warm {G : Gt} {s U : State} (hW : s.WarmedH U.vm) (h : RepW G s) : RepW G U := by
  obtain ⟨h1, h2, h3, h4, h5, h6, h7⟩ := h
  refine ⟨va_K.moved hW.alike h1, fun w hw => ?_, h3, vk_S.moved hW.alike h4, fun i hi => vk_R.warm hW (h5 i hi), va_X.moved hW.alike h6, h7.1, h7.2.1, va_AO.moved hW.alike h7.2.2.1, va_Z.moved hW.alike h7.2.2.2.1, va_Zq.moved hW.alike h7.2.2.2.2.1, RepV.moved hW.alike h7.2.2.2.2.2⟩
  have h8 := h2 w hw
  have h9 := (List.mem_filter.mp hw).2
  cases w <;> first | exact va_Nw.warmM hW h8 | exact va_Nw.warmF hW h8 | exact va_Nw.warmC hW h8 | exact nw_warmP hW h8 | (simp [isNest] at h9)
theorem RepW.same {G : Gt} {u U : State} (hv : u.vm = U.vm) (h : RepW G u) : RepW G U := by
  have ha : u.vm.Alike U.vm := hv ▸ Vm.Alike.refl u.vm
  obtain ⟨h1, h2, h3, h4, h5, h6, h7⟩ := h
  refine ⟨va_K.moved ha h1, fun w hw => ?_, h3, vk_S.moved ha h4, fun i hi => vk_R.same hv.symm (h5 i hi), va_X.moved ha h6, h7.1, h7.2.1, va_AO.moved ha h7.2.2.1, va_Z.moved ha h7.2.2.2.1, va_Zq.moved ha h7.2.2.2.2.1, RepV.moved ha h7.2.2.2.2.2⟩
  have h8 := h2 w hw
  have h9 := (List.mem_filter.mp hw).2
  cases w <;> first | exact va_Nw.same rfl hv h8 | (simp [isNest] at h9)
/-- a method's walk: what stands about it -/
abbrev Xt : Type := Program × Env × Room × State × MethodId × Array Value × List Frame × Method × Code × (State → Prop) × Nat × Nat × Nat
abbrev Tt : Type := Option Value × List Shp × Rf × Mem
def WM (G : Gt) (X : Xt) (pc : Nat) (lv : List (Nat × Value)) (st : List Value) (sh : List Shp) (r : Rf) (u : Mem) : Prop := match X with
  | (p, e, R, s, m, args, below, meth, c, Q, nL, c0, n0) => ∀ (H : Heap) (locs : List Loc) (ls : Array Slot) (k n : Nat), RepC G sh r u H → (∀ q ∈ locs, gA G q.base) → lv_has ls nL (lvs G lv) → k + c0 = sh.length → n + n0 = ssum sh → W p (gL G) e R s m args below meth c H locs k n Q (F0 m pc ls (sts G st))
def CxOk (G : Gt) (X : Xt) (b : ByteArray) (nL : Nat) (C : String) (T : Tt) (d : Nat) : Prop := match X with
  | (p, e, R, s, m, args, below, meth, c, Q, nL', c0, n0) => p.tables.exec = Jvm.exec ∧ c.code = b ∧ c.maxLocals = nL ∧ s.vm.findClass C = some m.cls ∧ (∀ w ∈ TW, w.before args s = true) ∧ RepW G s ∧ nL' = nL ∧ d ≤ R.frames ∧ 60 * d ≤ R.locals ∧ T.2.1.length ≤ R.cells + c0 ∧ ssum T.2.1 ≤ R.slots + n0 ∧ meth.locks = false
def QcG (G : Gt) (T : Tt) : Array Value → State → Outcome → State → Prop := fun _ _ o t => o = .returned (T.1.map (cv G)) ∧ RepU G T.2.1 T.2.2.1 T.2.2.2 t
def CxRet (G : Gt) (X : Xt) (ret : Option FieldType) (T : Tt) : Prop := match X with
  | (p, e, R, s, m, args, below, meth, c, Q, nL', c0, n0) => meth.sig.returnType = ret ∧ Q = MQ below (QcG G T) args s (T.2.1.length - c0) (ssum T.2.1 - n0) (gA G)
/-- a method's contract at one run of it: from these cells with these arguments it comes to T -/
def CT (G : Gt) (y : MethodName) (b : ByteArray) (nL : Nat) (ret : Option FieldType) (d : Nat) (av : List Value) (sh : List Shp) (r : Rf) (u : Mem) (T : Tt) : Prop :=
  sh.length ≤ T.2.1.length ∧ ssum sh ≤ ssum T.2.1 ∧ Met (gL G) y (.code y b nL ret :: TW) ({ frames := d, cells := T.2.1.length - sh.length, slots := ssum T.2.1 - ssum sh, locals := 60 * d }) (fun a U => a = (sts G av).toArray ∧ RepU G sh r u U) (QcG G T) (T.2.1.length - sh.length) (ssum T.2.1 - ssum sh) (gA G)
def largs : Nat → List Value → List (Nat × Value)
  | _, [] => []
  | i, v :: vs => (i, v) :: largs (i + 1) vs
/-- every value here takes one place -/
def cat1 (st : List Value) : Bool := st.all (fun v => v.category == 1)
theorem cat1_cons {v : Value} {st : List Value} (h : cat1 (v :: st) = true) : v.category = 1 ∧ cat1 st = true := by
  simpa [cat1] using h
theorem lg_sl_len (G : Gt) {av : List Value} (h : cat1 av = true) : (lg_sl (sts G av)).length = av.length := by
  induction av with
  | nil => rfl
  | cons v av ih =>
    obtain ⟨h1, h2⟩ := cat1_cons h
    have h3 := ih h2
    have h4 : (cv G v).category = 1 := by rw [cv_cat]; exact h1
    simp only [lg_sl, sts, List.map_cons, List.flatMap_cons, h4] at h3 ⊢
    simp
    simpa using h3
theorem lv_args_sts (G : Gt) {av : List Value} (h : cat1 av = true) (i : Nat) : lv_args i (sts G av) = lvs G (largs i av) := by
  induction av generalizing i with
  | nil => rfl
  | cons v av ih =>
    obtain ⟨h1, h2⟩ := cat1_cons h
    have h4 : (cv G v).category = 1 := by rw [cv_cat]; exact h1
    have h3 := ih h2 (i + 1)
    simp only [sts, List.map_cons, lv_args, h4, largs, lvs, List.map_cons]
    simp only [sts, lvs] at h3
    simp [h3]
theorem goodIn_tw (ws : List Cond) (h : ∀ w ∈ ws, w ∈ TW) : GoodIn TW ws := fun w hw => tw_good (h w hw)
theorem ct_of {G : Gt} {y : MethodName} {b : ByteArray} {nL : Nat} {ret : Option FieldType} {d : Nat} {av : List Value} {sh : List Shp} {r : Rf} {u : Mem} {T : Tt} (hy : plainName y.cls = true) (hc : cat1 av = true) (hn : av.length ≤ nL) (hm1 : sh.length ≤ T.2.1.length) (hm2 : ssum sh ≤ ssum T.2.1)
    (body : ∀ X : Xt, CxOk G X b nL y.cls T d → CxRet G X ret T → WM G X 0 (largs 0 av) [] sh r u) : CT G y b nL ret d av sh r u T := by
  refine ⟨hm1, hm2, ?_⟩
  refine Met.ofW (cc := b) (maxL := nL) (ret := ret) hy rfl ?_
  intro p e s m args below meth c s₁ B hml hv
  obtain ⟨rfl, hR, hW⟩ := hv
  have hts := atoms_spec (ws := .code y b nL ret :: TW) B.pre
  have hown : s.vm.findClass y.cls = some m.cls := findClass_of_methodNamed B.named
  have hlocks := B.notSynchronized
  have hlen := lg_sl_len G hc
  have hl := lv_entry (sts G av) (n := nL) (by rw [hlen]; exact hn)
  rw [lg_entry_eq]
  rw [lv_args_sts G hc] at hl
  exact body (p, e, _, s, m, _, below, meth, c, _, nL, sh.length, ssum sh) ⟨B.exec, B.bytes, hml, hown, fun w hw => hts w (List.mem_cons_of_mem _ hw), hW, rfl, Nat.le_refl _, Nat.le_refl _, (by show T.2.1.length ≤ T.2.1.length - sh.length + sh.length; omega), (by show ssum T.2.1 ≤ ssum T.2.1 - ssum sh + ssum sh; omega), hlocks⟩ ⟨B.returns, rfl⟩ s.heap [] _ 0 0 hR (fun q hq => by cases hq) hl (by omega) (by omega)
theorem w_use {G : Gt} {X : Xt} {pc : Nat} {lv : List (Nat × Value)} {st st' : List Value} {sh : List Shp} {r : Rf} {u : Mem} (h : WM G X pc lv st sh r u) (e : st = st') : WM G X pc lv st' sh r u := e ▸ h
/-- fewer locals, in another order, by their places -/
theorem w_sub {G : Gt} {X : Xt} {pc : Nat} {lv lv' : List (Nat × Value)} {st : List Value} {sh : List Shp} {r : Rf} {u : Mem} (ks : List Nat) (hl : ks.filterMap (fun k => lv[k]?) = lv') (k : WM G X pc lv' st sh r u) : WM G X pc lv st sh r u := by
  obtain ⟨p, e, R, s, m, args, below, meth, c, Q, nL', c0, n0⟩ := X
  intro H locs ls k1 n1 h1 h2 h3 h4 h5
  refine k H locs ls k1 n1 h1 h2 ⟨h3.1, h3.2.1, fun q hq => ?_⟩ h4 h5
  obtain ⟨z, hz, rfl⟩ := List.mem_map.mp hq
  rw [← hl] at hz
  obtain ⟨i, -, hi⟩ := List.mem_filterMap.mp hz
  exact h3.2.2 (z.1, cv G z.2) (List.mem_map.mpr ⟨z, List.mem_of_getElem? hi, rfl⟩)
theorem lvs_at {G : Gt} {ls : Array Slot} {nL : Nat} {lv : List (Nat × Value)} {i : Nat} {v : Value} (h : lv_has ls nL (lvs G lv)) (q : Nat) (hq : lv[q]? = some (i, v)) : ls[i]? = some (.val (cv G v)) :=
  lv_at h q (by simp [lvs, hq])
theorem lvs_set (G : Gt) (lv : List (Nat × Value)) (i : Nat) (v : Value) : (i, cv G v) :: (lvs G lv).filter (fun q => !(q.1 == i) && !(q.1 + 1 == i && q.2.category == 2)) = lvs G ((i, v) :: lv.filter (fun q => !(q.1 == i) && !(q.1 + 1 == i && q.2.category == 2))) := by
  simp only [lvs, List.map_cons, List.filter_map, Function.comp_def, cv_cat]
