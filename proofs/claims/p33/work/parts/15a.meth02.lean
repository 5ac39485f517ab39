def FX4_run_8_33_b375 (l4 : Int32) (u : Mem) : Option (Int32 × Mem) :=
  (if l4 ≤ 0 then (some (0, u)) else ((if 32 < l4 then (some (0, u)) else ((rdA u 14 32 (l4 - 1)).bind fun x3 => some (x3, u)))))
theorem bX4_run_8_33_375 {G : Gt} {X : Xt} {v : Int32} {u' : Mem} (hX : CxOk G X cX4_run 9 RX4 (some (.int v), (SHg G), (RHg G), u') 1) (hR : CxRet G X (some .int) (some (.int v), (SHg G), (RHg G), u')) (l4 : Int32) (u : Mem) (h : FX4_run_8_33_b375 l4 u = some (v, u')) : WM G X 375 [(0, .ref 8), (4, .int l4)] [] (SHg G) (RHg G) u := by
  unfold FX4_run_8_33_b375 at h
  refine w_iload 1 375 hX rfl dX4_run_375 ?_
  refine w_if_le (tgt := 402) 377 hX dX4_run_377 (by decide) (fun c1 => ?_) (fun c1 => ?_)
  · have h := it h c1
    refine w_iconst 0 402 hX ic_0 dX4_run_402 ?_
    exact w_iret 403 hX hR dX4_run_403 (by cases h; rfl)
  · have h := ie h c1
    refine w_iload 1 380 hX rfl dX4_run_380 ?_
    refine w_aload_n 0 382 hX rfl rfl dX4_run_382 ?_
    refine w_getR 383 hX CI_4 s_8 rfl r_8_5 fl_X4_27 rfl dX4_run_383 ?_
    refine w_alen 32 386 hX s_14 (by decide) dX4_run_386 ?_
    refine w_icmp_gt (tgt := 402) 387 hX dX4_run_387 (by decide) (fun c2 => ?_) (fun c2 => ?_)
    · have h := it h c2
      refine w_iconst 0 402 hX ic_0 dX4_run_402 ?_
      exact w_iret 403 hX hR dX4_run_403 (by cases h; rfl)
    · have h := ie h c2
      refine w_aload_n 0 390 hX rfl rfl dX4_run_390 ?_
      refine w_getR 391 hX CI_4 s_8 rfl r_8_5 fl_X4_27 rfl dX4_run_391 ?_
      refine w_iload 1 394 hX rfl dX4_run_394 ?_
      refine w_iconst 1 396 hX ic_1 dX4_run_396 ?_
      refine w_isub 397 hX dX4_run_397 ?_
      obtain ⟨x3, gx3, h⟩ := o_bind h
      refine w_iald 398 hX s_14 gx3 dX4_run_398 ?_
      refine w_goto (tgt := 403) 399 hX (by decide) dX4_run_399 ?_
      exact w_iret 403 hX hR dX4_run_403 (by cases h; rfl)
def FX4_run_8_33_b369 (k6 : Int32 → Int32 → Int32 → Mem → Option (Int32 × Mem)) (l2 l4 l5 : Int32) (u : Mem) : Option (Int32 × Mem) :=
  k6 l2 l4 (l5 + 1) u
theorem bX4_run_8_33_369 {G : Gt} {X : Xt} {v : Int32} {u' : Mem} (hX : CxOk G X cX4_run 9 RX4 (some (.int v), (SHg G), (RHg G), u') 1) (hR : CxRet G X (some .int) (some (.int v), (SHg G), (RHg G), u')) {k6 : Int32 → Int32 → Int32 → Mem → Option (Int32 × Mem)} (hk6 : ∀ (l2 l4 l5 : Int32) (u : Mem), k6 l2 l4 l5 u = some (v, u') → WM G X 6 [(0, .ref 8), (2, .int l2), (3, .ref 33), (4, .int l4), (5, .int l5)] [] (SHg G) (RHg G) u) (l2 l4 l5 : Int32) (u : Mem) (h : FX4_run_8_33_b369 k6 l2 l4 l5 u = some (v, u')) : WM G X 369 [(0, .ref 8), (2, .int l2), (3, .ref 33), (4, .int l4), (5, .int l5)] [] (SHg G) (RHg G) u := by
  unfold FX4_run_8_33_b369 at h
  refine w_iinc (lv' := [(5, .int (l5 + 1)), (0, .ref 8), (2, .int l2), (3, .ref 33), (4, .int l4)]) 369 4 hX dX4_run_369 rfl (inc_1 _) (by decide) rfl ?_
  refine w_goto (tgt := 6) 372 hX (by decide) dX4_run_372 ?_
  exact w_sub [1, 2, 3, 4, 0] rfl (hk6 l2 l4 (l5 + 1) u h)
def FX4_run_8_33_b358 (k6 : Int32 → Int32 → Int32 → Mem → Option (Int32 × Mem)) (l2 l4 l5 l7 : Int32) (u : Mem) : Option (Int32 × Mem) :=
  (wrA u 14 32 (l4 - 1) l7).bind fun u1 => FX4_run_8_33_b369 k6 l2 l4 l5 u1
theorem bX4_run_8_33_358 {G : Gt} {X : Xt} {v : Int32} {u' : Mem} (hX : CxOk G X cX4_run 9 RX4 (some (.int v), (SHg G), (RHg G), u') 1) (hR : CxRet G X (some .int) (some (.int v), (SHg G), (RHg G), u')) {k6 : Int32 → Int32 → Int32 → Mem → Option (Int32 × Mem)} (hk6 : ∀ (l2 l4 l5 : Int32) (u : Mem), k6 l2 l4 l5 u = some (v, u') → WM G X 6 [(0, .ref 8), (2, .int l2), (3, .ref 33), (4, .int l4), (5, .int l5)] [] (SHg G) (RHg G) u) (l2 l4 l5 l7 : Int32) (u : Mem) (h : FX4_run_8_33_b358 k6 l2 l4 l5 l7 u = some (v, u')) : WM G X 358 [(0, .ref 8), (2, .int l2), (3, .ref 33), (4, .int l4), (5, .int l5), (7, .int l7)] [] (SHg G) (RHg G) u := by
  unfold FX4_run_8_33_b358 at h
  refine w_aload_n 0 358 hX rfl rfl dX4_run_358 ?_
  refine w_getR 359 hX CI_4 s_8 rfl r_8_5 fl_X4_27 rfl dX4_run_359 ?_
  refine w_iload 3 362 hX rfl dX4_run_362 ?_
  refine w_iconst 1 364 hX ic_1 dX4_run_364 ?_
  refine w_isub 365 hX dX4_run_365 ?_
  refine w_iload 5 366 hX rfl dX4_run_366 ?_
  obtain ⟨u1, gu1, h⟩ := o_bind h
  refine w_iast 368 hX s_14 gu1 dX4_run_368 ?_
  exact w_sub [0, 1, 2, 3, 4] rfl (bX4_run_8_33_369 hX hR hk6 l2 l4 l5 u1 h)
def FX4_run_8_33_b327 (k6 : Int32 → Int32 → Int32 → Mem → Option (Int32 × Mem)) (l2 l4 l5 t0 : Int32) (u : Mem) : Option (Int32 × Mem) :=
  FX4_run_8_33_b358 k6 l2 l4 l5 t0 u
theorem bX4_run_8_33_327 {G : Gt} {X : Xt} {v : Int32} {u' : Mem} (hX : CxOk G X cX4_run 9 RX4 (some (.int v), (SHg G), (RHg G), u') 1) (hR : CxRet G X (some .int) (some (.int v), (SHg G), (RHg G), u')) {k6 : Int32 → Int32 → Int32 → Mem → Option (Int32 × Mem)} (hk6 : ∀ (l2 l4 l5 : Int32) (u : Mem), k6 l2 l4 l5 u = some (v, u') → WM G X 6 [(0, .ref 8), (2, .int l2), (3, .ref 33), (4, .int l4), (5, .int l5)] [] (SHg G) (RHg G) u) (l2 l4 l5 t0 : Int32) (u : Mem) (h : FX4_run_8_33_b327 k6 l2 l4 l5 t0 u = some (v, u')) : WM G X 327 [(0, .ref 8), (2, .int l2), (3, .ref 33), (4, .int l4), (5, .int l5)] [.int t0] (SHg G) (RHg G) u := by
  unfold FX4_run_8_33_b327 at h
  refine w_istore (lv' := [(7, .int t0), (0, .ref 8), (2, .int l2), (3, .ref 33), (4, .int l4), (5, .int l5)]) 327 hX dX4_run_327 (by decide) rfl ?_
  refine w_goto (tgt := 358) 329 hX (by decide) dX4_run_329 ?_
  exact w_sub [1, 2, 3, 4, 5, 0] rfl (bX4_run_8_33_358 hX hR hk6 l2 l4 l5 t0 u h)
def FX4_run_8_33_b310 (k6 : Int32 → Int32 → Int32 → Mem → Option (Int32 × Mem)) (l2 l4 l5 t0 : Int32) (u : Mem) : Option (Int32 × Mem) :=
  FX4_run_8_33_b358 k6 l2 l4 l5 t0 u
theorem bX4_run_8_33_310 {G : Gt} {X : Xt} {v : Int32} {u' : Mem} (hX : CxOk G X cX4_run 9 RX4 (some (.int v), (SHg G), (RHg G), u') 1) (hR : CxRet G X (some .int) (some (.int v), (SHg G), (RHg G), u')) {k6 : Int32 → Int32 → Int32 → Mem → Option (Int32 × Mem)} (hk6 : ∀ (l2 l4 l5 : Int32) (u : Mem), k6 l2 l4 l5 u = some (v, u') → WM G X 6 [(0, .ref 8), (2, .int l2), (3, .ref 33), (4, .int l4), (5, .int l5)] [] (SHg G) (RHg G) u) (l2 l4 l5 t0 : Int32) (u : Mem) (h : FX4_run_8_33_b310 k6 l2 l4 l5 t0 u = some (v, u')) : WM G X 310 [(0, .ref 8), (2, .int l2), (3, .ref 33), (4, .int l4), (5, .int l5)] [.int t0] (SHg G) (RHg G) u := by
  unfold FX4_run_8_33_b310 at h
  refine w_istore (lv' := [(7, .int t0), (0, .ref 8), (2, .int l2), (3, .ref 33), (4, .int l4), (5, .int l5)]) 310 hX dX4_run_310 (by decide) rfl ?_
  refine w_goto (tgt := 358) 312 hX (by decide) dX4_run_312 ?_
  exact w_sub [1, 2, 3, 4, 5, 0] rfl (bX4_run_8_33_358 hX hR hk6 l2 l4 l5 t0 u h)
def FX4_run_8_33_b293 (k6 : Int32 → Int32 → Int32 → Mem → Option (Int32 × Mem)) (l2 l4 l5 t0 : Int32) (u : Mem) : Option (Int32 × Mem) :=
  FX4_run_8_33_b358 k6 l2 l4 l5 t0 u
theorem bX4_run_8_33_293 {G : Gt} {X : Xt} {v : Int32} {u' : Mem} (hX : CxOk G X cX4_run 9 RX4 (some (.int v), (SHg G), (RHg G), u') 1) (hR : CxRet G X (some .int) (some (.int v), (SHg G), (RHg G), u')) {k6 : Int32 → Int32 → Int32 → Mem → Option (Int32 × Mem)} (hk6 : ∀ (l2 l4 l5 : Int32) (u : Mem), k6 l2 l4 l5 u = some (v, u') → WM G X 6 [(0, .ref 8), (2, .int l2), (3, .ref 33), (4, .int l4), (5, .int l5)] [] (SHg G) (RHg G) u) (l2 l4 l5 t0 : Int32) (u : Mem) (h : FX4_run_8_33_b293 k6 l2 l4 l5 t0 u = some (v, u')) : WM G X 293 [(0, .ref 8), (2, .int l2), (3, .ref 33), (4, .int l4), (5, .int l5)] [.int t0] (SHg G) (RHg G) u := by
  unfold FX4_run_8_33_b293 at h
  refine w_istore (lv' := [(7, .int t0), (0, .ref 8), (2, .int l2), (3, .ref 33), (4, .int l4), (5, .int l5)]) 293 hX dX4_run_293 (by decide) rfl ?_
  refine w_goto (tgt := 358) 295 hX (by decide) dX4_run_295 ?_
  exact w_sub [1, 2, 3, 4, 5, 0] rfl (bX4_run_8_33_358 hX hR hk6 l2 l4 l5 t0 u h)
def FX4_run_8_33_b276 (k6 : Int32 → Int32 → Int32 → Mem → Option (Int32 × Mem)) (l2 l4 l5 t0 : Int32) (u : Mem) : Option (Int32 × Mem) :=
  FX4_run_8_33_b358 k6 l2 l4 l5 t0 u
theorem bX4_run_8_33_276 {G : Gt} {X : Xt} {v : Int32} {u' : Mem} (hX : CxOk G X cX4_run 9 RX4 (some (.int v), (SHg G), (RHg G), u') 1) (hR : CxRet G X (some .int) (some (.int v), (SHg G), (RHg G), u')) {k6 : Int32 → Int32 → Int32 → Mem → Option (Int32 × Mem)} (hk6 : ∀ (l2 l4 l5 : Int32) (u : Mem), k6 l2 l4 l5 u = some (v, u') → WM G X 6 [(0, .ref 8), (2, .int l2), (3, .ref 33), (4, .int l4), (5, .int l5)] [] (SHg G) (RHg G) u) (l2 l4 l5 t0 : Int32) (u : Mem) (h : FX4_run_8_33_b276 k6 l2 l4 l5 t0 u = some (v, u')) : WM G X 276 [(0, .ref 8), (2, .int l2), (3, .ref 33), (4, .int l4), (5, .int l5)] [.int t0] (SHg G) (RHg G) u := by
  unfold FX4_run_8_33_b276 at h
  refine w_istore (lv' := [(7, .int t0), (0, .ref 8), (2, .int l2), (3, .ref 33), (4, .int l4), (5, .int l5)]) 276 hX dX4_run_276 (by decide) rfl ?_
  refine w_goto (tgt := 358) 278 hX (by decide) dX4_run_278 ?_
  exact w_sub [1, 2, 3, 4, 5, 0] rfl (bX4_run_8_33_358 hX hR hk6 l2 l4 l5 t0 u h)
def FX4_run_8_33_b178 (k6 : Int32 → Int32 → Int32 → Mem → Option (Int32 × Mem)) (l2 l4 l5 l6 l7 t0 : Int32) (u : Mem) : Option (Int32 × Mem) :=
  (if l6 = (-18) then (FX4_run_8_33_b358 k6 l2 l4 l5 (l7 ||| t0) u) else ((if l6 = (-17) then (FX4_run_8_33_b358 k6 l2 l4 l5 (l7 &&& t0) u) else ((if l6 = (-16) then ((if l7 ≤ t0 then (FX4_run_8_33_b327 k6 l2 l4 l5 0 u) else (FX4_run_8_33_b327 k6 l2 l4 l5 1 u))) else ((if l6 = (-15) then ((if l7 = t0 then (FX4_run_8_33_b310 k6 l2 l4 l5 1 u) else (FX4_run_8_33_b310 k6 l2 l4 l5 0 u))) else ((if l6 = (-14) then ((if t0 ≤ l7 then (FX4_run_8_33_b293 k6 l2 l4 l5 0 u) else (FX4_run_8_33_b293 k6 l2 l4 l5 1 u))) else ((if l6 = (-13) then ((if t0 ≤ 0 then (FX4_run_8_33_b276 k6 l2 l4 l5 0 u) else ((dvI l7 t0).bind fun x11 => FX4_run_8_33_b276 k6 l2 l4 l5 x11 u))) else ((if l6 = (-12) then (FX4_run_8_33_b358 k6 l2 l4 l5 (l7 * t0) u) else ((if l6 = (-11) then (FX4_run_8_33_b358 k6 l2 l4 l5 (l7 - t0) u) else ((if l6 = (-10) then (FX4_run_8_33_b358 k6 l2 l4 l5 (l7 + t0) u) else (FX4_run_8_33_b358 k6 l2 l4 l5 (1 - l7) u))))))))))))))))))
theorem bX4_run_8_33_178 {G : Gt} {X : Xt} {v : Int32} {u' : Mem} (hX : CxOk G X cX4_run 9 RX4 (some (.int v), (SHg G), (RHg G), u') 1) (hR : CxRet G X (some .int) (some (.int v), (SHg G), (RHg G), u')) {k6 : Int32 → Int32 → Int32 → Mem → Option (Int32 × Mem)} (hk6 : ∀ (l2 l4 l5 : Int32) (u : Mem), k6 l2 l4 l5 u = some (v, u') → WM G X 6 [(0, .ref 8), (2, .int l2), (3, .ref 33), (4, .int l4), (5, .int l5)] [] (SHg G) (RHg G) u) (l2 l4 l5 l6 l7 t0 : Int32) (u : Mem) (h : FX4_run_8_33_b178 k6 l2 l4 l5 l6 l7 t0 u = some (v, u')) : WM G X 178 [(0, .ref 8), (2, .int l2), (3, .ref 33), (4, .int l4), (5, .int l5), (6, .int l6), (7, .int l7)] [.int t0] (SHg G) (RHg G) u := by
  unfold FX4_run_8_33_b178 at h
  refine w_istore (lv' := [(8, .int t0), (0, .ref 8), (2, .int l2), (3, .ref 33), (4, .int l4), (5, .int l5), (6, .int l6), (7, .int l7)]) 178 hX dX4_run_178 (by decide) rfl ?_
  refine w_iload 6 180 hX rfl dX4_run_180 ?_
  by_cases c1 : l6 = (-18)
  · have h := it h c1
    refine w_tabIn (tgt := 342) (off := 160) 182 hX dX4_run_182 (by rw [c1]; decide) (by rw [c1]; decide) (by rw [c1]; decide) (by decide) ?_
    refine w_iload 7 342 hX rfl dX4_run_342 ?_
    refine w_iload 0 344 hX rfl dX4_run_344 ?_
    refine w_ior 346 hX dX4_run_346 ?_
    refine w_istore (lv' := [(7, .int (l7 ||| t0)), (8, .int t0), (0, .ref 8), (2, .int l2), (3, .ref 33), (4, .int l4), (5, .int l5), (6, .int l6)]) 347 hX dX4_run_347 (by decide) rfl ?_
    refine w_goto (tgt := 358) 349 hX (by decide) dX4_run_349 ?_
    exact w_sub [2, 3, 4, 5, 6, 0] rfl (bX4_run_8_33_358 hX hR hk6 l2 l4 l5 (l7 ||| t0) u h)
  · have h := ie h c1
    by_cases c2 : l6 = (-17)
    · have h := it h c2
      refine w_tabIn (tgt := 332) (off := 150) 182 hX dX4_run_182 (by rw [c2]; decide) (by rw [c2]; decide) (by rw [c2]; decide) (by decide) ?_
      refine w_iload 7 332 hX rfl dX4_run_332 ?_
      refine w_iload 0 334 hX rfl dX4_run_334 ?_
      refine w_iand 336 hX dX4_run_336 ?_
      refine w_istore (lv' := [(7, .int (l7 &&& t0)), (8, .int t0), (0, .ref 8), (2, .int l2), (3, .ref 33), (4, .int l4), (5, .int l5), (6, .int l6)]) 337 hX dX4_run_337 (by decide) rfl ?_
      refine w_goto (tgt := 358) 339 hX (by decide) dX4_run_339 ?_
      exact w_sub [2, 3, 4, 5, 6, 0] rfl (bX4_run_8_33_358 hX hR hk6 l2 l4 l5 (l7 &&& t0) u h)
    · have h := ie h c2
      by_cases c3 : l6 = (-16)
      · have h := it h c3
        refine w_tabIn (tgt := 315) (off := 133) 182 hX dX4_run_182 (by rw [c3]; decide) (by rw [c3]; decide) (by rw [c3]; decide) (by decide) ?_
        refine w_iload 7 315 hX rfl dX4_run_315 ?_
        refine w_iload 0 317 hX rfl dX4_run_317 ?_
        refine w_icmp_le (tgt := 326) 319 hX dX4_run_319 (by decide) (fun c4 => ?_) (fun c4 => ?_)
        · have h := it h c4
          refine w_iconst 0 326 hX ic_0 dX4_run_326 ?_
          exact w_sub [1, 2, 3, 4, 5] rfl (bX4_run_8_33_327 hX hR hk6 l2 l4 l5 0 u h)
        · have h := ie h c4
          refine w_iconst 1 322 hX ic_1 dX4_run_322 ?_
          refine w_goto (tgt := 327) 323 hX (by decide) dX4_run_323 ?_
          exact w_sub [1, 2, 3, 4, 5] rfl (bX4_run_8_33_327 hX hR hk6 l2 l4 l5 1 u h)
      · have h := ie h c3
        by_cases c5 : l6 = (-15)
        · have h := it h c5
          refine w_tabIn (tgt := 298) (off := 116) 182 hX dX4_run_182 (by rw [c5]; decide) (by rw [c5]; decide) (by rw [c5]; decide) (by decide) ?_
          refine w_iload 7 298 hX rfl dX4_run_298 ?_
          refine w_iload 0 300 hX rfl dX4_run_300 ?_
          refine w_icmp_ne (tgt := 309) 302 hX dX4_run_302 (by decide) (fun c6 => ?_) (fun c6 => ?_)
          · have h := ie h c6
            refine w_iconst 0 309 hX ic_0 dX4_run_309 ?_
            exact w_sub [1, 2, 3, 4, 5] rfl (bX4_run_8_33_310 hX hR hk6 l2 l4 l5 0 u h)
          · have h := it h c6
            refine w_iconst 1 305 hX ic_1 dX4_run_305 ?_
            refine w_goto (tgt := 310) 306 hX (by decide) dX4_run_306 ?_
            exact w_sub [1, 2, 3, 4, 5] rfl (bX4_run_8_33_310 hX hR hk6 l2 l4 l5 1 u h)
        · have h := ie h c5
          by_cases c7 : l6 = (-14)
          · have h := it h c7
            refine w_tabIn (tgt := 281) (off := 99) 182 hX dX4_run_182 (by rw [c7]; decide) (by rw [c7]; decide) (by rw [c7]; decide) (by decide) ?_
            refine w_iload 7 281 hX rfl dX4_run_281 ?_
            refine w_iload 0 283 hX rfl dX4_run_283 ?_
            refine w_icmp_ge (tgt := 292) 285 hX dX4_run_285 (by decide) (fun c8 => ?_) (fun c8 => ?_)
            · have h := it h c8
              refine w_iconst 0 292 hX ic_0 dX4_run_292 ?_
              exact w_sub [1, 2, 3, 4, 5] rfl (bX4_run_8_33_293 hX hR hk6 l2 l4 l5 0 u h)
            · have h := ie h c8
              refine w_iconst 1 288 hX ic_1 dX4_run_288 ?_
              refine w_goto (tgt := 293) 289 hX (by decide) dX4_run_289 ?_
              exact w_sub [1, 2, 3, 4, 5] rfl (bX4_run_8_33_293 hX hR hk6 l2 l4 l5 1 u h)
          · have h := ie h c7
            by_cases c9 : l6 = (-13)
            · have h := it h c9
              refine w_tabIn (tgt := 262) (off := 80) 182 hX dX4_run_182 (by rw [c9]; decide) (by rw [c9]; decide) (by rw [c9]; decide) (by decide) ?_
              refine w_iload 0 262 hX rfl dX4_run_262 ?_
              refine w_if_le (tgt := 275) 264 hX dX4_run_264 (by decide) (fun c10 => ?_) (fun c10 => ?_)
              · have h := it h c10
                refine w_iconst 0 275 hX ic_0 dX4_run_275 ?_
                exact w_sub [1, 2, 3, 4, 5] rfl (bX4_run_8_33_276 hX hR hk6 l2 l4 l5 0 u h)
              · have h := ie h c10
                refine w_iload 7 267 hX rfl dX4_run_267 ?_
                refine w_iload 0 269 hX rfl dX4_run_269 ?_
                obtain ⟨x11, gx11, h⟩ := o_bind h
                obtain ⟨qx11, jx11⟩ := dvI_ok gx11
                refine w_idiv 271 hX qx11 dX4_run_271 ?_
                rw [jx11]
                refine w_goto (tgt := 276) 272 hX (by decide) dX4_run_272 ?_
                exact w_sub [1, 2, 3, 4, 5] rfl (bX4_run_8_33_276 hX hR hk6 l2 l4 l5 x11 u h)
            · have h := ie h c9
              by_cases c12 : l6 = (-12)
              · have h := it h c12
                refine w_tabIn (tgt := 252) (off := 70) 182 hX dX4_run_182 (by rw [c12]; decide) (by rw [c12]; decide) (by rw [c12]; decide) (by decide) ?_
                refine w_iload 7 252 hX rfl dX4_run_252 ?_
                refine w_iload 0 254 hX rfl dX4_run_254 ?_
                refine w_imul 256 hX dX4_run_256 ?_
                refine w_istore (lv' := [(7, .int (l7 * t0)), (8, .int t0), (0, .ref 8), (2, .int l2), (3, .ref 33), (4, .int l4), (5, .int l5), (6, .int l6)]) 257 hX dX4_run_257 (by decide) rfl ?_
                refine w_goto (tgt := 358) 259 hX (by decide) dX4_run_259 ?_
                exact w_sub [2, 3, 4, 5, 6, 0] rfl (bX4_run_8_33_358 hX hR hk6 l2 l4 l5 (l7 * t0) u h)
              · have h := ie h c12
                by_cases c13 : l6 = (-11)
                · have h := it h c13
                  refine w_tabIn (tgt := 242) (off := 60) 182 hX dX4_run_182 (by rw [c13]; decide) (by rw [c13]; decide) (by rw [c13]; decide) (by decide) ?_
                  refine w_iload 7 242 hX rfl dX4_run_242 ?_
                  refine w_iload 0 244 hX rfl dX4_run_244 ?_
                  refine w_isub 246 hX dX4_run_246 ?_
                  refine w_istore (lv' := [(7, .int (l7 - t0)), (8, .int t0), (0, .ref 8), (2, .int l2), (3, .ref 33), (4, .int l4), (5, .int l5), (6, .int l6)]) 247 hX dX4_run_247 (by decide) rfl ?_
                  refine w_goto (tgt := 358) 249 hX (by decide) dX4_run_249 ?_
                  exact w_sub [2, 3, 4, 5, 6, 0] rfl (bX4_run_8_33_358 hX hR hk6 l2 l4 l5 (l7 - t0) u h)
                · have h := ie h c13
                  by_cases c14 : l6 = (-10)
                  · have h := it h c14
                    refine w_tabIn (tgt := 232) (off := 50) 182 hX dX4_run_182 (by rw [c14]; decide) (by rw [c14]; decide) (by rw [c14]; decide) (by decide) ?_
                    refine w_iload 7 232 hX rfl dX4_run_232 ?_
                    refine w_iload 0 234 hX rfl dX4_run_234 ?_
                    refine w_iadd 236 hX dX4_run_236 ?_
                    refine w_istore (lv' := [(7, .int (l7 + t0)), (8, .int t0), (0, .ref 8), (2, .int l2), (3, .ref 33), (4, .int l4), (5, .int l5), (6, .int l6)]) 237 hX dX4_run_237 (by decide) rfl ?_
                    refine w_goto (tgt := 358) 239 hX (by decide) dX4_run_239 ?_
                    exact w_sub [2, 3, 4, 5, 6, 0] rfl (bX4_run_8_33_358 hX hR hk6 l2 l4 l5 (l7 + t0) u h)
                  · have h := ie h c14
                    have zc1 := lv_neT c1 (a := (-18)) (by decide)
                    have zc2 := lv_neT c2 (a := (-17)) (by decide)
                    have zc3 := lv_neT c3 (a := (-16)) (by decide)
                    have zc5 := lv_neT c5 (a := (-15)) (by decide)
                    have zc7 := lv_neT c7 (a := (-14)) (by decide)
                    have zc9 := lv_neT c9 (a := (-13)) (by decide)
                    have zc12 := lv_neT c12 (a := (-12)) (by decide)
                    have zc13 := lv_neT c13 (a := (-11)) (by decide)
                    have zc14 := lv_neT c14 (a := (-10)) (by decide)
                    refine w_tabOut (tgt := 352) 182 hX dX4_run_182 (by omega) (by decide) ?_
                    refine w_iconst 1 352 hX ic_1 dX4_run_352 ?_
                    refine w_iload 7 353 hX rfl dX4_run_353 ?_
                    refine w_isub 355 hX dX4_run_355 ?_
                    refine w_istore (lv' := [(7, .int (1 - l7)), (8, .int t0), (0, .ref 8), (2, .int l2), (3, .ref 33), (4, .int l4), (5, .int l5), (6, .int l6)]) 356 hX dX4_run_356 (by decide) rfl ?_
                    exact w_sub [2, 3, 4, 5, 6, 0] rfl (bX4_run_8_33_358 hX hR hk6 l2 l4 l5 (1 - l7) u h)
def FX4_run_8_33_b147 (k6 : Int32 → Int32 → Int32 → Mem → Option (Int32 × Mem)) (l2 l5 l6 t0 : Int32) (u : Mem) : Option (Int32 × Mem) :=
  (rdA u 14 32 (t0 - 1)).bind fun x1 => (if l6 = (-19) then (FX4_run_8_33_b178 k6 l2 t0 l5 l6 x1 0 u) else ((rdA u 14 32 t0).bind fun x3 => FX4_run_8_33_b178 k6 l2 t0 l5 l6 x1 x3 u))
theorem bX4_run_8_33_147 {G : Gt} {X : Xt} {v : Int32} {u' : Mem} (hX : CxOk G X cX4_run 9 RX4 (some (.int v), (SHg G), (RHg G), u') 1) (hR : CxRet G X (some .int) (some (.int v), (SHg G), (RHg G), u')) {k6 : Int32 → Int32 → Int32 → Mem → Option (Int32 × Mem)} (hk6 : ∀ (l2 l4 l5 : Int32) (u : Mem), k6 l2 l4 l5 u = some (v, u') → WM G X 6 [(0, .ref 8), (2, .int l2), (3, .ref 33), (4, .int l4), (5, .int l5)] [] (SHg G) (RHg G) u) (l2 l5 l6 t0 : Int32) (u : Mem) (h : FX4_run_8_33_b147 k6 l2 l5 l6 t0 u = some (v, u')) : WM G X 147 [(0, .ref 8), (2, .int l2), (3, .ref 33), (5, .int l5), (6, .int l6)] [.int t0] (SHg G) (RHg G) u := by
  unfold FX4_run_8_33_b147 at h
  refine w_istore (lv' := [(4, .int t0), (0, .ref 8), (2, .int l2), (3, .ref 33), (5, .int l5), (6, .int l6)]) 147 hX dX4_run_147 (by decide) rfl ?_
  refine w_aload_n 1 149 hX rfl rfl dX4_run_149 ?_
  refine w_getR 150 hX CI_4 s_8 rfl r_8_5 fl_X4_27 rfl dX4_run_150 ?_
  refine w_iload 0 153 hX rfl dX4_run_153 ?_
  refine w_iconst 1 155 hX ic_1 dX4_run_155 ?_
  refine w_isub 156 hX dX4_run_156 ?_
  obtain ⟨x1, gx1, h⟩ := o_bind h
  refine w_iald 157 hX s_14 gx1 dX4_run_157 ?_
  refine w_istore (lv' := [(7, .int x1), (4, .int t0), (0, .ref 8), (2, .int l2), (3, .ref 33), (5, .int l5), (6, .int l6)]) 158 hX dX4_run_158 (by decide) rfl ?_
  refine w_iload 6 160 hX rfl dX4_run_160 ?_
  refine w_bipush (-19) 162 hX ib_m19 dX4_run_162 ?_
  refine w_icmp_ne (tgt := 171) 164 hX dX4_run_164 (by decide) (fun c2 => ?_) (fun c2 => ?_)
  · have h := ie h c2
    refine w_aload_n 2 171 hX rfl rfl dX4_run_171 ?_
    refine w_getR 172 hX CI_4 s_8 rfl r_8_5 fl_X4_27 rfl dX4_run_172 ?_
    refine w_iload 1 175 hX rfl dX4_run_175 ?_
    obtain ⟨x3, gx3, h⟩ := o_bind h
    refine w_iald 177 hX s_14 gx3 dX4_run_177 ?_
    exact w_sub [2, 3, 4, 1, 5, 6, 0] rfl (bX4_run_8_33_178 hX hR hk6 l2 t0 l5 l6 x1 x3 u h)
  · have h := it h c2
    refine w_iconst 0 167 hX ic_0 dX4_run_167 ?_
    refine w_goto (tgt := 178) 168 hX (by decide) dX4_run_168 ?_
    exact w_sub [2, 3, 4, 1, 5, 6, 0] rfl (bX4_run_8_33_178 hX hR hk6 l2 t0 l5 l6 x1 0 u h)
def FX4_run_8_33_b116 (k6 : Int32 → Int32 → Int32 → Mem → Option (Int32 × Mem)) (l2 l4 l5 l6 t0 t1 : Int32) (u : Mem) : Option (Int32 × Mem) :=
  (if t0 < t1 then (some (0, u)) else ((if l4 ≤ 32 then ((if l6 = (-19) then (FX4_run_8_33_b147 k6 l2 l5 l6 l4 u) else (FX4_run_8_33_b147 k6 l2 l5 l6 (l4 - 1) u))) else (some (0, u)))))
theorem bX4_run_8_33_116 {G : Gt} {X : Xt} {v : Int32} {u' : Mem} (hX : CxOk G X cX4_run 9 RX4 (some (.int v), (SHg G), (RHg G), u') 1) (hR : CxRet G X (some .int) (some (.int v), (SHg G), (RHg G), u')) {k6 : Int32 → Int32 → Int32 → Mem → Option (Int32 × Mem)} (hk6 : ∀ (l2 l4 l5 : Int32) (u : Mem), k6 l2 l4 l5 u = some (v, u') → WM G X 6 [(0, .ref 8), (2, .int l2), (3, .ref 33), (4, .int l4), (5, .int l5)] [] (SHg G) (RHg G) u) (l2 l4 l5 l6 t0 t1 : Int32) (u : Mem) (h : FX4_run_8_33_b116 k6 l2 l4 l5 l6 t0 t1 u = some (v, u')) : WM G X 116 [(0, .ref 8), (2, .int l2), (3, .ref 33), (4, .int l4), (5, .int l5), (6, .int l6)] [.int t1, .int t0] (SHg G) (RHg G) u := by
  unfold FX4_run_8_33_b116 at h
  refine w_icmp_lt (tgt := 129) 116 hX dX4_run_116 (by decide) (fun c1 => ?_) (fun c1 => ?_)
  · have h := it h c1
    refine w_iconst 0 129 hX ic_0 dX4_run_129 ?_
    exact w_iret 130 hX hR dX4_run_130 (by cases h; rfl)
  · have h := ie h c1
    refine w_iload 3 119 hX rfl dX4_run_119 ?_
    refine w_aload_n 0 121 hX rfl rfl dX4_run_121 ?_
    refine w_getR 122 hX CI_4 s_8 rfl r_8_5 fl_X4_27 rfl dX4_run_122 ?_
    refine w_alen 32 125 hX s_14 (by decide) dX4_run_125 ?_
    refine w_icmp_le (tgt := 131) 126 hX dX4_run_126 (by decide) (fun c2 => ?_) (fun c2 => ?_)
    · have h := it h c2
      refine w_iload 5 131 hX rfl dX4_run_131 ?_
      refine w_bipush (-19) 133 hX ib_m19 dX4_run_133 ?_
      refine w_icmp_ne (tgt := 143) 135 hX dX4_run_135 (by decide) (fun c3 => ?_) (fun c3 => ?_)
      · have h := ie h c3
        refine w_iload 3 143 hX rfl dX4_run_143 ?_
        refine w_iconst 1 145 hX ic_1 dX4_run_145 ?_
        refine w_isub 146 hX dX4_run_146 ?_
        exact w_sub [0, 1, 2, 4, 5] rfl (bX4_run_8_33_147 hX hR hk6 l2 l5 l6 (l4 - 1) u h)
      · have h := it h c3
        refine w_iload 3 138 hX rfl dX4_run_138 ?_
        refine w_goto (tgt := 147) 140 hX (by decide) dX4_run_140 ?_
        exact w_sub [0, 1, 2, 4, 5] rfl (bX4_run_8_33_147 hX hR hk6 l2 l5 l6 l4 u h)
    · have h := ie h c2
      refine w_iconst 0 129 hX ic_0 dX4_run_129 ?_
      exact w_iret 130 hX hR dX4_run_130 (by cases h; rfl)
def FX4_run_8_33_b102 (k6 : Int32 → Int32 → Int32 → Mem → Option (Int32 × Mem)) (l2 l4 l5 l6 : Int32) (u : Mem) : Option (Int32 × Mem) :=
  (if l6 = (-19) then (FX4_run_8_33_b116 k6 l2 l4 l5 l6 l4 1 u) else (FX4_run_8_33_b116 k6 l2 l4 l5 l6 l4 2 u))
theorem bX4_run_8_33_102 {G : Gt} {X : Xt} {v : Int32} {u' : Mem} (hX : CxOk G X cX4_run 9 RX4 (some (.int v), (SHg G), (RHg G), u') 1) (hR : CxRet G X (some .int) (some (.int v), (SHg G), (RHg G), u')) {k6 : Int32 → Int32 → Int32 → Mem → Option (Int32 × Mem)} (hk6 : ∀ (l2 l4 l5 : Int32) (u : Mem), k6 l2 l4 l5 u = some (v, u') → WM G X 6 [(0, .ref 8), (2, .int l2), (3, .ref 33), (4, .int l4), (5, .int l5)] [] (SHg G) (RHg G) u) (l2 l4 l5 l6 : Int32) (u : Mem) (h : FX4_run_8_33_b102 k6 l2 l4 l5 l6 u = some (v, u')) : WM G X 102 [(0, .ref 8), (2, .int l2), (3, .ref 33), (4, .int l4), (5, .int l5), (6, .int l6)] [] (SHg G) (RHg G) u := by
  unfold FX4_run_8_33_b102 at h
  refine w_iload 3 102 hX rfl dX4_run_102 ?_
  refine w_iload 5 104 hX rfl dX4_run_104 ?_
  refine w_bipush (-19) 106 hX ib_m19 dX4_run_106 ?_
  refine w_icmp_ne (tgt := 115) 108 hX dX4_run_108 (by decide) (fun c1 => ?_) (fun c1 => ?_)
  · have h := ie h c1
    refine w_iconst 2 115 hX ic_2 dX4_run_115 ?_
    exact bX4_run_8_33_116 hX hR hk6 l2 l4 l5 l6 l4 2 u h
  · have h := it h c1
    refine w_iconst 1 111 hX ic_1 dX4_run_111 ?_
    refine w_goto (tgt := 116) 112 hX (by decide) dX4_run_112 ?_
    exact bX4_run_8_33_116 hX hR hk6 l2 l4 l5 l6 l4 1 u h
def FX4_run_8_33_b95 (k6 : Int32 → Int32 → Int32 → Mem → Option (Int32 × Mem)) (l2 l4 l5 t1 t2 : Int32) (u : Mem) : Option (Int32 × Mem) :=
  (wrA u 14 32 t1 t2).bind fun u1 => FX4_run_8_33_b369 k6 l2 (l4 + 1) l5 u1
theorem bX4_run_8_33_95 {G : Gt} {X : Xt} {v : Int32} {u' : Mem} (hX : CxOk G X cX4_run 9 RX4 (some (.int v), (SHg G), (RHg G), u') 1) (hR : CxRet G X (some .int) (some (.int v), (SHg G), (RHg G), u')) {k6 : Int32 → Int32 → Int32 → Mem → Option (Int32 × Mem)} (hk6 : ∀ (l2 l4 l5 : Int32) (u : Mem), k6 l2 l4 l5 u = some (v, u') → WM G X 6 [(0, .ref 8), (2, .int l2), (3, .ref 33), (4, .int l4), (5, .int l5)] [] (SHg G) (RHg G) u) (l2 l4 l5 t1 t2 : Int32) (u : Mem) (h : FX4_run_8_33_b95 k6 l2 l4 l5 t1 t2 u = some (v, u')) : WM G X 95 [(0, .ref 8), (2, .int l2), (3, .ref 33), (4, .int l4), (5, .int l5)] [.int t2, .int t1, .ref 14] (SHg G) (RHg G) u := by
  unfold FX4_run_8_33_b95 at h
  obtain ⟨u1, gu1, h⟩ := o_bind h
  refine w_iast 95 hX s_14 gu1 dX4_run_95 ?_
  refine w_iinc (lv' := [(4, .int (l4 + 1)), (0, .ref 8), (2, .int l2), (3, .ref 33), (5, .int l5)]) 96 3 hX dX4_run_96 rfl (inc_1 _) (by decide) rfl ?_
  refine w_goto (tgt := 369) 99 hX (by decide) dX4_run_99 ?_
  exact w_sub [1, 2, 3, 0, 4] rfl (bX4_run_8_33_369 hX hR hk6 l2 (l4 + 1) l5 u1 h)
def FX4_run_8_33_b6 (k6 : Int32 → Int32 → Int32 → Mem → Option (Int32 × Mem)) (l2 l4 l5 : Int32) (u : Mem) : Option (Int32 × Mem) :=
  (if l5 < 0 then (FX4_run_8_33_b375 l4 u) else ((if l2 ≤ l5 then (FX4_run_8_33_b375 l4 u) else ((if 400 ≤ l5 then (FX4_run_8_33_b375 l4 u) else ((rdA u 9 400 l5).bind fun x4 => (if x4 < (-9) then (FX4_run_8_33_b102 k6 l2 l4 l5 x4 u) else ((if l4 < 0 then (FX4_run_8_33_b102 k6 l2 l4 l5 x4 u) else ((if 32 ≤ l4 then (FX4_run_8_33_b102 k6 l2 l4 l5 x4 u) else ((if x4 < 0 then ((if 9 ≤ ((-1) - x4) then (FX4_run_8_33_b95 k6 l2 l4 l5 l4 0 u) else ((rdA u 33 9 ((-1) - x4)).bind fun x10 => FX4_run_8_33_b95 k6 l2 l4 l5 l4 x10 u))) else (FX4_run_8_33_b95 k6 l2 l4 l5 l4 x4 u))))))))))))))
theorem bX4_run_8_33_6 {G : Gt} {X : Xt} {v : Int32} {u' : Mem} (hX : CxOk G X cX4_run 9 RX4 (some (.int v), (SHg G), (RHg G), u') 1) (hR : CxRet G X (some .int) (some (.int v), (SHg G), (RHg G), u')) {k6 : Int32 → Int32 → Int32 → Mem → Option (Int32 × Mem)} (hk6 : ∀ (l2 l4 l5 : Int32) (u : Mem), k6 l2 l4 l5 u = some (v, u') → WM G X 6 [(0, .ref 8), (2, .int l2), (3, .ref 33), (4, .int l4), (5, .int l5)] [] (SHg G) (RHg G) u) (l2 l4 l5 : Int32) (u : Mem) (h : FX4_run_8_33_b6 k6 l2 l4 l5 u = some (v, u')) : WM G X 6 [(0, .ref 8), (2, .int l2), (3, .ref 33), (4, .int l4), (5, .int l5)] [] (SHg G) (RHg G) u := by
  unfold FX4_run_8_33_b6 at h
  refine w_iload 4 6 hX rfl dX4_run_6 ?_
  refine w_if_lt (tgt := 375) 8 hX dX4_run_8 (by decide) (fun c1 => ?_) (fun c1 => ?_)
  · have h := it h c1
    exact w_sub [0, 3] rfl (bX4_run_8_33_375 hX hR l4 u h)
  · have h := ie h c1
    refine w_iload 4 11 hX rfl dX4_run_11 ?_
    refine w_iload_n 1 13 hX rfl rfl dX4_run_13 ?_
    refine w_icmp_ge (tgt := 375) 14 hX dX4_run_14 (by decide) (fun c2 => ?_) (fun c2 => ?_)
    · have h := it h c2
      exact w_sub [0, 3] rfl (bX4_run_8_33_375 hX hR l4 u h)
    · have h := ie h c2
      refine w_iload 4 17 hX rfl dX4_run_17 ?_
      refine w_aload_n 0 19 hX rfl rfl dX4_run_19 ?_
      refine w_getR 20 hX CI_4 s_8 rfl r_8_0 fl_X4_9 rfl dX4_run_20 ?_
      refine w_alen 400 23 hX s_9 (by decide) dX4_run_23 ?_
      refine w_icmp_ge (tgt := 375) 24 hX dX4_run_24 (by decide) (fun c3 => ?_) (fun c3 => ?_)
      · have h := it h c3
        exact w_sub [0, 3] rfl (bX4_run_8_33_375 hX hR l4 u h)
      · have h := ie h c3
        refine w_aload_n 0 27 hX rfl rfl dX4_run_27 ?_
        refine w_getR 28 hX CI_4 s_8 rfl r_8_0 fl_X4_9 rfl dX4_run_28 ?_
        refine w_iload 4 31 hX rfl dX4_run_31 ?_
        obtain ⟨x4, gx4, h⟩ := o_bind h
        refine w_iald 33 hX s_9 gx4 dX4_run_33 ?_
        refine w_istore (lv' := [(6, .int x4), (0, .ref 8), (2, .int l2), (3, .ref 33), (4, .int l4), (5, .int l5)]) 34 hX dX4_run_34 (by decide) rfl ?_
        refine w_iload 0 36 hX rfl dX4_run_36 ?_
        refine w_bipush (-9) 38 hX ib_m9 dX4_run_38 ?_
        refine w_icmp_lt (tgt := 102) 40 hX dX4_run_40 (by decide) (fun c5 => ?_) (fun c5 => ?_)
        · have h := it h c5
          exact w_sub [1, 2, 3, 4, 5, 0] rfl (bX4_run_8_33_102 hX hR hk6 l2 l4 l5 x4 u h)
        · have h := ie h c5
          refine w_iload 4 43 hX rfl dX4_run_43 ?_
          refine w_if_lt (tgt := 102) 45 hX dX4_run_45 (by decide) (fun c6 => ?_) (fun c6 => ?_)
          · have h := it h c6
            exact w_sub [1, 2, 3, 4, 5, 0] rfl (bX4_run_8_33_102 hX hR hk6 l2 l4 l5 x4 u h)
          · have h := ie h c6
            refine w_iload 4 48 hX rfl dX4_run_48 ?_
            refine w_aload_n 1 50 hX rfl rfl dX4_run_50 ?_
            refine w_getR 51 hX CI_4 s_8 rfl r_8_5 fl_X4_27 rfl dX4_run_51 ?_
            refine w_alen 32 54 hX s_14 (by decide) dX4_run_54 ?_
            refine w_icmp_ge (tgt := 102) 55 hX dX4_run_55 (by decide) (fun c7 => ?_) (fun c7 => ?_)
            · have h := it h c7
              exact w_sub [1, 2, 3, 4, 5, 0] rfl (bX4_run_8_33_102 hX hR hk6 l2 l4 l5 x4 u h)
            · have h := ie h c7
              refine w_iconst (-1) 58 hX ic_m1 dX4_run_58 ?_
              refine w_iload 0 59 hX rfl dX4_run_59 ?_
              refine w_isub 61 hX dX4_run_61 ?_
              refine w_istore (lv' := [(7, .int ((-1) - x4)), (6, .int x4), (0, .ref 8), (2, .int l2), (3, .ref 33), (4, .int l4), (5, .int l5)]) 62 hX dX4_run_62 (by decide) rfl ?_
              refine w_aload_n 2 64 hX rfl rfl dX4_run_64 ?_
              refine w_getR 65 hX CI_4 s_8 rfl r_8_5 fl_X4_27 rfl dX4_run_65 ?_
              refine w_iload 5 68 hX rfl dX4_run_68 ?_
              refine w_iload 1 70 hX rfl dX4_run_70 ?_
              refine w_if_lt (tgt := 80) 72 hX dX4_run_72 (by decide) (fun c8 => ?_) (fun c8 => ?_)
              · have h := it h c8
                refine w_iload 0 80 hX rfl dX4_run_80 ?_
                refine w_aload_n 4 82 hX rfl rfl dX4_run_82 ?_
                refine w_alen 9 83 hX s_33 (by decide) dX4_run_83 ?_
                refine w_icmp_ge (tgt := 94) 84 hX dX4_run_84 (by decide) (fun c9 => ?_) (fun c9 => ?_)
                · have h := it h c9
                  refine w_iconst 0 94 hX ic_0 dX4_run_94 ?_
                  exact w_sub [2, 3, 4, 5, 6] rfl (bX4_run_8_33_95 hX hR hk6 l2 l4 l5 l4 0 u h)
                · have h := ie h c9
                  refine w_aload_n 4 87 hX rfl rfl dX4_run_87 ?_
                  refine w_iload 0 88 hX rfl dX4_run_88 ?_
                  obtain ⟨x10, gx10, h⟩ := o_bind h
                  refine w_iald 90 hX s_33 gx10 dX4_run_90 ?_
                  refine w_goto (tgt := 95) 91 hX (by decide) dX4_run_91 ?_
                  exact w_sub [2, 3, 4, 5, 6] rfl (bX4_run_8_33_95 hX hR hk6 l2 l4 l5 l4 x10 u h)
              · have h := ie h c8
                refine w_iload 1 75 hX rfl dX4_run_75 ?_
                refine w_goto (tgt := 95) 77 hX (by decide) dX4_run_77 ?_
                exact w_sub [2, 3, 4, 5, 6] rfl (bX4_run_8_33_95 hX hR hk6 l2 l4 l5 l4 x4 u h)
def FX4_run_8_33_L6 : Nat → Int32 → Int32 → Int32 → Mem → Option (Int32 × Mem)
  | 0, _, _, _, _ => none
  | n + 1, l2, l4, l5, u => FX4_run_8_33_b6 (FX4_run_8_33_L6 n) l2 l4 l5 u
theorem lX4_run_8_33_6 {G : Gt} {X : Xt} {v : Int32} {u' : Mem} (hX : CxOk G X cX4_run 9 RX4 (some (.int v), (SHg G), (RHg G), u') 1) (hR : CxRet G X (some .int) (some (.int v), (SHg G), (RHg G), u')) : ∀ (n : Nat) (l2 l4 l5 : Int32) (u : Mem), FX4_run_8_33_L6 n l2 l4 l5 u = some (v, u') → WM G X 6 [(0, .ref 8), (2, .int l2), (3, .ref 33), (4, .int l4), (5, .int l5)] [] (SHg G) (RHg G) u := by
  intro n
  induction n with
  | zero =>
    intro l2 l4 l5 u h
    exact nn_ h
  | succ n ih =>
    intro l2 l4 l5 u h
    exact bX4_run_8_33_6 hX hR ih l2 l4 l5 u h
def FX4_run_8_33 (p1 p2 : Int32) (u : Mem) : Option (Int32 × Mem) :=
  FX4_run_8_33_L6 FU p2 0 p1 u
theorem CX4_run_8_33 {G : Gt} (p1 p2 : Int32) (u : Mem) {v : Int32} {u' : Mem} (h : FX4_run_8_33 p1 p2 u = some (v, u')) : CT G yX4_run cX4_run 9 (some .int) 1 [.ref 8, .int p1, .int p2, .ref 33] (SHg G) (RHg G) u (some (.int v), (SHg G), (RHg G), u') :=
  ct_of (by decide) rfl (Nat.le_of_ble_eq_true rfl) (Nat.le_refl _) (Nat.le_refl _) (fun X hX hR => by
  unfold FX4_run_8_33 at h
  refine w_iconst 0 0 hX ic_0 dX4_run_0 ?_
  refine w_istore (lv' := [(4, .int 0), (0, .ref 8), (1, .int p1), (2, .int p2), (3, .ref 33)]) 1 hX dX4_run_1 (by decide) rfl ?_
  refine w_iload_n 2 3 hX rfl rfl dX4_run_3 ?_
  refine w_istore (lv' := [(5, .int p1), (4, .int 0), (0, .ref 8), (1, .int p1), (2, .int p2), (3, .ref 33)]) 4 hX dX4_run_4 (by decide) rfl ?_
  exact w_sub [2, 4, 5, 1, 0] rfl (lX4_run_8_33_6 hX hR FU p2 0 p1 u h))
def FX4_tell_8_33_b96 (l3 : Int32) (u : Mem) : Option (Int32 × Mem) :=
  some (l3, u)
theorem bX4_tell_8_33_96 {G : Gt} {X : Xt} {v : Int32} {u' : Mem} (hX : CxOk G X cX4_tell 5 RX4 (some (.int v), (SHg G), (RHg G), u') 2) (hR : CxRet G X (some .int) (some (.int v), (SHg G), (RHg G), u')) (l3 : Int32) (u : Mem) (h : FX4_tell_8_33_b96 l3 u = some (v, u')) : WM G X 96 [(3, .int l3)] [] (SHg G) (RHg G) u := by
  unfold FX4_tell_8_33_b96 at h
  refine w_iload_n 0 96 hX rfl rfl dX4_tell_96 ?_
  exact w_iret 97 hX hR dX4_tell_97 (by cases h; rfl)
def FX4_tell_8_33_b90 (k3 : Int32 → Int32 → Int32 → Mem → Option (Int32 × Mem)) (l1 l3 l4 : Int32) (u : Mem) : Option (Int32 × Mem) :=
  k3 l1 l3 (l4 + 1) u
theorem bX4_tell_8_33_90 {G : Gt} {X : Xt} {v : Int32} {u' : Mem} (hX : CxOk G X cX4_tell 5 RX4 (some (.int v), (SHg G), (RHg G), u') 2) (hR : CxRet G X (some .int) (some (.int v), (SHg G), (RHg G), u')) {k3 : Int32 → Int32 → Int32 → Mem → Option (Int32 × Mem)} (hk3 : ∀ (l1 l3 l4 : Int32) (u : Mem), k3 l1 l3 l4 u = some (v, u') → WM G X 3 [(0, .ref 8), (1, .int l1), (2, .ref 33), (3, .int l3), (4, .int l4)] [] (SHg G) (RHg G) u) (l1 l3 l4 : Int32) (u : Mem) (h : FX4_tell_8_33_b90 k3 l1 l3 l4 u = some (v, u')) : WM G X 90 [(0, .ref 8), (1, .int l1), (2, .ref 33), (3, .int l3), (4, .int l4)] [] (SHg G) (RHg G) u := by
  unfold FX4_tell_8_33_b90 at h
  refine w_iinc (lv' := [(4, .int (l4 + 1)), (0, .ref 8), (1, .int l1), (2, .ref 33), (3, .int l3)]) 90 4 hX dX4_tell_90 rfl (inc_1 _) (by decide) rfl ?_
  refine w_goto (tgt := 3) 93 hX (by decide) dX4_tell_93 ?_
  exact w_sub [1, 2, 3, 4, 0] rfl (hk3 l1 l3 (l4 + 1) u h)
def FX4_tell_8_33_b70 (l4 : Int32) (u : Mem) : Option (Int32 × Mem) :=
  (rdA u 11 16 l4).bind fun x1 => (rdA u 12 16 l4).bind fun x2 => bnd2 (FX4_run_8_33 x1 x2 u) fun x3 u4 => some (x3, u4)
theorem bX4_tell_8_33_70 {G : Gt} {X : Xt} {v : Int32} {u' : Mem} (hX : CxOk G X cX4_tell 5 RX4 (some (.int v), (SHg G), (RHg G), u') 2) (hR : CxRet G X (some .int) (some (.int v), (SHg G), (RHg G), u')) (l4 : Int32) (u : Mem) (h : FX4_tell_8_33_b70 l4 u = some (v, u')) : WM G X 70 [(0, .ref 8), (2, .ref 33), (4, .int l4)] [] (SHg G) (RHg G) u := by
  unfold FX4_tell_8_33_b70 at h
  refine w_aload_n 0 70 hX rfl rfl dX4_tell_70 ?_
  refine w_aload_n 0 71 hX rfl rfl dX4_tell_71 ?_
  refine w_getR 72 hX CI_4 s_8 rfl r_8_2 fl_X4_18 rfl dX4_tell_72 ?_
  refine w_iload 2 75 hX rfl dX4_tell_75 ?_
  obtain ⟨x1, gx1, h⟩ := o_bind h
  refine w_iald 77 hX s_11 gx1 dX4_tell_77 ?_
  refine w_aload_n 0 78 hX rfl rfl dX4_tell_78 ?_
  refine w_getR 79 hX CI_4 s_8 rfl r_8_3 fl_X4_21 rfl dX4_tell_79 ?_
  refine w_iload 2 82 hX rfl dX4_tell_82 ?_
  obtain ⟨x2, gx2, h⟩ := o_bind h
  refine w_iald 84 hX s_12 gx2 dX4_tell_84 ?_
  refine w_aload_n 1 85 hX rfl rfl dX4_tell_85 ?_
  obtain ⟨x3, u4, gx3, h⟩ := o_bnd2 h
  refine w_invVi (av := [.int x1, .int x2, .ref 33]) (st := []) 86 hX CI_4 s_8 rfl mv_yX4_run mi_yX4_run ml_X4_41 (CX4_run_8_33 x1 x2 u gx3) rfl (by decide) (Nat.le_of_ble_eq_true rfl) (Nat.le_refl _) (Nat.le_refl _) dX4_tell_86 ?_
  exact w_iret 89 hX hR dX4_tell_89 (by cases h; rfl)
def FX4_tell_8_33_b3 (k3 : Int32 → Int32 → Int32 → Mem → Option (Int32 × Mem)) (l1 l3 l4 : Int32) (u : Mem) : Option (Int32 × Mem) :=
  (if (u 8 7) ≤ l4 then (FX4_tell_8_33_b96 l3 u) else ((if 16 ≤ l4 then (FX4_tell_8_33_b96 l3 u) else ((rdA u 10 16 l4).bind fun x3 => (if x3 = l1 then ((rdA u 12 16 l4).bind fun x5 => (rdA u 13 16 l4).bind fun x6 => (if x5 = x6 then (FX4_tell_8_33_b70 l4 u) else ((rdA u 12 16 l4).bind fun x8 => (rdA u 13 16 l4).bind fun x9 => bnd2 (FX4_run_8_33 x8 x9 u) fun x10 u11 => (if x10 = 1 then (FX4_tell_8_33_b70 l4 u11) else (FX4_tell_8_33_b90 k3 l1 l3 l4 u11))))) else (FX4_tell_8_33_b90 k3 l1 l3 l4 u))))))
theorem bX4_tell_8_33_3 {G : Gt} {X : Xt} {v : Int32} {u' : Mem} (hX : CxOk G X cX4_tell 5 RX4 (some (.int v), (SHg G), (RHg G), u') 2) (hR : CxRet G X (some .int) (some (.int v), (SHg G), (RHg G), u')) {k3 : Int32 → Int32 → Int32 → Mem → Option (Int32 × Mem)} (hk3 : ∀ (l1 l3 l4 : Int32) (u : Mem), k3 l1 l3 l4 u = some (v, u') → WM G X 3 [(0, .ref 8), (1, .int l1), (2, .ref 33), (3, .int l3), (4, .int l4)] [] (SHg G) (RHg G) u) (l1 l3 l4 : Int32) (u : Mem) (h : FX4_tell_8_33_b3 k3 l1 l3 l4 u = some (v, u')) : WM G X 3 [(0, .ref 8), (1, .int l1), (2, .ref 33), (3, .int l3), (4, .int l4)] [] (SHg G) (RHg G) u := by
  unfold FX4_tell_8_33_b3 at h
  refine w_iload 4 3 hX rfl dX4_tell_3 ?_
  refine w_aload_n 0 5 hX rfl rfl dX4_tell_5 ?_
  refine w_getI (j := 7) 6 hX CI_4 s_8 rfl fl_X4_38 rfl dX4_tell_6 ?_
  refine w_icmp_ge (tgt := 96) 9 hX dX4_tell_9 (by decide) (fun c1 => ?_) (fun c1 => ?_)
  · have h := it h c1
    exact w_sub [3] rfl (bX4_tell_8_33_96 hX hR l3 u h)
  · have h := ie h c1
    refine w_iload 4 12 hX rfl dX4_tell_12 ?_
    refine w_bipush 16 14 hX ib_16 dX4_tell_14 ?_
    refine w_icmp_ge (tgt := 96) 16 hX dX4_tell_16 (by decide) (fun c2 => ?_) (fun c2 => ?_)
    · have h := it h c2
      exact w_sub [3] rfl (bX4_tell_8_33_96 hX hR l3 u h)
    · have h := ie h c2
      refine w_aload_n 0 19 hX rfl rfl dX4_tell_19 ?_
      refine w_getR 20 hX CI_4 s_8 rfl r_8_1 fl_X4_15 rfl dX4_tell_20 ?_
      refine w_iload 4 23 hX rfl dX4_tell_23 ?_
      obtain ⟨x3, gx3, h⟩ := o_bind h
      refine w_iald 25 hX s_10 gx3 dX4_tell_25 ?_
      refine w_iload_n 1 26 hX rfl rfl dX4_tell_26 ?_
      refine w_icmp_ne (tgt := 90) 27 hX dX4_tell_27 (by decide) (fun c4 => ?_) (fun c4 => ?_)
      · have h := ie h c4
        exact bX4_tell_8_33_90 hX hR hk3 l1 l3 l4 u h
      · have h := it h c4
        refine w_aload_n 0 30 hX rfl rfl dX4_tell_30 ?_
        refine w_getR 31 hX CI_4 s_8 rfl r_8_3 fl_X4_21 rfl dX4_tell_31 ?_
        refine w_iload 4 34 hX rfl dX4_tell_34 ?_
        obtain ⟨x5, gx5, h⟩ := o_bind h
        refine w_iald 36 hX s_12 gx5 dX4_tell_36 ?_
        refine w_aload_n 0 37 hX rfl rfl dX4_tell_37 ?_
        refine w_getR 38 hX CI_4 s_8 rfl r_8_4 fl_X4_24 rfl dX4_tell_38 ?_
        refine w_iload 4 41 hX rfl dX4_tell_41 ?_
        obtain ⟨x6, gx6, h⟩ := o_bind h
        refine w_iald 43 hX s_13 gx6 dX4_tell_43 ?_
        refine w_icmp_eq (tgt := 70) 44 hX dX4_tell_44 (by decide) (fun c7 => ?_) (fun c7 => ?_)
        · have h := it h c7
          exact w_sub [0, 2, 4] rfl (bX4_tell_8_33_70 hX hR l4 u h)
        · have h := ie h c7
          refine w_aload_n 0 47 hX rfl rfl dX4_tell_47 ?_
          refine w_aload_n 0 48 hX rfl rfl dX4_tell_48 ?_
          refine w_getR 49 hX CI_4 s_8 rfl r_8_3 fl_X4_21 rfl dX4_tell_49 ?_
          refine w_iload 4 52 hX rfl dX4_tell_52 ?_
          obtain ⟨x8, gx8, h⟩ := o_bind h
          refine w_iald 54 hX s_12 gx8 dX4_tell_54 ?_
          refine w_aload_n 0 55 hX rfl rfl dX4_tell_55 ?_
          refine w_getR 56 hX CI_4 s_8 rfl r_8_4 fl_X4_24 rfl dX4_tell_56 ?_
          refine w_iload 4 59 hX rfl dX4_tell_59 ?_
          obtain ⟨x9, gx9, h⟩ := o_bind h
          refine w_iald 61 hX s_13 gx9 dX4_tell_61 ?_
          refine w_aload_n 2 62 hX rfl rfl dX4_tell_62 ?_
          obtain ⟨x10, u11, gx10, h⟩ := o_bnd2 h
          refine w_invVi (av := [.int x8, .int x9, .ref 33]) (st := []) 63 hX CI_4 s_8 rfl mv_yX4_run mi_yX4_run ml_X4_41 (CX4_run_8_33 x8 x9 u gx10) rfl (by decide) (Nat.le_of_ble_eq_true rfl) (Nat.le_refl _) (Nat.le_refl _) dX4_tell_63 ?_
          refine w_iconst 1 66 hX ic_1 dX4_tell_66 ?_
          refine w_icmp_ne (tgt := 90) 67 hX dX4_tell_67 (by decide) (fun c12 => ?_) (fun c12 => ?_)
          · have h := ie h c12
            exact bX4_tell_8_33_90 hX hR hk3 l1 l3 l4 u11 h
          · have h := it h c12
            exact w_sub [0, 2, 4] rfl (bX4_tell_8_33_70 hX hR l4 u11 h)
def FX4_tell_8_33_L3 : Nat → Int32 → Int32 → Int32 → Mem → Option (Int32 × Mem)
  | 0, _, _, _, _ => none
  | n + 1, l1, l3, l4, u => FX4_tell_8_33_b3 (FX4_tell_8_33_L3 n) l1 l3 l4 u
theorem lX4_tell_8_33_3 {G : Gt} {X : Xt} {v : Int32} {u' : Mem} (hX : CxOk G X cX4_tell 5 RX4 (some (.int v), (SHg G), (RHg G), u') 2) (hR : CxRet G X (some .int) (some (.int v), (SHg G), (RHg G), u')) : ∀ (n : Nat) (l1 l3 l4 : Int32) (u : Mem), FX4_tell_8_33_L3 n l1 l3 l4 u = some (v, u') → WM G X 3 [(0, .ref 8), (1, .int l1), (2, .ref 33), (3, .int l3), (4, .int l4)] [] (SHg G) (RHg G) u := by
  intro n
  induction n with
  | zero =>
    intro l1 l3 l4 u h
    exact nn_ h
  | succ n ih =>
    intro l1 l3 l4 u h
    exact bX4_tell_8_33_3 hX hR ih l1 l3 l4 u h
def FX4_tell_8_33 (p1 p3 : Int32) (u : Mem) : Option (Int32 × Mem) :=
  FX4_tell_8_33_L3 FU p1 p3 0 u
theorem CX4_tell_8_33 {G : Gt} (p1 p3 : Int32) (u : Mem) {v : Int32} {u' : Mem} (h : FX4_tell_8_33 p1 p3 u = some (v, u')) : CT G yX4_tell cX4_tell 5 (some .int) 2 [.ref 8, .int p1, .ref 33, .int p3] (SHg G) (RHg G) u (some (.int v), (SHg G), (RHg G), u') :=
  ct_of (by decide) rfl (Nat.le_of_ble_eq_true rfl) (Nat.le_refl _) (Nat.le_refl _) (fun X hX hR => by
  unfold FX4_tell_8_33 at h
  refine w_iconst 0 0 hX ic_0 dX4_tell_0 ?_
  refine w_istore (lv' := [(4, .int 0), (0, .ref 8), (1, .int p1), (2, .ref 33), (3, .int p3)]) 1 hX dX4_tell_1 (by decide) rfl ?_
  exact w_sub [1, 2, 3, 4, 0] rfl (lX4_tell_8_33_3 hX hR FU p1 p3 0 u h))
def FX3_held (p0 p1 : Int32) : Option Int32 :=
  some (if 0 < (if p1 < p0 then p1 else p0) then (if p1 < p0 then p1 else p0) else 0)
theorem CX3_held {G : Gt} (p0 p1 : Int32) (u : Mem) {v : Int32} (h : FX3_held p0 p1 = some v) : CT G yX3_held cX3_held 2 (some .int) 1 [.int p0, .int p1] (SHg G) (RHg G) u (some (.int v), (SHg G), (RHg G), u) :=
  ct_of (by decide) rfl (Nat.le_of_ble_eq_true rfl) (Nat.le_refl _) (Nat.le_refl _) (fun X hX hR => by
  unfold FX3_held at h
  refine w_iconst 0 0 hX ic_0 dX3_held_0 ?_
  refine w_iload_n 0 1 hX rfl rfl dX3_held_1 ?_
  refine w_iload_n 1 2 hX rfl rfl dX3_held_2 ?_
  refine w_min 3 hX ml_X3_115 jm_min_s jm_i jm_min_c (by decide) (Nat.le_of_ble_eq_true rfl) (Nat.le_refl _) (Nat.le_refl _) dX3_held_3 ?_
  refine w_max 6 hX ml_X3_120 jm_max_s jm_i jm_max_c (by decide) (Nat.le_of_ble_eq_true rfl) (Nat.le_refl _) (Nat.le_refl _) dX3_held_6 ?_
  exact w_iret 9 hX hR dX3_held_9 (by cases h; rfl))
def FX3_asked_32_b195 (l1 l2 t1 t2 : Int32) (u : Mem) : Option (Int32 × Mem) :=
  (wrA u 33 9 t1 t2).bind fun u1 => (if l2 = 0 then ((rdA u1 3 12 l1).bind fun x3 => bnd2 (FX4_tell_8_33 0 (x3 - 59) u1) fun x4 u5 => (FX3_held x4 120).bind fun x6 => some (x6, u5)) else ((if l2 = 1 then ((rdA u1 4 12 l1).bind fun x8 => bnd2 (FX4_tell_8_33 1 x8 u1) fun x9 u10 => (FX3_held x9 9).bind fun x11 => some (x11, u10)) else ((if l2 = 2 then (bnd2 (FX4_tell_8_33 2 0 u1) fun x13 u14 => (FX3_held x13 99).bind fun x15 => some (x15, u14)) else (bnd2 (FX4_tell_8_33 3 50 u1) fun x16 u17 => (FX3_held x16 1000).bind fun x18 => some (x18, u17)))))))
theorem bX3_asked_32_195 {G : Gt} {X : Xt} {v : Int32} {u' : Mem} (hX : CxOk G X cX3_asked 4 RX3 (some (.int v), (SHg G), (RHg G), u') 3) (hR : CxRet G X (some .int) (some (.int v), (SHg G), (RHg G), u')) (l1 l2 t1 t2 : Int32) (u : Mem) (h : FX3_asked_32_b195 l1 l2 t1 t2 u = some (v, u')) : WM G X 195 [(0, .ref 32), (1, .int l1), (2, .int l2)] [.int t2, .int t1, .ref 33] (SHg G) (RHg G) u := by
  unfold FX3_asked_32_b195 at h
  obtain ⟨u1, gu1, h⟩ := o_bind h
  refine w_iast 195 hX s_33 gu1 dX3_asked_195 ?_
  refine w_iload_n 2 196 hX rfl rfl dX3_asked_196 ?_
  by_cases c2 : l2 = 0
  · have h := it h c2
    refine w_tabIn (tgt := 224) (off := 27) 197 hX dX3_asked_197 (by rw [c2]; decide) (by rw [c2]; decide) (by rw [c2]; decide) (by decide) ?_
    refine w_aload_n 0 224 hX rfl rfl dX3_asked_224 ?_
    refine w_getR 225 hX CI_3 s_32 rfl r_32_0 fl_X3_17 rfl dX3_asked_225 ?_
    refine w_getR 228 hX CI_9 s_1 rfl r_1_13 fl_X3_103 rfl dX3_asked_228 ?_
    refine w_iconst 0 231 hX ic_0 dX3_asked_231 ?_
    refine w_aload_n 0 232 hX rfl rfl dX3_asked_232 ?_
    refine w_getR 233 hX CI_3 s_32 rfl r_32_4 fl_X3_11 rfl dX3_asked_233 ?_
    refine w_aload_n 0 236 hX rfl rfl dX3_asked_236 ?_
    refine w_getR 237 hX CI_3 s_32 rfl r_32_0 fl_X3_17 rfl dX3_asked_237 ?_
    refine w_getR 240 hX CI_9 s_1 rfl r_1_2 fl_X3_76 rfl dX3_asked_240 ?_
    refine w_iload_n 1 243 hX rfl rfl dX3_asked_243 ?_
    obtain ⟨x3, gx3, h⟩ := o_bind h
    refine w_iald 244 hX s_3 gx3 dX3_asked_244 ?_
    refine w_bipush 59 245 hX ib_59 dX3_asked_245 ?_
    refine w_isub 247 hX dX3_asked_247 ?_
    obtain ⟨x4, u5, gx4, h⟩ := o_bnd2 h
    refine w_invVi (av := [.int 0, .ref 33, .int (x3 - 59)]) (st := []) 248 hX CI_4 s_8 rfl mv_yX4_tell mi_yX4_tell ml_X3_107 (CX4_tell_8_33 0 (x3 - 59) u1 gx4) rfl (by decide) (Nat.le_of_ble_eq_true rfl) (Nat.le_refl _) (Nat.le_refl _) dX3_asked_248 ?_
    refine w_bipush 120 251 hX ib_120 dX3_asked_251 ?_
    obtain ⟨x6, gx6, h⟩ := o_bind h
    refine w_invSi (av := [.int x4, .int 120]) (st := []) 253 hX ms_yX3_held mi_yX3_held ml_X3_111 (CX3_held x4 120 u5 gx6) rfl (by decide) (Nat.le_of_ble_eq_true rfl) (Nat.le_refl _) (Nat.le_refl _) dX3_asked_253 ?_
    exact w_iret 256 hX hR dX3_asked_256 (by cases h; rfl)
  · have h := ie h c2
    by_cases c7 : l2 = 1
    · have h := it h c7
      refine w_tabIn (tgt := 257) (off := 60) 197 hX dX3_asked_197 (by rw [c7]; decide) (by rw [c7]; decide) (by rw [c7]; decide) (by decide) ?_
      refine w_aload_n 0 257 hX rfl rfl dX3_asked_257 ?_
      refine w_getR 258 hX CI_3 s_32 rfl r_32_0 fl_X3_17 rfl dX3_asked_258 ?_
      refine w_getR 261 hX CI_9 s_1 rfl r_1_13 fl_X3_103 rfl dX3_asked_261 ?_
      refine w_iconst 1 264 hX ic_1 dX3_asked_264 ?_
      refine w_aload_n 0 265 hX rfl rfl dX3_asked_265 ?_
      refine w_getR 266 hX CI_3 s_32 rfl r_32_4 fl_X3_11 rfl dX3_asked_266 ?_
      refine w_aload_n 0 269 hX rfl rfl dX3_asked_269 ?_
      refine w_getR 270 hX CI_3 s_32 rfl r_32_0 fl_X3_17 rfl dX3_asked_270 ?_
      refine w_getR 273 hX CI_9 s_1 rfl r_1_3 fl_X3_79 rfl dX3_asked_273 ?_
      refine w_iload_n 1 276 hX rfl rfl dX3_asked_276 ?_
      obtain ⟨x8, gx8, h⟩ := o_bind h
      refine w_iald 277 hX s_4 gx8 dX3_asked_277 ?_
      obtain ⟨x9, u10, gx9, h⟩ := o_bnd2 h
      refine w_invVi (av := [.int 1, .ref 33, .int x8]) (st := []) 278 hX CI_4 s_8 rfl mv_yX4_tell mi_yX4_tell ml_X3_107 (CX4_tell_8_33 1 x8 u1 gx9) rfl (by decide) (Nat.le_of_ble_eq_true rfl) (Nat.le_refl _) (Nat.le_refl _) dX3_asked_278 ?_
      refine w_bipush 9 281 hX ib_9 dX3_asked_281 ?_
      obtain ⟨x11, gx11, h⟩ := o_bind h
      refine w_invSi (av := [.int x9, .int 9]) (st := []) 283 hX ms_yX3_held mi_yX3_held ml_X3_111 (CX3_held x9 9 u10 gx11) rfl (by decide) (Nat.le_of_ble_eq_true rfl) (Nat.le_refl _) (Nat.le_refl _) dX3_asked_283 ?_
      exact w_iret 286 hX hR dX3_asked_286 (by cases h; rfl)
    · have h := ie h c7
      by_cases c12 : l2 = 2
      · have h := it h c12
        refine w_tabIn (tgt := 287) (off := 90) 197 hX dX3_asked_197 (by rw [c12]; decide) (by rw [c12]; decide) (by rw [c12]; decide) (by decide) ?_
        refine w_aload_n 0 287 hX rfl rfl dX3_asked_287 ?_
        refine w_getR 288 hX CI_3 s_32 rfl r_32_0 fl_X3_17 rfl dX3_asked_288 ?_
        refine w_getR 291 hX CI_9 s_1 rfl r_1_13 fl_X3_103 rfl dX3_asked_291 ?_
        refine w_iconst 2 294 hX ic_2 dX3_asked_294 ?_
        refine w_aload_n 0 295 hX rfl rfl dX3_asked_295 ?_
        refine w_getR 296 hX CI_3 s_32 rfl r_32_4 fl_X3_11 rfl dX3_asked_296 ?_
        refine w_iconst 0 299 hX ic_0 dX3_asked_299 ?_
        obtain ⟨x13, u14, gx13, h⟩ := o_bnd2 h
        refine w_invVi (av := [.int 2, .ref 33, .int 0]) (st := []) 300 hX CI_4 s_8 rfl mv_yX4_tell mi_yX4_tell ml_X3_107 (CX4_tell_8_33 2 0 u1 gx13) rfl (by decide) (Nat.le_of_ble_eq_true rfl) (Nat.le_refl _) (Nat.le_refl _) dX3_asked_300 ?_
        refine w_bipush 99 303 hX ib_99 dX3_asked_303 ?_
        obtain ⟨x15, gx15, h⟩ := o_bind h
        refine w_invSi (av := [.int x13, .int 99]) (st := []) 305 hX ms_yX3_held mi_yX3_held ml_X3_111 (CX3_held x13 99 u14 gx15) rfl (by decide) (Nat.le_of_ble_eq_true rfl) (Nat.le_refl _) (Nat.le_refl _) dX3_asked_305 ?_
        exact w_iret 308 hX hR dX3_asked_308 (by cases h; rfl)
      · have h := ie h c12
        have zc2 := lv_neT c2 (a := 0) (by decide)
        have zc7 := lv_neT c7 (a := 1) (by decide)
        have zc12 := lv_neT c12 (a := 2) (by decide)
        refine w_tabOut (tgt := 309) 197 hX dX3_asked_197 (by omega) (by decide) ?_
        refine w_aload_n 0 309 hX rfl rfl dX3_asked_309 ?_
        refine w_getR 310 hX CI_3 s_32 rfl r_32_0 fl_X3_17 rfl dX3_asked_310 ?_
        refine w_getR 313 hX CI_9 s_1 rfl r_1_13 fl_X3_103 rfl dX3_asked_313 ?_
        refine w_iconst 3 316 hX ic_3 dX3_asked_316 ?_
        refine w_aload_n 0 317 hX rfl rfl dX3_asked_317 ?_
        refine w_getR 318 hX CI_3 s_32 rfl r_32_4 fl_X3_11 rfl dX3_asked_318 ?_
        refine w_bipush 50 321 hX ib_50 dX3_asked_321 ?_
        obtain ⟨x16, u17, gx16, h⟩ := o_bnd2 h
        refine w_invVi (av := [.int 3, .ref 33, .int 50]) (st := []) 323 hX CI_4 s_8 rfl mv_yX4_tell mi_yX4_tell ml_X3_107 (CX4_tell_8_33 3 50 u1 gx16) rfl (by decide) (Nat.le_of_ble_eq_true rfl) (Nat.le_refl _) (Nat.le_refl _) dX3_asked_323 ?_
        refine w_sipush 1000 326 hX isp_1000 dX3_asked_326 ?_
        obtain ⟨x18, gx18, h⟩ := o_bind h
        refine w_invSi (av := [.int x16, .int 1000]) (st := []) 329 hX ms_yX3_held mi_yX3_held ml_X3_111 (CX3_held x16 1000 u17 gx18) rfl (by decide) (Nat.le_of_ble_eq_true rfl) (Nat.le_refl _) (Nat.le_refl _) dX3_asked_329 ?_
        exact w_iret 332 hX hR dX3_asked_332 (by cases h; rfl)
def FX3_asked_32_b132 (l1 l2 l3 t1 t2 : Int32) (u : Mem) : Option (Int32 × Mem) :=
  (wrA u 33 9 t1 t2).bind fun u1 => (some (mupd u1 33 6 (u1 23 7))).bind fun u2 => (some (mupd u2 33 7 (u2 1 8))).bind fun u3 => (if l3 = 0 then (FX3_asked_32_b195 l1 l2 8 0 u3) else ((rdA u3 28 12 l1).bind fun x5 => (FX9_isHill_1 x5 u3).bind fun x6 => (if x6 = 0 then (FX3_asked_32_b195 l1 l2 8 0 u3) else (FX3_asked_32_b195 l1 l2 8 1 u3))))
theorem bX3_asked_32_132 {G : Gt} {X : Xt} {v : Int32} {u' : Mem} (hX : CxOk G X cX3_asked 4 RX3 (some (.int v), (SHg G), (RHg G), u') 3) (hR : CxRet G X (some .int) (some (.int v), (SHg G), (RHg G), u')) (l1 l2 l3 t1 t2 : Int32) (u : Mem) (h : FX3_asked_32_b132 l1 l2 l3 t1 t2 u = some (v, u')) : WM G X 132 [(0, .ref 32), (1, .int l1), (2, .int l2), (3, .int l3)] [.int t2, .int t1, .ref 33] (SHg G) (RHg G) u := by
  unfold FX3_asked_32_b132 at h
  obtain ⟨u1, gu1, h⟩ := o_bind h
  refine w_iast 132 hX s_33 gu1 dX3_asked_132 ?_
  refine w_aload_n 0 133 hX rfl rfl dX3_asked_133 ?_
  refine w_getR 134 hX CI_3 s_32 rfl r_32_4 fl_X3_11 rfl dX3_asked_134 ?_
  refine w_bipush 6 137 hX ib_6 dX3_asked_137 ?_
  refine w_aload_n 0 139 hX rfl rfl dX3_asked_139 ?_
  refine w_getR 140 hX CI_3 s_32 rfl r_32_1 fl_X3_21 rfl dX3_asked_140 ?_
  refine w_getI (j := 7) 143 hX CI_0 s_23 rfl fl_X3_52 rfl dX3_asked_143 ?_
  obtain ⟨u2, gu2, h⟩ := o_bind h
  refine w_iast 146 hX s_33 (wrK 6 6 n_6 (by decide) (by decide) gu2) dX3_asked_146 ?_
  refine w_aload_n 0 147 hX rfl rfl dX3_asked_147 ?_
  refine w_getR 148 hX CI_3 s_32 rfl r_32_4 fl_X3_11 rfl dX3_asked_148 ?_
  refine w_bipush 7 151 hX ib_7 dX3_asked_151 ?_
  refine w_aload_n 0 153 hX rfl rfl dX3_asked_153 ?_
  refine w_getR 154 hX CI_3 s_32 rfl r_32_0 fl_X3_17 rfl dX3_asked_154 ?_
  refine w_getI (j := 8) 157 hX CI_9 s_1 rfl fl_X3_97 rfl dX3_asked_157 ?_
  obtain ⟨u3, gu3, h⟩ := o_bind h
  refine w_iast 160 hX s_33 (wrK 7 7 n_7 (by decide) (by decide) gu3) dX3_asked_160 ?_
  refine w_aload_n 0 161 hX rfl rfl dX3_asked_161 ?_
  refine w_getR 162 hX CI_3 s_32 rfl r_32_4 fl_X3_11 rfl dX3_asked_162 ?_
  refine w_bipush 8 165 hX ib_8 dX3_asked_165 ?_
  refine w_iload_n 3 167 hX rfl rfl dX3_asked_167 ?_
  refine w_if_eq (tgt := 194) 168 hX dX3_asked_168 (by decide) (fun c4 => ?_) (fun c4 => ?_)
  · have h := it h c4
    refine w_iconst 0 194 hX ic_0 dX3_asked_194 ?_
    exact w_sub [0, 1, 2] rfl (bX3_asked_32_195 hX hR l1 l2 8 0 u3 h)
  · have h := ie h c4
    refine w_aload_n 0 171 hX rfl rfl dX3_asked_171 ?_
    refine w_getR 172 hX CI_3 s_32 rfl r_32_0 fl_X3_17 rfl dX3_asked_172 ?_
    refine w_aload_n 0 175 hX rfl rfl dX3_asked_175 ?_
    refine w_getR 176 hX CI_3 s_32 rfl r_32_1 fl_X3_21 rfl dX3_asked_176 ?_
    refine w_getR 179 hX CI_0 s_23 rfl r_23_4 fl_X3_94 rfl dX3_asked_179 ?_
    refine w_iload_n 1 182 hX rfl rfl dX3_asked_182 ?_
    obtain ⟨x5, gx5, h⟩ := o_bind h
    refine w_iald 183 hX s_28 gx5 dX3_asked_183 ?_
    obtain ⟨x6, gx6, h⟩ := o_bind h
    refine w_invVi (av := [.int x5]) (st := [.int 8, .ref 33]) 184 hX CI_9 s_1 rfl mv_yX9_isHill mi_yX9_isHill ml_X3_100 (CX9_isHill_1 x5 u3 gx6) rfl (by decide) (Nat.le_of_ble_eq_true rfl) (Nat.le_refl _) (Nat.le_refl _) dX3_asked_184 ?_
    refine w_if_eq (tgt := 194) 187 hX dX3_asked_187 (by decide) (fun c7 => ?_) (fun c7 => ?_)
    · have h := it h c7
      refine w_iconst 0 194 hX ic_0 dX3_asked_194 ?_
      exact w_sub [0, 1, 2] rfl (bX3_asked_32_195 hX hR l1 l2 8 0 u3 h)
    · have h := ie h c7
      refine w_iconst 1 190 hX ic_1 dX3_asked_190 ?_
      refine w_goto (tgt := 195) 191 hX (by decide) dX3_asked_191 ?_
      exact w_sub [0, 1, 2] rfl (bX3_asked_32_195 hX hR l1 l2 8 1 u3 h)
def FX3_asked_32_b31 (l1 l2 t0 : Int32) (u : Mem) : Option (Int32 × Mem) :=
  (rdA u 2 12 l1).bind fun x1 => (some (mupd u 33 0 x1)).bind fun u2 => (rdA u2 3 12 l1).bind fun x3 => (some (mupd u2 33 1 x3)).bind fun u4 => (rdA u4 4 12 l1).bind fun x5 => (some (mupd u4 33 2 x5)).bind fun u6 => (rdA u6 24 12 l1).bind fun x7 => (some (mupd u6 33 3 x7)).bind fun u8 => (rdA u8 25 12 l1).bind fun x9 => (FJ6_bitCount_0f7a4 x9).bind fun x10 => (some (mupd u8 33 4 x10)).bind fun u11 => (if t0 = 0 then (FX3_asked_32_b132 l1 l2 t0 5 0 u11) else ((rdA u11 28 12 l1).bind fun x13 => FX3_asked_32_b132 l1 l2 t0 5 x13 u11))
theorem bX3_asked_32_31 {G : Gt} {X : Xt} {v : Int32} {u' : Mem} (hX : CxOk G X cX3_asked 4 RX3 (some (.int v), (SHg G), (RHg G), u') 3) (hR : CxRet G X (some .int) (some (.int v), (SHg G), (RHg G), u')) (l1 l2 t0 : Int32) (u : Mem) (h : FX3_asked_32_b31 l1 l2 t0 u = some (v, u')) : WM G X 31 [(0, .ref 32), (1, .int l1), (2, .int l2)] [.int t0] (SHg G) (RHg G) u := by
  unfold FX3_asked_32_b31 at h
  refine w_istore_n (lv' := [(3, .int t0), (0, .ref 32), (1, .int l1), (2, .int l2)]) 31 hX rfl dX3_asked_31 (by decide) rfl ?_
  refine w_aload_n 1 32 hX rfl rfl dX3_asked_32 ?_
  refine w_getR 33 hX CI_3 s_32 rfl r_32_4 fl_X3_11 rfl dX3_asked_33 ?_
  refine w_iconst 0 36 hX ic_0 dX3_asked_36 ?_
  refine w_aload_n 1 37 hX rfl rfl dX3_asked_37 ?_
  refine w_getR 38 hX CI_3 s_32 rfl r_32_0 fl_X3_17 rfl dX3_asked_38 ?_
  refine w_getR 41 hX CI_9 s_1 rfl r_1_1 fl_X3_73 rfl dX3_asked_41 ?_
  refine w_iload_n 2 44 hX rfl rfl dX3_asked_44 ?_
  obtain ⟨x1, gx1, h⟩ := o_bind h
  refine w_iald 45 hX s_2 gx1 dX3_asked_45 ?_
  obtain ⟨u2, gu2, h⟩ := o_bind h
  refine w_iast 46 hX s_33 (wrK 0 0 n_0 (by decide) (by decide) gu2) dX3_asked_46 ?_
  refine w_aload_n 1 47 hX rfl rfl dX3_asked_47 ?_
  refine w_getR 48 hX CI_3 s_32 rfl r_32_4 fl_X3_11 rfl dX3_asked_48 ?_
  refine w_iconst 1 51 hX ic_1 dX3_asked_51 ?_
  refine w_aload_n 1 52 hX rfl rfl dX3_asked_52 ?_
  refine w_getR 53 hX CI_3 s_32 rfl r_32_0 fl_X3_17 rfl dX3_asked_53 ?_
  refine w_getR 56 hX CI_9 s_1 rfl r_1_2 fl_X3_76 rfl dX3_asked_56 ?_
  refine w_iload_n 2 59 hX rfl rfl dX3_asked_59 ?_
  obtain ⟨x3, gx3, h⟩ := o_bind h
  refine w_iald 60 hX s_3 gx3 dX3_asked_60 ?_
  obtain ⟨u4, gu4, h⟩ := o_bind h
  refine w_iast 61 hX s_33 (wrK 1 1 n_1 (by decide) (by decide) gu4) dX3_asked_61 ?_
  refine w_aload_n 1 62 hX rfl rfl dX3_asked_62 ?_
  refine w_getR 63 hX CI_3 s_32 rfl r_32_4 fl_X3_11 rfl dX3_asked_63 ?_
  refine w_iconst 2 66 hX ic_2 dX3_asked_66 ?_
  refine w_aload_n 1 67 hX rfl rfl dX3_asked_67 ?_
  refine w_getR 68 hX CI_3 s_32 rfl r_32_0 fl_X3_17 rfl dX3_asked_68 ?_
  refine w_getR 71 hX CI_9 s_1 rfl r_1_3 fl_X3_79 rfl dX3_asked_71 ?_
  refine w_iload_n 2 74 hX rfl rfl dX3_asked_74 ?_
  obtain ⟨x5, gx5, h⟩ := o_bind h
  refine w_iald 75 hX s_4 gx5 dX3_asked_75 ?_
  obtain ⟨u6, gu6, h⟩ := o_bind h
  refine w_iast 76 hX s_33 (wrK 2 2 n_2 (by decide) (by decide) gu6) dX3_asked_76 ?_
  refine w_aload_n 1 77 hX rfl rfl dX3_asked_77 ?_
  refine w_getR 78 hX CI_3 s_32 rfl r_32_4 fl_X3_11 rfl dX3_asked_78 ?_
  refine w_iconst 3 81 hX ic_3 dX3_asked_81 ?_
  refine w_aload_n 1 82 hX rfl rfl dX3_asked_82 ?_
  refine w_getR 83 hX CI_3 s_32 rfl r_32_1 fl_X3_21 rfl dX3_asked_83 ?_
  refine w_getR 86 hX CI_0 s_23 rfl r_23_0 fl_X3_82 rfl dX3_asked_86 ?_
  refine w_iload_n 2 89 hX rfl rfl dX3_asked_89 ?_
  obtain ⟨x7, gx7, h⟩ := o_bind h
  refine w_iald 90 hX s_24 gx7 dX3_asked_90 ?_
  obtain ⟨u8, gu8, h⟩ := o_bind h
  refine w_iast 91 hX s_33 (wrK 3 3 n_3 (by decide) (by decide) gu8) dX3_asked_91 ?_
  refine w_aload_n 1 92 hX rfl rfl dX3_asked_92 ?_
  refine w_getR 93 hX CI_3 s_32 rfl r_32_4 fl_X3_11 rfl dX3_asked_93 ?_
  refine w_iconst 4 96 hX ic_4 dX3_asked_96 ?_
  refine w_aload_n 1 97 hX rfl rfl dX3_asked_97 ?_
  refine w_getR 98 hX CI_3 s_32 rfl r_32_1 fl_X3_21 rfl dX3_asked_98 ?_
  refine w_getR 101 hX CI_0 s_23 rfl r_23_1 fl_X3_85 rfl dX3_asked_101 ?_
  refine w_iload_n 2 104 hX rfl rfl dX3_asked_104 ?_
  obtain ⟨x9, gx9, h⟩ := o_bind h
  refine w_iald 105 hX s_25 gx9 dX3_asked_105 ?_
  obtain ⟨x10, gx10, h⟩ := o_bind h
  refine w_invSi (av := [.int x9]) (st := [.int 4, .ref 33]) 106 hX ms_yJ6_bitCount_0f7a4 mi_yJ6_bitCount_0f7a4 ml_X3_88 (CJ6_bitCount_0f7a4 x9 u8 gx10) rfl (by decide) (Nat.le_of_ble_eq_true rfl) (Nat.le_refl _) (Nat.le_refl _) dX3_asked_106 ?_
  obtain ⟨u11, gu11, h⟩ := o_bind h
  refine w_iast 109 hX s_33 (wrK 4 4 n_4 (by decide) (by decide) gu11) dX3_asked_109 ?_
  refine w_aload_n 1 110 hX rfl rfl dX3_asked_110 ?_
  refine w_getR 111 hX CI_3 s_32 rfl r_32_4 fl_X3_11 rfl dX3_asked_111 ?_
  refine w_iconst 5 114 hX ic_5 dX3_asked_114 ?_
  refine w_iload_n 0 115 hX rfl rfl dX3_asked_115 ?_
  refine w_if_eq (tgt := 131) 116 hX dX3_asked_116 (by decide) (fun c12 => ?_) (fun c12 => ?_)
  · have h := it h c12
    refine w_iconst 0 131 hX ic_0 dX3_asked_131 ?_
    exact w_sub [1, 2, 3, 0] rfl (bX3_asked_32_132 hX hR l1 l2 t0 5 0 u11 h)
  · have h := ie h c12
    refine w_aload_n 1 119 hX rfl rfl dX3_asked_119 ?_
    refine w_getR 120 hX CI_3 s_32 rfl r_32_1 fl_X3_21 rfl dX3_asked_120 ?_
    refine w_getR 123 hX CI_0 s_23 rfl r_23_4 fl_X3_94 rfl dX3_asked_123 ?_
    refine w_iload_n 2 126 hX rfl rfl dX3_asked_126 ?_
    obtain ⟨x13, gx13, h⟩ := o_bind h
    refine w_iald 127 hX s_28 gx13 dX3_asked_127 ?_
    refine w_goto (tgt := 132) 128 hX (by decide) dX3_asked_128 ?_
    exact w_sub [1, 2, 3, 0] rfl (bX3_asked_32_132 hX hR l1 l2 t0 5 x13 u11 h)
def FX3_asked_32 (p1 p2 : Int32) (u : Mem) : Option (Int32 × Mem) :=
  (FX9_hasMan_1 p1 u).bind fun x1 => (if x1 = 0 then (some (0, u)) else ((rdA u 27 12 p1).bind fun x3 => (if x3 = 1 then (FX3_asked_32_b31 p1 p2 1 u) else (FX3_asked_32_b31 p1 p2 0 u))))
theorem CX3_asked_32 {G : Gt} (p1 p2 : Int32) (u : Mem) {v : Int32} {u' : Mem} (h : FX3_asked_32 p1 p2 u = some (v, u')) : CT G yX3_asked cX3_asked 4 (some .int) 3 [.ref 32, .int p1, .int p2] (SHg G) (RHg G) u (some (.int v), (SHg G), (RHg G), u') :=
  ct_of (by decide) rfl (Nat.le_of_ble_eq_true rfl) (Nat.le_refl _) (Nat.le_refl _) (fun X hX hR => by
  unfold FX3_asked_32 at h
  refine w_aload_n 0 0 hX rfl rfl dX3_asked_0 ?_
  refine w_getR 1 hX CI_3 s_32 rfl r_32_0 fl_X3_17 rfl dX3_asked_1 ?_
  refine w_iload_n 1 4 hX rfl rfl dX3_asked_4 ?_
  obtain ⟨x1, gx1, h⟩ := o_bind h
  refine w_invVi (av := [.int p1]) (st := []) 5 hX CI_9 s_1 rfl mv_yX9_hasMan mi_yX9_hasMan ml_X3_64 (CX9_hasMan_1 p1 u gx1) rfl (by decide) (Nat.le_of_ble_eq_true rfl) (Nat.le_refl _) (Nat.le_refl _) dX3_asked_5 ?_
  refine w_if_ne (tgt := 13) 8 hX dX3_asked_8 (by decide) (fun c2 => ?_) (fun c2 => ?_)
  · have h := ie h c2
    refine w_aload_n 0 13 hX rfl rfl dX3_asked_13 ?_
    refine w_getR 14 hX CI_3 s_32 rfl r_32_1 fl_X3_21 rfl dX3_asked_14 ?_
    refine w_getR 17 hX CI_0 s_23 rfl r_23_3 fl_X3_70 rfl dX3_asked_17 ?_
    refine w_iload_n 1 20 hX rfl rfl dX3_asked_20 ?_
    obtain ⟨x3, gx3, h⟩ := o_bind h
    refine w_iald 21 hX s_27 gx3 dX3_asked_21 ?_
    refine w_iconst 1 22 hX ic_1 dX3_asked_22 ?_
    refine w_icmp_ne (tgt := 30) 23 hX dX3_asked_23 (by decide) (fun c4 => ?_) (fun c4 => ?_)
    · have h := ie h c4
      refine w_iconst 0 30 hX ic_0 dX3_asked_30 ?_
      exact bX3_asked_32_31 hX hR p1 p2 0 u h
    · have h := it h c4
      refine w_iconst 1 26 hX ic_1 dX3_asked_26 ?_
      refine w_goto (tgt := 31) 27 hX (by decide) dX3_asked_27 ?_
      exact bX3_asked_32_31 hX hR p1 p2 1 u h
  · have h := it h c2
    refine w_iconst 0 11 hX ic_0 dX3_asked_11 ?_
    exact w_iret 12 hX hR dX3_asked_12 (by cases h; rfl))
def FX11_endOf (p0 : Int32) : Option Int32 :=
  (if p0 = 0 then (some 0) else (some 15))
theorem CX11_endOf {G : Gt} (p0 : Int32) (u : Mem) {v : Int32} (h : FX11_endOf p0 = some v) : CT G yX11_endOf cX11_endOf 1 (some .int) 1 [.int p0] (SHg G) (RHg G) u (some (.int v), (SHg G), (RHg G), u) :=
  ct_of (by decide) rfl (Nat.le_of_ble_eq_true rfl) (Nat.le_refl _) (Nat.le_refl _) (fun X hX hR => by
  unfold FX11_endOf at h
  refine w_iload_n 0 0 hX rfl rfl dX11_endOf_0 ?_
  refine w_if_ne (tgt := 8) 1 hX dX11_endOf_1 (by decide) (fun c1 => ?_) (fun c1 => ?_)
  · have h := ie h c1
    refine w_bipush 15 8 hX ib_15 dX11_endOf_8 ?_
    exact w_iret 10 hX hR dX11_endOf_10 (by cases h; rfl)
  · have h := it h c1
    refine w_iconst 0 4 hX ic_0 dX11_endOf_4 ?_
    refine w_goto (tgt := 10) 5 hX (by decide) dX11_endOf_5 ?_
    exact w_iret 10 hX hR dX11_endOf_10 (by cases h; rfl))
def FX1_write_30 (p1 p2 p3 p4 p5 : Int32) (u : Mem) : Option Mem :=
  (if p1 < 0 then (some u) else ((if 150 ≤ p1 then (some u) else ((wrA u 31 600 (p1 * 4) p2).bind fun u3 => (wrA u3 31 600 ((p1 * 4) + 1) p3).bind fun u4 => (wrA u4 31 600 ((p1 * 4) + 2) p4).bind fun u5 => (wrA u5 31 600 ((p1 * 4) + 3) p5).bind fun u6 => some u6))))
theorem CX1_write_30 {G : Gt} (p1 p2 p3 p4 p5 : Int32) (u : Mem) {u' : Mem} (h : FX1_write_30 p1 p2 p3 p4 p5 u = some u') : CT G yX1_write cX1_write 6 none 1 [.ref 30, .int p1, .int p2, .int p3, .int p4, .int p5] (SHg G) (RHg G) u (none, (SHg G), (RHg G), u') :=
  ct_of (by decide) rfl (Nat.le_of_ble_eq_true rfl) (Nat.le_refl _) (Nat.le_refl _) (fun X hX hR => by
  unfold FX1_write_30 at h
  refine w_iload_n 1 0 hX rfl rfl dX1_write_0 ?_
  refine w_if_lt (tgt := 55) 1 hX dX1_write_1 (by decide) (fun c1 => ?_) (fun c1 => ?_)
  · have h := it h c1
    exact w_vret 55 hX hR dX1_write_55 (by cases h; rfl)
  · have h := ie h c1
    refine w_iload_n 1 4 hX rfl rfl dX1_write_4 ?_
    refine w_sipush 150 5 hX isp_150 dX1_write_5 ?_
    refine w_icmp_ge (tgt := 55) 8 hX dX1_write_8 (by decide) (fun c2 => ?_) (fun c2 => ?_)
    · have h := it h c2
      exact w_vret 55 hX hR dX1_write_55 (by cases h; rfl)
    · have h := ie h c2
      refine w_aload_n 0 11 hX rfl rfl dX1_write_11 ?_
      refine w_getR 12 hX CI_1 s_30 rfl r_30_0 fl_X1_11 rfl dX1_write_12 ?_
      refine w_iload_n 1 15 hX rfl rfl dX1_write_15 ?_
      refine w_iconst 4 16 hX ic_4 dX1_write_16 ?_
      refine w_imul 17 hX dX1_write_17 ?_
      refine w_iload_n 2 18 hX rfl rfl dX1_write_18 ?_
      obtain ⟨u3, gu3, h⟩ := o_bind h
      refine w_iast 19 hX s_31 gu3 dX1_write_19 ?_
      refine w_aload_n 0 20 hX rfl rfl dX1_write_20 ?_
      refine w_getR 21 hX CI_1 s_30 rfl r_30_0 fl_X1_11 rfl dX1_write_21 ?_
      refine w_iload_n 1 24 hX rfl rfl dX1_write_24 ?_
      refine w_iconst 4 25 hX ic_4 dX1_write_25 ?_
      refine w_imul 26 hX dX1_write_26 ?_
      refine w_iconst 1 27 hX ic_1 dX1_write_27 ?_
      refine w_iadd 28 hX dX1_write_28 ?_
      refine w_iload_n 3 29 hX rfl rfl dX1_write_29 ?_
      obtain ⟨u4, gu4, h⟩ := o_bind h
      refine w_iast 30 hX s_31 gu4 dX1_write_30 ?_
      refine w_aload_n 0 31 hX rfl rfl dX1_write_31 ?_
      refine w_getR 32 hX CI_1 s_30 rfl r_30_0 fl_X1_11 rfl dX1_write_32 ?_
      refine w_iload_n 1 35 hX rfl rfl dX1_write_35 ?_
      refine w_iconst 4 36 hX ic_4 dX1_write_36 ?_
      refine w_imul 37 hX dX1_write_37 ?_
      refine w_iconst 2 38 hX ic_2 dX1_write_38 ?_
      refine w_iadd 39 hX dX1_write_39 ?_
      refine w_iload 4 40 hX rfl dX1_write_40 ?_
      obtain ⟨u5, gu5, h⟩ := o_bind h
      refine w_iast 42 hX s_31 gu5 dX1_write_42 ?_
      refine w_aload_n 0 43 hX rfl rfl dX1_write_43 ?_
      refine w_getR 44 hX CI_1 s_30 rfl r_30_0 fl_X1_11 rfl dX1_write_44 ?_
      refine w_iload_n 1 47 hX rfl rfl dX1_write_47 ?_
      refine w_iconst 4 48 hX ic_4 dX1_write_48 ?_
      refine w_imul 49 hX dX1_write_49 ?_
      refine w_iconst 3 50 hX ic_3 dX1_write_50 ?_
      refine w_iadd 51 hX dX1_write_51 ?_
      refine w_iload 5 52 hX rfl dX1_write_52 ?_
      obtain ⟨u6, gu6, h⟩ := o_bind h
      refine w_iast 54 hX s_31 gu6 dX1_write_54 ?_
      exact w_vret 55 hX hR dX1_write_55 (by cases h; rfl))
def FX3_note_32 (p1 p2 p3 : Int32) (u : Mem) : Option Mem :=
  (if (u 32 3) = 0 then (some u) else ((if 150 ≤ (u 23 9) then (some u) else ((FX1_write_30 (u 23 9) (u 23 7) p1 p2 p3 u).bind fun u4 => (some (mupd u4 23 9 ((u4 23 9) + 1))).bind fun u5 => some u5))))
theorem CX3_note_32 {G : Gt} (p1 p2 p3 : Int32) (u : Mem) {u' : Mem} (h : FX3_note_32 p1 p2 p3 u = some u') : CT G yX3_note cX3_note 4 none 2 [.ref 32, .int p1, .int p2, .int p3] (SHg G) (RHg G) u (none, (SHg G), (RHg G), u') :=
  ct_of (by decide) rfl (Nat.le_of_ble_eq_true rfl) (Nat.le_refl _) (Nat.le_refl _) (fun X hX hR => by
  unfold FX3_note_32 at h
  refine w_aload_n 0 0 hX rfl rfl dX3_note_0 ?_
  refine w_getI (j := 3) 1 hX CI_3 s_32 rfl fl_X3_29 rfl dX3_note_1 ?_
  refine w_if_eq (tgt := 57) 4 hX dX3_note_4 (by decide) (fun c1 => ?_) (fun c1 => ?_)
  · have h := it h c1
    exact w_vret 57 hX hR dX3_note_57 (by cases h; rfl)
  · have h := ie h c1
    refine w_aload_n 0 7 hX rfl rfl dX3_note_7 ?_
    refine w_getR 8 hX CI_3 s_32 rfl r_32_1 fl_X3_21 rfl dX3_note_8 ?_
    refine w_getI (j := 9) 11 hX CI_0 s_23 rfl fl_X3_126 rfl dX3_note_11 ?_
    refine w_sipush 150 14 hX isp_150 dX3_note_14 ?_
    refine w_icmp_ge (tgt := 57) 17 hX dX3_note_17 (by decide) (fun c2 => ?_) (fun c2 => ?_)
    · have h := it h c2
      exact w_vret 57 hX hR dX3_note_57 (by cases h; rfl)
    · have h := ie h c2
      refine w_aload_n 0 20 hX rfl rfl dX3_note_20 ?_
      refine w_getR 21 hX CI_3 s_32 rfl r_32_2 fl_X3_25 rfl dX3_note_21 ?_
      refine w_aload_n 0 24 hX rfl rfl dX3_note_24 ?_
      refine w_getR 25 hX CI_3 s_32 rfl r_32_1 fl_X3_21 rfl dX3_note_25 ?_
      refine w_getI (j := 9) 28 hX CI_0 s_23 rfl fl_X3_126 rfl dX3_note_28 ?_
      refine w_aload_n 0 31 hX rfl rfl dX3_note_31 ?_
      refine w_getR 32 hX CI_3 s_32 rfl r_32_1 fl_X3_21 rfl dX3_note_32 ?_
      refine w_getI (j := 7) 35 hX CI_0 s_23 rfl fl_X3_52 rfl dX3_note_35 ?_
      refine w_iload_n 1 38 hX rfl rfl dX3_note_38 ?_
      refine w_iload_n 2 39 hX rfl rfl dX3_note_39 ?_
      refine w_iload_n 3 40 hX rfl rfl dX3_note_40 ?_
      obtain ⟨u4, gu4, h⟩ := o_bind h
      refine w_invVv (av := [.int (u 23 9), .int (u 23 7), .int p1, .int p2, .int p3]) (st := []) 41 hX CI_1 s_30 rfl mv_yX1_write mi_yX1_write ml_X3_129 (CX1_write_30 (u 23 9) (u 23 7) p1 p2 p3 u gu4) rfl (by decide) (Nat.le_of_ble_eq_true rfl) (Nat.le_refl _) (Nat.le_refl _) dX3_note_41 ?_
      refine w_aload_n 0 44 hX rfl rfl dX3_note_44 ?_
      refine w_getR 45 hX CI_3 s_32 rfl r_32_1 fl_X3_21 rfl dX3_note_45 ?_
      refine w_dup 48 hX rfl dX3_note_48 ?_
      refine w_getI (j := 9) 49 hX CI_0 s_23 rfl fl_X3_126 rfl dX3_note_49 ?_
      refine w_iconst 1 52 hX ic_1 dX3_note_52 ?_
      refine w_iadd 53 hX dX3_note_53 ?_
      obtain ⟨u5, gu5, h⟩ := o_bind h
      refine w_putI (j := 9) 54 hX CI_0 s_23 rfl fl_X3_126 rfl rfl rfl rfl dX3_note_54 ?_
      rw [Option.some.inj gu5]
      exact w_vret 57 hX hR dX3_note_57 (by cases h; rfl))
def FX3_callUp_32_b175 (l1 l2 : Int32) (u : Mem) : Option Mem :=
  (if l2 = (-1) then (some u) else ((wrA u 27 12 l2 1).bind fun u2 => (FX11_endOf l1).bind fun x3 => (wrA u2 28 12 l2 x3).bind fun u4 => (FX11_endOf l1).bind fun x5 => (FX3_note_32 0 l2 x5 u4).bind fun u7 => some u7))
theorem bX3_callUp_32_175 {G : Gt} {X : Xt} {u' : Mem} (hX : CxOk G X cX3_callUp 7 RX3 (none, (SHg G), (RHg G), u') 4) (hR : CxRet G X none (none, (SHg G), (RHg G), u')) (l1 l2 : Int32) (u : Mem) (h : FX3_callUp_32_b175 l1 l2 u = some u') : WM G X 175 [(0, .ref 32), (1, .int l1), (2, .int l2)] [] (SHg G) (RHg G) u := by
  unfold FX3_callUp_32_b175 at h
  refine w_iload_n 2 175 hX rfl rfl dX3_callUp_175 ?_
  refine w_iconst (-1) 176 hX ic_m1 dX3_callUp_176 ?_
  refine w_icmp_eq (tgt := 213) 177 hX dX3_callUp_177 (by decide) (fun c1 => ?_) (fun c1 => ?_)
  · have h := it h c1
    exact w_vret 213 hX hR dX3_callUp_213 (by cases h; rfl)
  · have h := ie h c1
    refine w_aload_n 0 180 hX rfl rfl dX3_callUp_180 ?_
    refine w_getR 181 hX CI_3 s_32 rfl r_32_1 fl_X3_21 rfl dX3_callUp_181 ?_
    refine w_getR 184 hX CI_0 s_23 rfl r_23_3 fl_X3_70 rfl dX3_callUp_184 ?_
    refine w_iload_n 2 187 hX rfl rfl dX3_callUp_187 ?_
    refine w_iconst 1 188 hX ic_1 dX3_callUp_188 ?_
    obtain ⟨u2, gu2, h⟩ := o_bind h
    refine w_iast 189 hX s_27 gu2 dX3_callUp_189 ?_
    refine w_aload_n 0 190 hX rfl rfl dX3_callUp_190 ?_
    refine w_getR 191 hX CI_3 s_32 rfl r_32_1 fl_X3_21 rfl dX3_callUp_191 ?_
    refine w_getR 194 hX CI_0 s_23 rfl r_23_4 fl_X3_94 rfl dX3_callUp_194 ?_
    refine w_iload_n 2 197 hX rfl rfl dX3_callUp_197 ?_
    refine w_iload_n 1 198 hX rfl rfl dX3_callUp_198 ?_
    obtain ⟨x3, gx3, h⟩ := o_bind h
    refine w_invSNi (av := [.int l1]) (st := [.int l2, .ref 28]) 199 hX ms_yX11_endOf mi_yX11_endOf ml_X3_150 (CX11_endOf l1 u2 gx3) rfl (by decide) (Nat.le_of_ble_eq_true rfl) (Nat.le_refl _) (Nat.le_refl _) dX3_callUp_199 ?_
    obtain ⟨u4, gu4, h⟩ := o_bind h
    refine w_iast 202 hX s_28 gu4 dX3_callUp_202 ?_
    refine w_aload_n 0 203 hX rfl rfl dX3_callUp_203 ?_
    refine w_iconst 0 204 hX ic_0 dX3_callUp_204 ?_
    refine w_iload_n 2 205 hX rfl rfl dX3_callUp_205 ?_
    refine w_iload_n 1 206 hX rfl rfl dX3_callUp_206 ?_
    obtain ⟨x5, gx5, h⟩ := o_bind h
    refine w_invSNi (av := [.int l1]) (st := [.int l2, .int 0, .ref 32]) 207 hX ms_yX11_endOf mi_yX11_endOf ml_X3_150 (CX11_endOf l1 u4 gx5) rfl (by decide) (Nat.le_of_ble_eq_true rfl) (Nat.le_refl _) (Nat.le_refl _) dX3_callUp_207 ?_
    obtain ⟨u7, gu7, h⟩ := o_bind h
    refine w_invVv (av := [.int 0, .int l2, .int x5]) (st := []) 210 hX CI_3 s_32 rfl mv_yX3_note mi_yX3_note ml_X3_153 (CX3_note_32 0 l2 x5 u4 gu7) rfl (by decide) (Nat.le_of_ble_eq_true rfl) (Nat.le_refl _) (Nat.le_refl _) dX3_callUp_210 ?_
    exact w_vret 213 hX hR dX3_callUp_213 (by cases h; rfl)
def FX3_callUp_32_b169 (k32 : Int32 → Int32 → Int32 → Int32 → Mem → Option Mem) (l1 l2 l3 l4 : Int32) (u : Mem) : Option Mem :=
  k32 l1 l2 l3 (l4 + 1) u
theorem bX3_callUp_32_169 {G : Gt} {X : Xt} {u' : Mem} (hX : CxOk G X cX3_callUp 7 RX3 (none, (SHg G), (RHg G), u') 4) (hR : CxRet G X none (none, (SHg G), (RHg G), u')) {k32 : Int32 → Int32 → Int32 → Int32 → Mem → Option Mem} (hk32 : ∀ (l1 l2 l3 l4 : Int32) (u : Mem), k32 l1 l2 l3 l4 u = some u' → WM G X 32 [(0, .ref 32), (1, .int l1), (2, .int l2), (3, .int l3), (4, .int l4)] [] (SHg G) (RHg G) u) (l1 l2 l3 l4 : Int32) (u : Mem) (h : FX3_callUp_32_b169 k32 l1 l2 l3 l4 u = some u') : WM G X 169 [(0, .ref 32), (1, .int l1), (2, .int l2), (3, .int l3), (4, .int l4)] [] (SHg G) (RHg G) u := by
  unfold FX3_callUp_32_b169 at h
  refine w_iinc (lv' := [(4, .int (l4 + 1)), (0, .ref 32), (1, .int l1), (2, .int l2), (3, .int l3)]) 169 4 hX dX3_callUp_169 rfl (inc_1 _) (by decide) rfl ?_
  refine w_goto (tgt := 32) 172 hX (by decide) dX3_callUp_172 ?_
  exact w_sub [1, 2, 3, 4, 0] rfl (hk32 l1 l2 l3 (l4 + 1) u h)
def FX3_callUp_32_b163 (k32 : Int32 → Int32 → Int32 → Int32 → Mem → Option Mem) (l1 l4 l5 : Int32) (u : Mem) : Option Mem :=
  FX3_callUp_32_b169 k32 l1 l4 l5 l4 u
theorem bX3_callUp_32_163 {G : Gt} {X : Xt} {u' : Mem} (hX : CxOk G X cX3_callUp 7 RX3 (none, (SHg G), (RHg G), u') 4) (hR : CxRet G X none (none, (SHg G), (RHg G), u')) {k32 : Int32 → Int32 → Int32 → Int32 → Mem → Option Mem} (hk32 : ∀ (l1 l2 l3 l4 : Int32) (u : Mem), k32 l1 l2 l3 l4 u = some u' → WM G X 32 [(0, .ref 32), (1, .int l1), (2, .int l2), (3, .int l3), (4, .int l4)] [] (SHg G) (RHg G) u) (l1 l4 l5 : Int32) (u : Mem) (h : FX3_callUp_32_b163 k32 l1 l4 l5 u = some u') : WM G X 163 [(0, .ref 32), (1, .int l1), (4, .int l4), (5, .int l5)] [] (SHg G) (RHg G) u := by
  unfold FX3_callUp_32_b163 at h
  refine w_iload 2 163 hX rfl dX3_callUp_163 ?_
  refine w_istore_n (lv' := [(2, .int l4), (0, .ref 32), (1, .int l1), (4, .int l4), (5, .int l5)]) 165 hX rfl dX3_callUp_165 (by decide) rfl ?_
  refine w_iload 4 166 hX rfl dX3_callUp_166 ?_
  refine w_istore_n (lv' := [(3, .int l5), (2, .int l4), (0, .ref 32), (1, .int l1), (4, .int l4), (5, .int l5)]) 168 hX rfl dX3_callUp_168 (by decide) rfl ?_
  exact w_sub [2, 3, 1, 0, 4] rfl (bX3_callUp_32_169 hX hR hk32 l1 l4 l5 l4 u h)
def FX3_callUp_32_b139 (k32 : Int32 → Int32 → Int32 → Int32 → Mem → Option Mem) (l1 l2 l3 l4 l5 t0 : Int32) (u : Mem) : Option Mem :=
  (if l3 < l5 then (FX3_callUp_32_b163 k32 l1 l4 l5 u) else ((if l2 = (-1) then (FX3_callUp_32_b169 k32 l1 l2 l3 l4 u) else ((if l5 = l3 then ((if t0 = 0 then (FX3_callUp_32_b169 k32 l1 l2 l3 l4 u) else (FX3_callUp_32_b163 k32 l1 l4 l5 u))) else (FX3_callUp_32_b169 k32 l1 l2 l3 l4 u))))))
theorem bX3_callUp_32_139 {G : Gt} {X : Xt} {u' : Mem} (hX : CxOk G X cX3_callUp 7 RX3 (none, (SHg G), (RHg G), u') 4) (hR : CxRet G X none (none, (SHg G), (RHg G), u')) {k32 : Int32 → Int32 → Int32 → Int32 → Mem → Option Mem} (hk32 : ∀ (l1 l2 l3 l4 : Int32) (u : Mem), k32 l1 l2 l3 l4 u = some u' → WM G X 32 [(0, .ref 32), (1, .int l1), (2, .int l2), (3, .int l3), (4, .int l4)] [] (SHg G) (RHg G) u) (l1 l2 l3 l4 l5 t0 : Int32) (u : Mem) (h : FX3_callUp_32_b139 k32 l1 l2 l3 l4 l5 t0 u = some u') : WM G X 139 [(0, .ref 32), (1, .int l1), (2, .int l2), (3, .int l3), (4, .int l4), (5, .int l5)] [.int t0] (SHg G) (RHg G) u := by
  unfold FX3_callUp_32_b139 at h
  refine w_istore (lv' := [(6, .int t0), (0, .ref 32), (1, .int l1), (2, .int l2), (3, .int l3), (4, .int l4), (5, .int l5)]) 139 hX dX3_callUp_139 (by decide) rfl ?_
  refine w_iload 6 141 hX rfl dX3_callUp_141 ?_
  refine w_iload_n 4 143 hX rfl rfl dX3_callUp_143 ?_
  refine w_icmp_gt (tgt := 163) 144 hX dX3_callUp_144 (by decide) (fun c1 => ?_) (fun c1 => ?_)
  · have h := it h c1
    exact w_sub [1, 2, 5, 6] rfl (bX3_callUp_32_163 hX hR hk32 l1 l4 l5 u h)
  · have h := ie h c1
    refine w_iload_n 3 147 hX rfl rfl dX3_callUp_147 ?_
    refine w_iconst (-1) 148 hX ic_m1 dX3_callUp_148 ?_
    refine w_icmp_eq (tgt := 169) 149 hX dX3_callUp_149 (by decide) (fun c2 => ?_) (fun c2 => ?_)
    · have h := it h c2
      exact w_sub [1, 2, 3, 4, 5] rfl (bX3_callUp_32_169 hX hR hk32 l1 l2 l3 l4 u h)
    · have h := ie h c2
      refine w_iload 6 152 hX rfl dX3_callUp_152 ?_
      refine w_iload_n 4 154 hX rfl rfl dX3_callUp_154 ?_
      refine w_icmp_ne (tgt := 169) 155 hX dX3_callUp_155 (by decide) (fun c3 => ?_) (fun c3 => ?_)
      · have h := ie h c3
        exact w_sub [1, 2, 3, 4, 5] rfl (bX3_callUp_32_169 hX hR hk32 l1 l2 l3 l4 u h)
      · have h := it h c3
        refine w_iload 0 158 hX rfl dX3_callUp_158 ?_
        refine w_if_eq (tgt := 169) 160 hX dX3_callUp_160 (by decide) (fun c4 => ?_) (fun c4 => ?_)
        · have h := it h c4
          exact w_sub [1, 2, 3, 4, 5] rfl (bX3_callUp_32_169 hX hR hk32 l1 l2 l3 l4 u h)
        · have h := ie h c4
          exact w_sub [1, 2, 5, 6] rfl (bX3_callUp_32_163 hX hR hk32 l1 l4 l5 u h)
def FX3_callUp_32_b32 (k32 : Int32 → Int32 → Int32 → Int32 → Mem → Option Mem) (l1 l2 l3 l4 : Int32) (u : Mem) : Option Mem :=
  (if 12 ≤ l4 then (FX3_callUp_32_b175 l1 l2 u) else ((if (u 1 0) ≤ l4 then (FX3_callUp_32_b175 l1 l2 u) else ((rdA u 2 12 l4).bind fun x3 => (if x3 = l1 then ((rdA u 27 12 l4).bind fun x5 => (if x5 = 0 then ((rdA u 3 12 l4).bind fun x7 => (if (u 32 5) ≤ x7 then (bnd2 (FX3_asked_32 l4 0 u) fun x9 u10 => (if l2 = (-1) then (FX3_callUp_32_b139 k32 l1 l2 l3 l4 x9 0 u10) else ((rdA u10 3 12 l4).bind fun x12 => (rdA u10 3 12 l2).bind fun x13 => (if x12 ≤ x13 then (FX3_callUp_32_b139 k32 l1 l2 l3 l4 x9 0 u10) else (FX3_callUp_32_b139 k32 l1 l2 l3 l4 x9 1 u10))))) else (FX3_callUp_32_b169 k32 l1 l2 l3 l4 u))) else (FX3_callUp_32_b169 k32 l1 l2 l3 l4 u))) else (FX3_callUp_32_b169 k32 l1 l2 l3 l4 u))))))
theorem bX3_callUp_32_32 {G : Gt} {X : Xt} {u' : Mem} (hX : CxOk G X cX3_callUp 7 RX3 (none, (SHg G), (RHg G), u') 4) (hR : CxRet G X none (none, (SHg G), (RHg G), u')) {k32 : Int32 → Int32 → Int32 → Int32 → Mem → Option Mem} (hk32 : ∀ (l1 l2 l3 l4 : Int32) (u : Mem), k32 l1 l2 l3 l4 u = some u' → WM G X 32 [(0, .ref 32), (1, .int l1), (2, .int l2), (3, .int l3), (4, .int l4)] [] (SHg G) (RHg G) u) (l1 l2 l3 l4 : Int32) (u : Mem) (h : FX3_callUp_32_b32 k32 l1 l2 l3 l4 u = some u') : WM G X 32 [(0, .ref 32), (1, .int l1), (2, .int l2), (3, .int l3), (4, .int l4)] [] (SHg G) (RHg G) u := by
  unfold FX3_callUp_32_b32 at h
  refine w_iload 4 32 hX rfl dX3_callUp_32 ?_
  refine w_bipush 12 34 hX ib_12 dX3_callUp_34 ?_
  refine w_icmp_ge (tgt := 175) 36 hX dX3_callUp_36 (by decide) (fun c1 => ?_) (fun c1 => ?_)
  · have h := it h c1
    exact w_sub [0, 1, 2] rfl (bX3_callUp_32_175 hX hR l1 l2 u h)
  · have h := ie h c1
    refine w_iload 4 39 hX rfl dX3_callUp_39 ?_
    refine w_aload_n 0 41 hX rfl rfl dX3_callUp_41 ?_
    refine w_getR 42 hX CI_3 s_32 rfl r_32_0 fl_X3_17 rfl dX3_callUp_42 ?_
    refine w_getI (j := 0) 45 hX CI_9 s_1 rfl fl_X3_123 rfl dX3_callUp_45 ?_
    refine w_icmp_ge (tgt := 175) 48 hX dX3_callUp_48 (by decide) (fun c2 => ?_) (fun c2 => ?_)
    · have h := it h c2
      exact w_sub [0, 1, 2] rfl (bX3_callUp_32_175 hX hR l1 l2 u h)
    · have h := ie h c2
      refine w_aload_n 0 51 hX rfl rfl dX3_callUp_51 ?_
      refine w_getR 52 hX CI_3 s_32 rfl r_32_0 fl_X3_17 rfl dX3_callUp_52 ?_
      refine w_getR 55 hX CI_9 s_1 rfl r_1_1 fl_X3_73 rfl dX3_callUp_55 ?_
      refine w_iload 4 58 hX rfl dX3_callUp_58 ?_
      obtain ⟨x3, gx3, h⟩ := o_bind h
      refine w_iald 60 hX s_2 gx3 dX3_callUp_60 ?_
      refine w_iload_n 1 61 hX rfl rfl dX3_callUp_61 ?_
      refine w_icmp_ne (tgt := 169) 62 hX dX3_callUp_62 (by decide) (fun c4 => ?_) (fun c4 => ?_)
      · have h := ie h c4
        exact bX3_callUp_32_169 hX hR hk32 l1 l2 l3 l4 u h
      · have h := it h c4
        refine w_aload_n 0 65 hX rfl rfl dX3_callUp_65 ?_
        refine w_getR 66 hX CI_3 s_32 rfl r_32_1 fl_X3_21 rfl dX3_callUp_66 ?_
        refine w_getR 69 hX CI_0 s_23 rfl r_23_3 fl_X3_70 rfl dX3_callUp_69 ?_
        refine w_iload 4 72 hX rfl dX3_callUp_72 ?_
        obtain ⟨x5, gx5, h⟩ := o_bind h
        refine w_iald 74 hX s_27 gx5 dX3_callUp_74 ?_
        refine w_if_ne (tgt := 169) 75 hX dX3_callUp_75 (by decide) (fun c6 => ?_) (fun c6 => ?_)
        · have h := ie h c6
          exact bX3_callUp_32_169 hX hR hk32 l1 l2 l3 l4 u h
        · have h := it h c6
          refine w_aload_n 0 78 hX rfl rfl dX3_callUp_78 ?_
          refine w_getR 79 hX CI_3 s_32 rfl r_32_0 fl_X3_17 rfl dX3_callUp_79 ?_
          refine w_getR 82 hX CI_9 s_1 rfl r_1_2 fl_X3_76 rfl dX3_callUp_82 ?_
          refine w_iload 4 85 hX rfl dX3_callUp_85 ?_
          obtain ⟨x7, gx7, h⟩ := o_bind h
          refine w_iald 87 hX s_3 gx7 dX3_callUp_87 ?_
          refine w_aload_n 0 88 hX rfl rfl dX3_callUp_88 ?_
          refine w_getI (j := 5) 89 hX CI_3 s_32 rfl fl_X3_144 rfl dX3_callUp_89 ?_
          refine w_icmp_ge (tgt := 98) 92 hX dX3_callUp_92 (by decide) (fun c8 => ?_) (fun c8 => ?_)
          · have h := it h c8
            refine w_aload_n 0 98 hX rfl rfl dX3_callUp_98 ?_
            refine w_iload 4 99 hX rfl dX3_callUp_99 ?_
            refine w_iconst 0 101 hX ic_0 dX3_callUp_101 ?_
            obtain ⟨x9, u10, gx9, h⟩ := o_bnd2 h
            refine w_invVi (av := [.int l4, .int 0]) (st := []) 102 hX CI_3 s_32 rfl mv_yX3_asked mi_yX3_asked ml_X3_147 (CX3_asked_32 l4 0 u gx9) rfl (by decide) (Nat.le_of_ble_eq_true rfl) (Nat.le_refl _) (Nat.le_refl _) dX3_callUp_102 ?_
            refine w_istore (lv' := [(5, .int x9), (0, .ref 32), (1, .int l1), (2, .int l2), (3, .int l3), (4, .int l4)]) 105 hX dX3_callUp_105 (by decide) rfl ?_
            refine w_iload_n 3 107 hX rfl rfl dX3_callUp_107 ?_
            refine w_iconst (-1) 108 hX ic_m1 dX3_callUp_108 ?_
            refine w_icmp_eq (tgt := 138) 109 hX dX3_callUp_109 (by decide) (fun c11 => ?_) (fun c11 => ?_)
            · have h := it h c11
              refine w_iconst 0 138 hX ic_0 dX3_callUp_138 ?_
              exact w_sub [1, 2, 3, 4, 5, 0] rfl (bX3_callUp_32_139 hX hR hk32 l1 l2 l3 l4 x9 0 u10 h)
            · have h := ie h c11
              refine w_aload_n 1 112 hX rfl rfl dX3_callUp_112 ?_
              refine w_getR 113 hX CI_3 s_32 rfl r_32_0 fl_X3_17 rfl dX3_callUp_113 ?_
              refine w_getR 116 hX CI_9 s_1 rfl r_1_2 fl_X3_76 rfl dX3_callUp_116 ?_
              refine w_iload 5 119 hX rfl dX3_callUp_119 ?_
              obtain ⟨x12, gx12, h⟩ := o_bind h
              refine w_iald 121 hX s_3 gx12 dX3_callUp_121 ?_
              refine w_aload_n 1 122 hX rfl rfl dX3_callUp_122 ?_
              refine w_getR 123 hX CI_3 s_32 rfl r_32_0 fl_X3_17 rfl dX3_callUp_123 ?_
              refine w_getR 126 hX CI_9 s_1 rfl r_1_2 fl_X3_76 rfl dX3_callUp_126 ?_
              refine w_iload_n 3 129 hX rfl rfl dX3_callUp_129 ?_
              obtain ⟨x13, gx13, h⟩ := o_bind h
              refine w_iald 130 hX s_3 gx13 dX3_callUp_130 ?_
              refine w_icmp_le (tgt := 138) 131 hX dX3_callUp_131 (by decide) (fun c14 => ?_) (fun c14 => ?_)
              · have h := it h c14
                refine w_iconst 0 138 hX ic_0 dX3_callUp_138 ?_
                exact w_sub [1, 2, 3, 4, 5, 0] rfl (bX3_callUp_32_139 hX hR hk32 l1 l2 l3 l4 x9 0 u10 h)
              · have h := ie h c14
                refine w_iconst 1 134 hX ic_1 dX3_callUp_134 ?_
                refine w_goto (tgt := 139) 135 hX (by decide) dX3_callUp_135 ?_
                exact w_sub [1, 2, 3, 4, 5, 0] rfl (bX3_callUp_32_139 hX hR hk32 l1 l2 l3 l4 x9 1 u10 h)
          · have h := ie h c8
            refine w_goto (tgt := 169) 95 hX (by decide) dX3_callUp_95 ?_
            exact bX3_callUp_32_169 hX hR hk32 l1 l2 l3 l4 u h
def FX3_callUp_32_L32 : Nat → Int32 → Int32 → Int32 → Int32 → Mem → Option Mem
  | 0, _, _, _, _, _ => none
  | n + 1, l1, l2, l3, l4, u => FX3_callUp_32_b32 (FX3_callUp_32_L32 n) l1 l2 l3 l4 u
theorem lX3_callUp_32_32 {G : Gt} {X : Xt} {u' : Mem} (hX : CxOk G X cX3_callUp 7 RX3 (none, (SHg G), (RHg G), u') 4) (hR : CxRet G X none (none, (SHg G), (RHg G), u')) : ∀ (n : Nat) (l1 l2 l3 l4 : Int32) (u : Mem), FX3_callUp_32_L32 n l1 l2 l3 l4 u = some u' → WM G X 32 [(0, .ref 32), (1, .int l1), (2, .int l2), (3, .int l3), (4, .int l4)] [] (SHg G) (RHg G) u := by
  intro n
  induction n with
  | zero =>
    intro l1 l2 l3 l4 u h
    exact nn_ h
  | succ n ih =>
    intro l1 l2 l3 l4 u h
    exact bX3_callUp_32_32 hX hR ih l1 l2 l3 l4 u h
def FX3_callUp_32 (p1 : Int32) (u : Mem) : Option Mem :=
  (FX11_isCountry p1).bind fun x1 => (if x1 = 0 then (some u) else ((FX3_howManyInField_32 p1 u).bind fun x3 => (rdA u 6 2 p1).bind fun x4 => (if x3 < x4 then (FX3_callUp_32_L32 FU p1 (-1) 0 0 u) else (some u))))
theorem CX3_callUp_32 {G : Gt} (p1 : Int32) (u : Mem) {u' : Mem} (h : FX3_callUp_32 p1 u = some u') : CT G yX3_callUp cX3_callUp 7 none 4 [.ref 32, .int p1] (SHg G) (RHg G) u (none, (SHg G), (RHg G), u') :=
  ct_of (by decide) rfl (Nat.le_of_ble_eq_true rfl) (Nat.le_refl _) (Nat.le_refl _) (fun X hX hR => by
  unfold FX3_callUp_32 at h
  refine w_iload_n 1 0 hX rfl rfl dX3_callUp_0 ?_
  obtain ⟨x1, gx1, h⟩ := o_bind h
  refine w_invSNi (av := [.int p1]) (st := []) 1 hX ms_yX11_isCountry mi_yX11_isCountry ml_X3_135 (CX11_isCountry p1 u gx1) rfl (by decide) (Nat.le_of_ble_eq_true rfl) (Nat.le_refl _) (Nat.le_refl _) dX3_callUp_1 ?_
  refine w_if_eq (tgt := 24) 4 hX dX3_callUp_4 (by decide) (fun c2 => ?_) (fun c2 => ?_)
  · have h := it h c2
    exact w_vret 24 hX hR dX3_callUp_24 (by cases h; rfl)
  · have h := ie h c2
    refine w_aload_n 0 7 hX rfl rfl dX3_callUp_7 ?_
    refine w_iload_n 1 8 hX rfl rfl dX3_callUp_8 ?_
    obtain ⟨x3, gx3, h⟩ := o_bind h
    refine w_invVi (av := [.int p1]) (st := []) 9 hX CI_3 s_32 rfl mv_yX3_howManyInField mi_yX3_howManyInField ml_X3_138 (CX3_howManyInField_32 p1 u gx3) rfl (by decide) (Nat.le_of_ble_eq_true rfl) (Nat.le_refl _) (Nat.le_refl _) dX3_callUp_9 ?_
    refine w_aload_n 0 12 hX rfl rfl dX3_callUp_12 ?_
    refine w_getR 13 hX CI_3 s_32 rfl r_32_0 fl_X3_17 rfl dX3_callUp_13 ?_
    refine w_getR 16 hX CI_9 s_1 rfl r_1_5 fl_X3_141 rfl dX3_callUp_16 ?_
    refine w_iload_n 1 19 hX rfl rfl dX3_callUp_19 ?_
    obtain ⟨x4, gx4, h⟩ := o_bind h
    refine w_iald 20 hX s_6 gx4 dX3_callUp_20 ?_
    refine w_icmp_lt (tgt := 25) 21 hX dX3_callUp_21 (by decide) (fun c5 => ?_) (fun c5 => ?_)
    · have h := it h c5
      refine w_iconst (-1) 25 hX ic_m1 dX3_callUp_25 ?_
      refine w_istore_n (lv' := [(2, .int (-1)), (0, .ref 32), (1, .int p1)]) 26 hX rfl dX3_callUp_26 (by decide) rfl ?_
      refine w_iconst 0 27 hX ic_0 dX3_callUp_27 ?_
      refine w_istore_n (lv' := [(3, .int 0), (2, .int (-1)), (0, .ref 32), (1, .int p1)]) 28 hX rfl dX3_callUp_28 (by decide) rfl ?_
      refine w_iconst 0 29 hX ic_0 dX3_callUp_29 ?_
      refine w_istore (lv' := [(4, .int 0), (3, .int 0), (2, .int (-1)), (0, .ref 32), (1, .int p1)]) 30 hX dX3_callUp_30 (by decide) rfl ?_
      exact w_sub [3, 4, 2, 1, 0] rfl (lX3_callUp_32_32 hX hR FU p1 (-1) 0 0 u h)
    · have h := ie h c5
      exact w_vret 24 hX hR dX3_callUp_24 (by cases h; rfl))
def FX5_rests_15_b66 (l3 : Int32) (u : Mem) : Option Int32 :=
  (bchk l3).bind fun x1 => some x1
theorem bX5_rests_15_66 {G : Gt} {X : Xt} {v : Int32} {u : Mem} (hX : CxOk G X cX5_rests 5 RX5 (some (.int v), (SHg G), (RHg G), u) 1) (hR : CxRet G X (some .boolean) (some (.int v), (SHg G), (RHg G), u)) (l3 : Int32) (h : FX5_rests_15_b66 l3 u = some v) : WM G X 66 [(3, .int l3)] [] (SHg G) (RHg G) u := by
  unfold FX5_rests_15_b66 at h
  refine w_iload_n 0 66 hX rfl rfl dX5_rests_66 ?_
  obtain ⟨x1, gx1, h⟩ := o_bind h
  obtain ⟨jx1, nx1, mx1⟩ := bchk_ok gx1
  rw [jx1]
  exact w_zret 67 hX hR nx1 dX5_rests_67 (by cases h; rfl)
def FX5_rests_15_b60 (k5 : Int32 → Int32 → Int32 → Int32 → Mem → Option Int32) (l1 l2 l3 l4 : Int32) (u : Mem) : Option Int32 :=
  k5 l1 l2 l3 (l4 + 1) u
theorem bX5_rests_15_60 {G : Gt} {X : Xt} {v : Int32} {u : Mem} (hX : CxOk G X cX5_rests 5 RX5 (some (.int v), (SHg G), (RHg G), u) 1) (hR : CxRet G X (some .boolean) (some (.int v), (SHg G), (RHg G), u)) {k5 : Int32 → Int32 → Int32 → Int32 → Mem → Option Int32} (hk5 : ∀ (l1 l2 l3 l4 : Int32), k5 l1 l2 l3 l4 u = some v → WM G X 5 [(0, .ref 15), (1, .int l1), (2, .int l2), (3, .int l3), (4, .int l4)] [] (SHg G) (RHg G) u) (l1 l2 l3 l4 : Int32) (h : FX5_rests_15_b60 k5 l1 l2 l3 l4 u = some v) : WM G X 60 [(0, .ref 15), (1, .int l1), (2, .int l2), (3, .int l3), (4, .int l4)] [] (SHg G) (RHg G) u := by
  unfold FX5_rests_15_b60 at h
  refine w_iinc (lv' := [(4, .int (l4 + 1)), (0, .ref 15), (1, .int l1), (2, .int l2), (3, .int l3)]) 60 4 hX dX5_rests_60 rfl (inc_1 _) (by decide) rfl ?_
  refine w_goto (tgt := 5) 63 hX (by decide) dX5_rests_63 ?_
  exact w_sub [1, 2, 3, 4, 0] rfl (hk5 l1 l2 l3 (l4 + 1) h)
def FX5_rests_15_b59 (k5 : Int32 → Int32 → Int32 → Int32 → Mem → Option Int32) (l1 l2 l4 t0 : Int32) (u : Mem) : Option Int32 :=
  FX5_rests_15_b60 k5 l1 l2 t0 l4 u
theorem bX5_rests_15_59 {G : Gt} {X : Xt} {v : Int32} {u : Mem} (hX : CxOk G X cX5_rests 5 RX5 (some (.int v), (SHg G), (RHg G), u) 1) (hR : CxRet G X (some .boolean) (some (.int v), (SHg G), (RHg G), u)) {k5 : Int32 → Int32 → Int32 → Int32 → Mem → Option Int32} (hk5 : ∀ (l1 l2 l3 l4 : Int32), k5 l1 l2 l3 l4 u = some v → WM G X 5 [(0, .ref 15), (1, .int l1), (2, .int l2), (3, .int l3), (4, .int l4)] [] (SHg G) (RHg G) u) (l1 l2 l4 t0 : Int32) (h : FX5_rests_15_b59 k5 l1 l2 l4 t0 u = some v) : WM G X 59 [(0, .ref 15), (1, .int l1), (2, .int l2), (4, .int l4)] [.int t0] (SHg G) (RHg G) u := by
  unfold FX5_rests_15_b59 at h
  refine w_istore_n (lv' := [(3, .int t0), (0, .ref 15), (1, .int l1), (2, .int l2), (4, .int l4)]) 59 hX rfl dX5_rests_59 (by decide) rfl ?_
  exact w_sub [1, 2, 3, 0, 4] rfl (bX5_rests_15_60 hX hR hk5 l1 l2 t0 l4 h)
def FX5_rests_15_b5 (k5 : Int32 → Int32 → Int32 → Int32 → Mem → Option Int32) (l1 l2 l3 l4 : Int32) (u : Mem) : Option Int32 :=
  (if (u 15 3) ≤ l4 then (FX5_rests_15_b66 l3 u) else ((if 16 ≤ l4 then (FX5_rests_15_b66 l3 u) else ((rdA u 16 16 l4).bind fun x3 => (if x3 = l1 then ((rdA u 17 16 l4).bind fun x5 => (if x5 = l2 then ((rdA u 18 16 l4).bind fun x7 => (if x7 = 1 then (FX5_rests_15_b59 k5 l1 l2 l4 1 u) else (FX5_rests_15_b59 k5 l1 l2 l4 0 u))) else (FX5_rests_15_b60 k5 l1 l2 l3 l4 u))) else (FX5_rests_15_b60 k5 l1 l2 l3 l4 u))))))
theorem bX5_rests_15_5 {G : Gt} {X : Xt} {v : Int32} {u : Mem} (hX : CxOk G X cX5_rests 5 RX5 (some (.int v), (SHg G), (RHg G), u) 1) (hR : CxRet G X (some .boolean) (some (.int v), (SHg G), (RHg G), u)) {k5 : Int32 → Int32 → Int32 → Int32 → Mem → Option Int32} (hk5 : ∀ (l1 l2 l3 l4 : Int32), k5 l1 l2 l3 l4 u = some v → WM G X 5 [(0, .ref 15), (1, .int l1), (2, .int l2), (3, .int l3), (4, .int l4)] [] (SHg G) (RHg G) u) (l1 l2 l3 l4 : Int32) (h : FX5_rests_15_b5 k5 l1 l2 l3 l4 u = some v) : WM G X 5 [(0, .ref 15), (1, .int l1), (2, .int l2), (3, .int l3), (4, .int l4)] [] (SHg G) (RHg G) u := by
  unfold FX5_rests_15_b5 at h
  refine w_iload 4 5 hX rfl dX5_rests_5 ?_
  refine w_aload_n 0 7 hX rfl rfl dX5_rests_7 ?_
  refine w_getI (j := 3) 8 hX CI_5 s_15 rfl fl_X5_25 rfl dX5_rests_8 ?_
  refine w_icmp_ge (tgt := 66) 11 hX dX5_rests_11 (by decide) (fun c1 => ?_) (fun c1 => ?_)
  · have h := it h c1
    exact w_sub [3] rfl (bX5_rests_15_66 hX hR l3 h)
  · have h := ie h c1
    refine w_iload 4 14 hX rfl dX5_rests_14 ?_
    refine w_bipush 16 16 hX ib_16 dX5_rests_16 ?_
    refine w_icmp_ge (tgt := 66) 18 hX dX5_rests_18 (by decide) (fun c2 => ?_) (fun c2 => ?_)
    · have h := it h c2
      exact w_sub [3] rfl (bX5_rests_15_66 hX hR l3 h)
    · have h := ie h c2
      refine w_aload_n 0 21 hX rfl rfl dX5_rests_21 ?_
      refine w_getR 22 hX CI_5 s_15 rfl r_15_0 fl_X5_9 rfl dX5_rests_22 ?_
      refine w_iload 4 25 hX rfl dX5_rests_25 ?_
      obtain ⟨x3, gx3, h⟩ := o_bind h
      refine w_iald 27 hX s_16 gx3 dX5_rests_27 ?_
      refine w_iload_n 1 28 hX rfl rfl dX5_rests_28 ?_
      refine w_icmp_ne (tgt := 60) 29 hX dX5_rests_29 (by decide) (fun c4 => ?_) (fun c4 => ?_)
      · have h := ie h c4
        exact bX5_rests_15_60 hX hR hk5 l1 l2 l3 l4 h
      · have h := it h c4
        refine w_aload_n 0 32 hX rfl rfl dX5_rests_32 ?_
        refine w_getR 33 hX CI_5 s_15 rfl r_15_1 fl_X5_15 rfl dX5_rests_33 ?_
        refine w_iload 4 36 hX rfl dX5_rests_36 ?_
        obtain ⟨x5, gx5, h⟩ := o_bind h
        refine w_iald 38 hX s_17 gx5 dX5_rests_38 ?_
        refine w_iload_n 2 39 hX rfl rfl dX5_rests_39 ?_
        refine w_icmp_ne (tgt := 60) 40 hX dX5_rests_40 (by decide) (fun c6 => ?_) (fun c6 => ?_)
        · have h := ie h c6
          exact bX5_rests_15_60 hX hR hk5 l1 l2 l3 l4 h
        · have h := it h c6
          refine w_aload_n 0 43 hX rfl rfl dX5_rests_43 ?_
          refine w_getR 44 hX CI_5 s_15 rfl r_15_2 fl_X5_18 rfl dX5_rests_44 ?_
          refine w_iload 4 47 hX rfl dX5_rests_47 ?_
          obtain ⟨x7, gx7, h⟩ := o_bind h
          refine w_iald 49 hX s_18 gx7 dX5_rests_49 ?_
          refine w_iconst 1 50 hX ic_1 dX5_rests_50 ?_
          refine w_icmp_ne (tgt := 58) 51 hX dX5_rests_51 (by decide) (fun c8 => ?_) (fun c8 => ?_)
          · have h := ie h c8
            refine w_iconst 0 58 hX ic_0 dX5_rests_58 ?_
            exact w_sub [0, 1, 2, 4] rfl (bX5_rests_15_59 hX hR hk5 l1 l2 l4 0 h)
          · have h := it h c8
            refine w_iconst 1 54 hX ic_1 dX5_rests_54 ?_
            refine w_goto (tgt := 59) 55 hX (by decide) dX5_rests_55 ?_
            exact w_sub [0, 1, 2, 4] rfl (bX5_rests_15_59 hX hR hk5 l1 l2 l4 1 h)
def FX5_rests_15_L5 : Nat → Int32 → Int32 → Int32 → Int32 → Mem → Option Int32
  | 0, _, _, _, _, _ => none
  | n + 1, l1, l2, l3, l4, u => FX5_rests_15_b5 (FX5_rests_15_L5 n) l1 l2 l3 l4 u
theorem lX5_rests_15_5 {G : Gt} {X : Xt} {v : Int32} {u : Mem} (hX : CxOk G X cX5_rests 5 RX5 (some (.int v), (SHg G), (RHg G), u) 1) (hR : CxRet G X (some .boolean) (some (.int v), (SHg G), (RHg G), u)) : ∀ (n : Nat) (l1 l2 l3 l4 : Int32), FX5_rests_15_L5 n l1 l2 l3 l4 u = some v → WM G X 5 [(0, .ref 15), (1, .int l1), (2, .int l2), (3, .int l3), (4, .int l4)] [] (SHg G) (RHg G) u := by
  intro n
  induction n with
  | zero =>
    intro l1 l2 l3 l4 h
    exact nn_ h
  | succ n ih =>
    intro l1 l2 l3 l4 h
    exact bX5_rests_15_5 hX hR ih l1 l2 l3 l4 h
def FX5_rests_15 (p1 p2 : Int32) (u : Mem) : Option Int32 :=
  FX5_rests_15_L5 FU p1 p2 0 0 u
theorem CX5_rests_15 {G : Gt} (p1 p2 : Int32) (u : Mem) {v : Int32} (h : FX5_rests_15 p1 p2 u = some v) : CT G yX5_rests cX5_rests 5 (some .boolean) 1 [.ref 15, .int p1, .int p2] (SHg G) (RHg G) u (some (.int v), (SHg G), (RHg G), u) :=
  ct_of (by decide) rfl (Nat.le_of_ble_eq_true rfl) (Nat.le_refl _) (Nat.le_refl _) (fun X hX hR => by
  unfold FX5_rests_15 at h
  refine w_iconst 0 0 hX ic_0 dX5_rests_0 ?_
  refine w_istore_n (lv' := [(3, .int 0), (0, .ref 15), (1, .int p1), (2, .int p2)]) 1 hX rfl dX5_rests_1 (by decide) rfl ?_
  refine w_iconst 0 2 hX ic_0 dX5_rests_2 ?_
  refine w_istore (lv' := [(4, .int 0), (3, .int 0), (0, .ref 15), (1, .int p1), (2, .int p2)]) 3 hX dX5_rests_3 (by decide) rfl ?_
  exact w_sub [2, 3, 4, 1, 0] rfl (lX5_rests_15_5 hX hR FU p1 p2 0 0 h))
def FX3_cellsOf_32_b71 (l2 : Int32) (u : Mem) : Option Int32 :=
  some l2
theorem bX3_cellsOf_32_71 {G : Gt} {X : Xt} {v : Int32} {u : Mem} (hX : CxOk G X cX3_cellsOf 4 RX3 (some (.int v), (SHg G), (RHg G), u) 1) (hR : CxRet G X (some .int) (some (.int v), (SHg G), (RHg G), u)) (l2 : Int32) (h : FX3_cellsOf_32_b71 l2 u = some v) : WM G X 71 [(2, .int l2)] [] (SHg G) (RHg G) u := by
  unfold FX3_cellsOf_32_b71 at h
  refine w_iload_n 0 71 hX rfl rfl dX3_cellsOf_71 ?_
  exact w_iret 72 hX hR dX3_cellsOf_72 (by cases h; rfl)
def FX3_cellsOf_32_b63 (k4 : Int32 → Int32 → Int32 → Mem → Option Int32) (l1 l3 t0 t1 : Int32) (u : Mem) : Option Int32 :=
  k4 l1 (t0 ||| t1) (l3 + 1) u
theorem bX3_cellsOf_32_63 {G : Gt} {X : Xt} {v : Int32} {u : Mem} (hX : CxOk G X cX3_cellsOf 4 RX3 (some (.int v), (SHg G), (RHg G), u) 1) (hR : CxRet G X (some .int) (some (.int v), (SHg G), (RHg G), u)) {k4 : Int32 → Int32 → Int32 → Mem → Option Int32} (hk4 : ∀ (l1 l2 l3 : Int32), k4 l1 l2 l3 u = some v → WM G X 4 [(0, .ref 32), (1, .int l1), (2, .int l2), (3, .int l3)] [] (SHg G) (RHg G) u) (l1 l3 t0 t1 : Int32) (h : FX3_cellsOf_32_b63 k4 l1 l3 t0 t1 u = some v) : WM G X 63 [(0, .ref 32), (1, .int l1), (3, .int l3)] [.int t1, .int t0] (SHg G) (RHg G) u := by
  unfold FX3_cellsOf_32_b63 at h
  refine w_ior 63 hX dX3_cellsOf_63 ?_
  refine w_istore_n (lv' := [(2, .int (t0 ||| t1)), (0, .ref 32), (1, .int l1), (3, .int l3)]) 64 hX rfl dX3_cellsOf_64 (by decide) rfl ?_
  refine w_iinc (lv' := [(3, .int (l3 + 1)), (2, .int (t0 ||| t1)), (0, .ref 32), (1, .int l1)]) 65 3 hX dX3_cellsOf_65 rfl (inc_1 _) (by decide) rfl ?_
  refine w_goto (tgt := 4) 68 hX (by decide) dX3_cellsOf_68 ?_
  exact w_sub [2, 3, 1, 0] rfl (hk4 l1 (t0 ||| t1) (l3 + 1) h)
def FX3_cellsOf_32_b4 (k4 : Int32 → Int32 → Int32 → Mem → Option Int32) (l1 l2 l3 : Int32) (u : Mem) : Option Int32 :=
  (if 12 ≤ l3 then (FX3_cellsOf_32_b71 l2 u) else ((if (u 1 0) ≤ l3 then (FX3_cellsOf_32_b71 l2 u) else ((rdA u 2 12 l3).bind fun x3 => (if x3 = l1 then ((rdA u 27 12 l3).bind fun x5 => (if x5 = 1 then ((rdA u 28 12 l3).bind fun x7 => FX3_cellsOf_32_b63 k4 l1 l3 l2 ((1 : Int32) <<< (x7 &&& 31)) u) else (FX3_cellsOf_32_b63 k4 l1 l3 l2 0 u))) else (FX3_cellsOf_32_b63 k4 l1 l3 l2 0 u))))))
theorem bX3_cellsOf_32_4 {G : Gt} {X : Xt} {v : Int32} {u : Mem} (hX : CxOk G X cX3_cellsOf 4 RX3 (some (.int v), (SHg G), (RHg G), u) 1) (hR : CxRet G X (some .int) (some (.int v), (SHg G), (RHg G), u)) {k4 : Int32 → Int32 → Int32 → Mem → Option Int32} (hk4 : ∀ (l1 l2 l3 : Int32), k4 l1 l2 l3 u = some v → WM G X 4 [(0, .ref 32), (1, .int l1), (2, .int l2), (3, .int l3)] [] (SHg G) (RHg G) u) (l1 l2 l3 : Int32) (h : FX3_cellsOf_32_b4 k4 l1 l2 l3 u = some v) : WM G X 4 [(0, .ref 32), (1, .int l1), (2, .int l2), (3, .int l3)] [] (SHg G) (RHg G) u := by
  unfold FX3_cellsOf_32_b4 at h
  refine w_iload_n 3 4 hX rfl rfl dX3_cellsOf_4 ?_
  refine w_bipush 12 5 hX ib_12 dX3_cellsOf_5 ?_
  refine w_icmp_ge (tgt := 71) 7 hX dX3_cellsOf_7 (by decide) (fun c1 => ?_) (fun c1 => ?_)
  · have h := it h c1
    exact w_sub [2] rfl (bX3_cellsOf_32_71 hX hR l2 h)
  · have h := ie h c1
    refine w_iload_n 3 10 hX rfl rfl dX3_cellsOf_10 ?_
    refine w_aload_n 0 11 hX rfl rfl dX3_cellsOf_11 ?_
    refine w_getR 12 hX CI_3 s_32 rfl r_32_0 fl_X3_17 rfl dX3_cellsOf_12 ?_
    refine w_getI (j := 0) 15 hX CI_9 s_1 rfl fl_X3_123 rfl dX3_cellsOf_15 ?_
    refine w_icmp_ge (tgt := 71) 18 hX dX3_cellsOf_18 (by decide) (fun c2 => ?_) (fun c2 => ?_)
    · have h := it h c2
      exact w_sub [2] rfl (bX3_cellsOf_32_71 hX hR l2 h)
    · have h := ie h c2
      refine w_iload_n 2 21 hX rfl rfl dX3_cellsOf_21 ?_
      refine w_aload_n 0 22 hX rfl rfl dX3_cellsOf_22 ?_
      refine w_getR 23 hX CI_3 s_32 rfl r_32_0 fl_X3_17 rfl dX3_cellsOf_23 ?_
      refine w_getR 26 hX CI_9 s_1 rfl r_1_1 fl_X3_73 rfl dX3_cellsOf_26 ?_
      refine w_iload_n 3 29 hX rfl rfl dX3_cellsOf_29 ?_
      obtain ⟨x3, gx3, h⟩ := o_bind h
      refine w_iald 30 hX s_2 gx3 dX3_cellsOf_30 ?_
      refine w_iload_n 1 31 hX rfl rfl dX3_cellsOf_31 ?_
      refine w_icmp_ne (tgt := 62) 32 hX dX3_cellsOf_32 (by decide) (fun c4 => ?_) (fun c4 => ?_)
      · have h := ie h c4
        refine w_iconst 0 62 hX ic_0 dX3_cellsOf_62 ?_
        exact w_sub [0, 1, 3] rfl (bX3_cellsOf_32_63 hX hR hk4 l1 l3 l2 0 h)
      · have h := it h c4
        refine w_aload_n 0 35 hX rfl rfl dX3_cellsOf_35 ?_
        refine w_getR 36 hX CI_3 s_32 rfl r_32_1 fl_X3_21 rfl dX3_cellsOf_36 ?_
        refine w_getR 39 hX CI_0 s_23 rfl r_23_3 fl_X3_70 rfl dX3_cellsOf_39 ?_
        refine w_iload_n 3 42 hX rfl rfl dX3_cellsOf_42 ?_
        obtain ⟨x5, gx5, h⟩ := o_bind h
        refine w_iald 43 hX s_27 gx5 dX3_cellsOf_43 ?_
        refine w_iconst 1 44 hX ic_1 dX3_cellsOf_44 ?_
        refine w_icmp_ne (tgt := 62) 45 hX dX3_cellsOf_45 (by decide) (fun c6 => ?_) (fun c6 => ?_)
        · have h := ie h c6
          refine w_iconst 0 62 hX ic_0 dX3_cellsOf_62 ?_
          exact w_sub [0, 1, 3] rfl (bX3_cellsOf_32_63 hX hR hk4 l1 l3 l2 0 h)
        · have h := it h c6
          refine w_iconst 1 48 hX ic_1 dX3_cellsOf_48 ?_
          refine w_aload_n 0 49 hX rfl rfl dX3_cellsOf_49 ?_
          refine w_getR 50 hX CI_3 s_32 rfl r_32_1 fl_X3_21 rfl dX3_cellsOf_50 ?_
          refine w_getR 53 hX CI_0 s_23 rfl r_23_4 fl_X3_94 rfl dX3_cellsOf_53 ?_
          refine w_iload_n 3 56 hX rfl rfl dX3_cellsOf_56 ?_
          obtain ⟨x7, gx7, h⟩ := o_bind h
          refine w_iald 57 hX s_28 gx7 dX3_cellsOf_57 ?_
          refine w_ishl 58 hX dX3_cellsOf_58 ?_
          refine w_goto (tgt := 63) 59 hX (by decide) dX3_cellsOf_59 ?_
          exact w_sub [0, 1, 3] rfl (bX3_cellsOf_32_63 hX hR hk4 l1 l3 l2 ((1 : Int32) <<< (x7 &&& 31)) h)
def FX3_cellsOf_32_L4 : Nat → Int32 → Int32 → Int32 → Mem → Option Int32
  | 0, _, _, _, _ => none
  | n + 1, l1, l2, l3, u => FX3_cellsOf_32_b4 (FX3_cellsOf_32_L4 n) l1 l2 l3 u
theorem lX3_cellsOf_32_4 {G : Gt} {X : Xt} {v : Int32} {u : Mem} (hX : CxOk G X cX3_cellsOf 4 RX3 (some (.int v), (SHg G), (RHg G), u) 1) (hR : CxRet G X (some .int) (some (.int v), (SHg G), (RHg G), u)) : ∀ (n : Nat) (l1 l2 l3 : Int32), FX3_cellsOf_32_L4 n l1 l2 l3 u = some v → WM G X 4 [(0, .ref 32), (1, .int l1), (2, .int l2), (3, .int l3)] [] (SHg G) (RHg G) u := by
  intro n
  induction n with
  | zero =>
    intro l1 l2 l3 h
    exact nn_ h
  | succ n ih =>
    intro l1 l2 l3 h
    exact bX3_cellsOf_32_4 hX hR ih l1 l2 l3 h
def FX3_cellsOf_32 (p1 : Int32) (u : Mem) : Option Int32 :=
  FX3_cellsOf_32_L4 FU p1 0 0 u
theorem CX3_cellsOf_32 {G : Gt} (p1 : Int32) (u : Mem) {v : Int32} (h : FX3_cellsOf_32 p1 u = some v) : CT G yX3_cellsOf cX3_cellsOf 4 (some .int) 1 [.ref 32, .int p1] (SHg G) (RHg G) u (some (.int v), (SHg G), (RHg G), u) :=
  ct_of (by decide) rfl (Nat.le_of_ble_eq_true rfl) (Nat.le_refl _) (Nat.le_refl _) (fun X hX hR => by
  unfold FX3_cellsOf_32 at h
  refine w_iconst 0 0 hX ic_0 dX3_cellsOf_0 ?_
  refine w_istore_n (lv' := [(2, .int 0), (0, .ref 32), (1, .int p1)]) 1 hX rfl dX3_cellsOf_1 (by decide) rfl ?_
  refine w_iconst 0 2 hX ic_0 dX3_cellsOf_2 ?_
  refine w_istore_n (lv' := [(3, .int 0), (2, .int 0), (0, .ref 32), (1, .int p1)]) 3 hX rfl dX3_cellsOf_3 (by decide) rfl ?_
  exact w_sub [2, 3, 1, 0] rfl (lX3_cellsOf_32_4 hX hR FU p1 0 0 h))
def FX3_walk_32_b110 (k48 : Int32 → Int32 → Int32 → Int32 → Int32 → Mem → Option Mem) (l1 l4 l5 l6 l7 l8 l9 t0 : Int32) (u : Mem) : Option Mem :=
  (if t0 = 0 then ((if l6 < l9 then (some u) else ((rdA u 28 12 l1).bind fun x3 => (FX11_holds l5 x3).bind fun x4 => (if x4 = 0 then ((wrA u 28 12 l1 l8).bind fun u6 => k48 l1 l4 l5 (l6 - l9) (l7 + 1) u6) else (some u))))) else (some u))
theorem bX3_walk_32_110 {G : Gt} {X : Xt} {u' : Mem} (hX : CxOk G X cX3_walk 11 RX3 (none, (SHg G), (RHg G), u') 3) (hR : CxRet G X none (none, (SHg G), (RHg G), u')) {k48 : Int32 → Int32 → Int32 → Int32 → Int32 → Mem → Option Mem} (hk48 : ∀ (l1 l4 l5 l6 l7 : Int32) (u : Mem), k48 l1 l4 l5 l6 l7 u = some u' → WM G X 48 [(0, .ref 32), (1, .int l1), (4, .int l4), (5, .int l5), (6, .int l6), (7, .int l7)] [] (SHg G) (RHg G) u) (l1 l4 l5 l6 l7 l8 l9 t0 : Int32) (u : Mem) (h : FX3_walk_32_b110 k48 l1 l4 l5 l6 l7 l8 l9 t0 u = some u') : WM G X 110 [(0, .ref 32), (1, .int l1), (4, .int l4), (5, .int l5), (6, .int l6), (7, .int l7), (8, .int l8), (9, .int l9)] [.int t0] (SHg G) (RHg G) u := by
  unfold FX3_walk_32_b110 at h
  refine w_istore (lv' := [(10, .int t0), (0, .ref 32), (1, .int l1), (4, .int l4), (5, .int l5), (6, .int l6), (7, .int l7), (8, .int l8), (9, .int l9)]) 110 hX dX3_walk_110 (by decide) rfl ?_
  refine w_iload 0 112 hX rfl dX3_walk_112 ?_
  refine w_if_ne (tgt := 141) 114 hX dX3_walk_114 (by decide) (fun c1 => ?_) (fun c1 => ?_)
  · have h := ie h c1
    exact w_vret 141 hX hR dX3_walk_141 (by cases h; rfl)
  · have h := it h c1
    refine w_iload 8 117 hX rfl dX3_walk_117 ?_
    refine w_iload 5 119 hX rfl dX3_walk_119 ?_
    refine w_icmp_gt (tgt := 141) 121 hX dX3_walk_121 (by decide) (fun c2 => ?_) (fun c2 => ?_)
    · have h := it h c2
      exact w_vret 141 hX hR dX3_walk_141 (by cases h; rfl)
    · have h := ie h c2
      refine w_iload 4 124 hX rfl dX3_walk_124 ?_
      refine w_aload_n 1 126 hX rfl rfl dX3_walk_126 ?_
      refine w_getR 127 hX CI_3 s_32 rfl r_32_1 fl_X3_21 rfl dX3_walk_127 ?_
      refine w_getR 130 hX CI_0 s_23 rfl r_23_4 fl_X3_94 rfl dX3_walk_130 ?_
      refine w_iload_n 2 133 hX rfl rfl dX3_walk_133 ?_
      obtain ⟨x3, gx3, h⟩ := o_bind h
      refine w_iald 134 hX s_28 gx3 dX3_walk_134 ?_
      obtain ⟨x4, gx4, h⟩ := o_bind h
      refine w_invSNi (av := [.int l5, .int x3]) (st := []) 135 hX ms_yX11_holds mi_yX11_holds ml_X3_174 (CX11_holds l5 x3 u gx4) rfl (by decide) (Nat.le_of_ble_eq_true rfl) (Nat.le_refl _) (Nat.le_refl _) dX3_walk_135 ?_
      refine w_if_eq (tgt := 142) 138 hX dX3_walk_138 (by decide) (fun c5 => ?_) (fun c5 => ?_)
      · have h := it h c5
        refine w_aload_n 1 142 hX rfl rfl dX3_walk_142 ?_
        refine w_getR 143 hX CI_3 s_32 rfl r_32_1 fl_X3_21 rfl dX3_walk_143 ?_
        refine w_getR 146 hX CI_0 s_23 rfl r_23_4 fl_X3_94 rfl dX3_walk_146 ?_
        refine w_iload_n 2 149 hX rfl rfl dX3_walk_149 ?_
        refine w_iload 7 150 hX rfl dX3_walk_150 ?_
        obtain ⟨u6, gu6, h⟩ := o_bind h
        refine w_iast 152 hX s_28 gu6 dX3_walk_152 ?_
        refine w_iload 5 153 hX rfl dX3_walk_153 ?_
        refine w_iload 8 155 hX rfl dX3_walk_155 ?_
        refine w_isub 157 hX dX3_walk_157 ?_
        refine w_istore (lv' := [(6, .int (l6 - l9)), (10, .int t0), (0, .ref 32), (1, .int l1), (4, .int l4), (5, .int l5), (7, .int l7), (8, .int l8), (9, .int l9)]) 158 hX dX3_walk_158 (by decide) rfl ?_
        refine w_iinc (lv' := [(7, .int (l7 + 1)), (6, .int (l6 - l9)), (10, .int t0), (0, .ref 32), (1, .int l1), (4, .int l4), (5, .int l5), (8, .int l8), (9, .int l9)]) 160 6 hX dX3_walk_160 rfl (inc_1 _) (by decide) rfl ?_
        refine w_goto (tgt := 48) 163 hX (by decide) dX3_walk_163 ?_
        exact w_sub [3, 4, 5, 6, 1, 0] rfl (hk48 l1 l4 l5 (l6 - l9) (l7 + 1) u6 h)
      · have h := ie h c5
        exact w_vret 141 hX hR dX3_walk_141 (by cases h; rfl)
def FX3_walk_32_b91 (k48 : Int32 → Int32 → Int32 → Int32 → Int32 → Mem → Option Mem) (l1 l4 l5 l6 l7 l8 t0 : Int32) (u : Mem) : Option Mem :=
  (if l8 < 0 then (FX3_walk_32_b110 k48 l1 l4 l5 l6 l7 l8 t0 1 u) else ((if l8 < 16 then (FX3_walk_32_b110 k48 l1 l4 l5 l6 l7 l8 t0 0 u) else (FX3_walk_32_b110 k48 l1 l4 l5 l6 l7 l8 t0 1 u))))
theorem bX3_walk_32_91 {G : Gt} {X : Xt} {u' : Mem} (hX : CxOk G X cX3_walk 11 RX3 (none, (SHg G), (RHg G), u') 3) (hR : CxRet G X none (none, (SHg G), (RHg G), u')) {k48 : Int32 → Int32 → Int32 → Int32 → Int32 → Mem → Option Mem} (hk48 : ∀ (l1 l4 l5 l6 l7 : Int32) (u : Mem), k48 l1 l4 l5 l6 l7 u = some u' → WM G X 48 [(0, .ref 32), (1, .int l1), (4, .int l4), (5, .int l5), (6, .int l6), (7, .int l7)] [] (SHg G) (RHg G) u) (l1 l4 l5 l6 l7 l8 t0 : Int32) (u : Mem) (h : FX3_walk_32_b91 k48 l1 l4 l5 l6 l7 l8 t0 u = some u') : WM G X 91 [(0, .ref 32), (1, .int l1), (4, .int l4), (5, .int l5), (6, .int l6), (7, .int l7), (8, .int l8)] [.int t0] (SHg G) (RHg G) u := by
  unfold FX3_walk_32_b91 at h
  refine w_istore (lv' := [(9, .int t0), (0, .ref 32), (1, .int l1), (4, .int l4), (5, .int l5), (6, .int l6), (7, .int l7), (8, .int l8)]) 91 hX dX3_walk_91 (by decide) rfl ?_
  refine w_iload 7 93 hX rfl dX3_walk_93 ?_
  refine w_if_lt (tgt := 105) 95 hX dX3_walk_95 (by decide) (fun c1 => ?_) (fun c1 => ?_)
  · have h := it h c1
    refine w_iconst 1 105 hX ic_1 dX3_walk_105 ?_
    refine w_goto (tgt := 110) 106 hX (by decide) dX3_walk_106 ?_
    exact w_sub [1, 2, 3, 4, 5, 6, 7, 0] rfl (bX3_walk_32_110 hX hR hk48 l1 l4 l5 l6 l7 l8 t0 1 u h)
  · have h := ie h c1
    refine w_iload 7 98 hX rfl dX3_walk_98 ?_
    refine w_bipush 16 100 hX ib_16 dX3_walk_100 ?_
    refine w_icmp_lt (tgt := 109) 102 hX dX3_walk_102 (by decide) (fun c2 => ?_) (fun c2 => ?_)
    · have h := it h c2
      refine w_iconst 0 109 hX ic_0 dX3_walk_109 ?_
      exact w_sub [1, 2, 3, 4, 5, 6, 7, 0] rfl (bX3_walk_32_110 hX hR hk48 l1 l4 l5 l6 l7 l8 t0 0 u h)
    · have h := ie h c2
      refine w_iconst 1 105 hX ic_1 dX3_walk_105 ?_
      refine w_goto (tgt := 110) 106 hX (by decide) dX3_walk_106 ?_
      exact w_sub [1, 2, 3, 4, 5, 6, 7, 0] rfl (bX3_walk_32_110 hX hR hk48 l1 l4 l5 l6 l7 l8 t0 1 u h)
def FX3_walk_32_b48 (k48 : Int32 → Int32 → Int32 → Int32 → Int32 → Mem → Option Mem) (l1 l4 l5 l6 l7 : Int32) (u : Mem) : Option Mem :=
  (if 16 ≤ l7 then (some u) else ((if l6 ≤ 0 then (some u) else ((rdA u 28 12 l1).bind fun x3 => (FX9_isHill_1 (x3 + l4) u).bind fun x4 => (if x4 = 0 then (FX3_walk_32_b91 k48 l1 l4 l5 l6 l7 (x3 + l4) 1 u) else (FX3_walk_32_b91 k48 l1 l4 l5 l6 l7 (x3 + l4) 2 u))))))
theorem bX3_walk_32_48 {G : Gt} {X : Xt} {u' : Mem} (hX : CxOk G X cX3_walk 11 RX3 (none, (SHg G), (RHg G), u') 3) (hR : CxRet G X none (none, (SHg G), (RHg G), u')) {k48 : Int32 → Int32 → Int32 → Int32 → Int32 → Mem → Option Mem} (hk48 : ∀ (l1 l4 l5 l6 l7 : Int32) (u : Mem), k48 l1 l4 l5 l6 l7 u = some u' → WM G X 48 [(0, .ref 32), (1, .int l1), (4, .int l4), (5, .int l5), (6, .int l6), (7, .int l7)] [] (SHg G) (RHg G) u) (l1 l4 l5 l6 l7 : Int32) (u : Mem) (h : FX3_walk_32_b48 k48 l1 l4 l5 l6 l7 u = some u') : WM G X 48 [(0, .ref 32), (1, .int l1), (4, .int l4), (5, .int l5), (6, .int l6), (7, .int l7)] [] (SHg G) (RHg G) u := by
  unfold FX3_walk_32_b48 at h
  refine w_iload 5 48 hX rfl dX3_walk_48 ?_
  refine w_bipush 16 50 hX ib_16 dX3_walk_50 ?_
  refine w_icmp_ge (tgt := 166) 52 hX dX3_walk_52 (by decide) (fun c1 => ?_) (fun c1 => ?_)
  · have h := it h c1
    exact w_vret 166 hX hR dX3_walk_166 (by cases h; rfl)
  · have h := ie h c1
    refine w_iload 4 55 hX rfl dX3_walk_55 ?_
    refine w_if_le (tgt := 166) 57 hX dX3_walk_57 (by decide) (fun c2 => ?_) (fun c2 => ?_)
    · have h := it h c2
      exact w_vret 166 hX hR dX3_walk_166 (by cases h; rfl)
    · have h := ie h c2
      refine w_aload_n 0 60 hX rfl rfl dX3_walk_60 ?_
      refine w_getR 61 hX CI_3 s_32 rfl r_32_1 fl_X3_21 rfl dX3_walk_61 ?_
      refine w_getR 64 hX CI_0 s_23 rfl r_23_4 fl_X3_94 rfl dX3_walk_64 ?_
      refine w_iload_n 1 67 hX rfl rfl dX3_walk_67 ?_
      obtain ⟨x3, gx3, h⟩ := o_bind h
      refine w_iald 68 hX s_28 gx3 dX3_walk_68 ?_
      refine w_iload 2 69 hX rfl dX3_walk_69 ?_
      refine w_iadd 71 hX dX3_walk_71 ?_
      refine w_istore (lv' := [(8, .int (x3 + l4)), (0, .ref 32), (1, .int l1), (4, .int l4), (5, .int l5), (6, .int l6), (7, .int l7)]) 72 hX dX3_walk_72 (by decide) rfl ?_
      refine w_aload_n 1 74 hX rfl rfl dX3_walk_74 ?_
      refine w_getR 75 hX CI_3 s_32 rfl r_32_0 fl_X3_17 rfl dX3_walk_75 ?_
      refine w_iload 0 78 hX rfl dX3_walk_78 ?_
      obtain ⟨x4, gx4, h⟩ := o_bind h
      refine w_invVi (av := [.int (x3 + l4)]) (st := []) 80 hX CI_9 s_1 rfl mv_yX9_isHill mi_yX9_isHill ml_X3_100 (CX9_isHill_1 (x3 + l4) u gx4) rfl (by decide) (Nat.le_of_ble_eq_true rfl) (Nat.le_refl _) (Nat.le_refl _) dX3_walk_80 ?_
      refine w_if_eq (tgt := 90) 83 hX dX3_walk_83 (by decide) (fun c5 => ?_) (fun c5 => ?_)
      · have h := it h c5
        refine w_iconst 1 90 hX ic_1 dX3_walk_90 ?_
        exact w_sub [1, 2, 3, 4, 5, 6, 0] rfl (bX3_walk_32_91 hX hR hk48 l1 l4 l5 l6 l7 (x3 + l4) 1 u h)
      · have h := ie h c5
        refine w_iconst 2 86 hX ic_2 dX3_walk_86 ?_
        refine w_goto (tgt := 91) 87 hX (by decide) dX3_walk_87 ?_
        exact w_sub [1, 2, 3, 4, 5, 6, 0] rfl (bX3_walk_32_91 hX hR hk48 l1 l4 l5 l6 l7 (x3 + l4) 2 u h)
def FX3_walk_32_L48 : Nat → Int32 → Int32 → Int32 → Int32 → Int32 → Mem → Option Mem
  | 0, _, _, _, _, _, _ => none
  | n + 1, l1, l4, l5, l6, l7, u => FX3_walk_32_b48 (FX3_walk_32_L48 n) l1 l4 l5 l6 l7 u
theorem lX3_walk_32_48 {G : Gt} {X : Xt} {u' : Mem} (hX : CxOk G X cX3_walk 11 RX3 (none, (SHg G), (RHg G), u') 3) (hR : CxRet G X none (none, (SHg G), (RHg G), u')) : ∀ (n : Nat) (l1 l4 l5 l6 l7 : Int32) (u : Mem), FX3_walk_32_L48 n l1 l4 l5 l6 l7 u = some u' → WM G X 48 [(0, .ref 32), (1, .int l1), (4, .int l4), (5, .int l5), (6, .int l6), (7, .int l7)] [] (SHg G) (RHg G) u := by
  intro n
  induction n with
  | zero =>
    intro l1 l4 l5 l6 l7 u h
    exact nn_ h
  | succ n ih =>
    intro l1 l4 l5 l6 l7 u h
    exact bX3_walk_32_48 hX hR ih l1 l4 l5 l6 l7 u h
def FX3_walk_32_b31 (l1 l2 l3 t0 : Int32) (u : Mem) : Option Mem :=
  (FX3_cellsOf_32 (1 - l3) u).bind fun x1 => FX3_walk_32_L48 FU l1 t0 x1 l2 0 u
theorem bX3_walk_32_31 {G : Gt} {X : Xt} {u' : Mem} (hX : CxOk G X cX3_walk 11 RX3 (none, (SHg G), (RHg G), u') 3) (hR : CxRet G X none (none, (SHg G), (RHg G), u')) (l1 l2 l3 t0 : Int32) (u : Mem) (h : FX3_walk_32_b31 l1 l2 l3 t0 u = some u') : WM G X 31 [(0, .ref 32), (1, .int l1), (2, .int l2), (3, .int l3)] [.int t0] (SHg G) (RHg G) u := by
  unfold FX3_walk_32_b31 at h
  refine w_istore (lv' := [(4, .int t0), (0, .ref 32), (1, .int l1), (2, .int l2), (3, .int l3)]) 31 hX dX3_walk_31 (by decide) rfl ?_
  refine w_aload_n 1 33 hX rfl rfl dX3_walk_33 ?_
  refine w_iconst 1 34 hX ic_1 dX3_walk_34 ?_
  refine w_iload_n 4 35 hX rfl rfl dX3_walk_35 ?_
  refine w_isub 36 hX dX3_walk_36 ?_
  obtain ⟨x1, gx1, h⟩ := o_bind h
  refine w_invVi (av := [.int (1 - l3)]) (st := []) 37 hX CI_3 s_32 rfl mv_yX3_cellsOf mi_yX3_cellsOf ml_X3_171 (CX3_cellsOf_32 (1 - l3) u gx1) rfl (by decide) (Nat.le_of_ble_eq_true rfl) (Nat.le_refl _) (Nat.le_refl _) dX3_walk_37 ?_
  refine w_istore (lv' := [(5, .int x1), (4, .int t0), (0, .ref 32), (1, .int l1), (2, .int l2), (3, .int l3)]) 40 hX dX3_walk_40 (by decide) rfl ?_
  refine w_iload_n 4 42 hX rfl rfl dX3_walk_42 ?_
  refine w_istore (lv' := [(6, .int l2), (5, .int x1), (4, .int t0), (0, .ref 32), (1, .int l1), (2, .int l2), (3, .int l3)]) 43 hX dX3_walk_43 (by decide) rfl ?_
  refine w_iconst 0 45 hX ic_0 dX3_walk_45 ?_
  refine w_istore (lv' := [(7, .int 0), (6, .int l2), (5, .int x1), (4, .int t0), (0, .ref 32), (1, .int l1), (2, .int l2), (3, .int l3)]) 46 hX dX3_walk_46 (by decide) rfl ?_
  exact w_sub [4, 5, 3, 2, 1, 0] rfl (lX3_walk_32_48 hX hR FU l1 t0 x1 l2 0 u h)
def FX3_walk_32 (p1 p2 : Int32) (u : Mem) : Option Mem :=
  (FX9_hasMan_1 p1 u).bind fun x1 => (if x1 = 0 then (some u) else ((rdA u 2 12 p1).bind fun x3 => (if x3 = 0 then (FX3_walk_32_b31 p1 p2 x3 1 u) else (FX3_walk_32_b31 p1 p2 x3 (-1) u))))
theorem CX3_walk_32 {G : Gt} (p1 p2 : Int32) (u : Mem) {u' : Mem} (h : FX3_walk_32 p1 p2 u = some u') : CT G yX3_walk cX3_walk 11 none 3 [.ref 32, .int p1, .int p2] (SHg G) (RHg G) u (none, (SHg G), (RHg G), u') :=
  ct_of (by decide) rfl (Nat.le_of_ble_eq_true rfl) (Nat.le_refl _) (Nat.le_refl _) (fun X hX hR => by
  unfold FX3_walk_32 at h
  refine w_aload_n 0 0 hX rfl rfl dX3_walk_0 ?_
  refine w_getR 1 hX CI_3 s_32 rfl r_32_0 fl_X3_17 rfl dX3_walk_1 ?_
  refine w_iload_n 1 4 hX rfl rfl dX3_walk_4 ?_
  obtain ⟨x1, gx1, h⟩ := o_bind h
  refine w_invVi (av := [.int p1]) (st := []) 5 hX CI_9 s_1 rfl mv_yX9_hasMan mi_yX9_hasMan ml_X3_64 (CX9_hasMan_1 p1 u gx1) rfl (by decide) (Nat.le_of_ble_eq_true rfl) (Nat.le_refl _) (Nat.le_refl _) dX3_walk_5 ?_
  refine w_if_ne (tgt := 12) 8 hX dX3_walk_8 (by decide) (fun c2 => ?_) (fun c2 => ?_)
  · have h := ie h c2
    refine w_aload_n 0 12 hX rfl rfl dX3_walk_12 ?_
    refine w_getR 13 hX CI_3 s_32 rfl r_32_0 fl_X3_17 rfl dX3_walk_13 ?_
    refine w_getR 16 hX CI_9 s_1 rfl r_1_1 fl_X3_73 rfl dX3_walk_16 ?_
    refine w_iload_n 1 19 hX rfl rfl dX3_walk_19 ?_
    obtain ⟨x3, gx3, h⟩ := o_bind h
    refine w_iald 20 hX s_2 gx3 dX3_walk_20 ?_
    refine w_istore_n (lv' := [(3, .int x3), (0, .ref 32), (1, .int p1), (2, .int p2)]) 21 hX rfl dX3_walk_21 (by decide) rfl ?_
    refine w_iload_n 0 22 hX rfl rfl dX3_walk_22 ?_
    refine w_if_ne (tgt := 30) 23 hX dX3_walk_23 (by decide) (fun c4 => ?_) (fun c4 => ?_)
    · have h := ie h c4
      refine w_iconst (-1) 30 hX ic_m1 dX3_walk_30 ?_
      exact w_sub [1, 2, 3, 0] rfl (bX3_walk_32_31 hX hR p1 p2 x3 (-1) u h)
    · have h := it h c4
      refine w_iconst 1 26 hX ic_1 dX3_walk_26 ?_
      refine w_goto (tgt := 31) 27 hX (by decide) dX3_walk_27 ?_
      exact w_sub [1, 2, 3, 0] rfl (bX3_walk_32_31 hX hR p1 p2 x3 1 u h)
  · have h := it h c2
    exact w_vret 11 hX hR dX3_walk_11 (by cases h; rfl))
def FX3_goOn_32_b155 (k40 : Int32 → Int32 → Int32 → Mem → Option Mem) (l1 l2 l3 : Int32) (u : Mem) : Option Mem :=
  k40 l1 l2 (l3 + 1) u
theorem bX3_goOn_32_155 {G : Gt} {X : Xt} {u' : Mem} (hX : CxOk G X cX3_goOn 6 RX3 (none, (SHg G), (RHg G), u') 4) (hR : CxRet G X none (none, (SHg G), (RHg G), u')) {k40 : Int32 → Int32 → Int32 → Mem → Option Mem} (hk40 : ∀ (l1 l2 l3 : Int32) (u : Mem), k40 l1 l2 l3 u = some u' → WM G X 40 [(0, .ref 32), (1, .int l1), (2, .int l2), (3, .int l3)] [] (SHg G) (RHg G) u) (l1 l2 l3 : Int32) (u : Mem) (h : FX3_goOn_32_b155 k40 l1 l2 l3 u = some u') : WM G X 155 [(0, .ref 32), (1, .int l1), (2, .int l2), (3, .int l3)] [] (SHg G) (RHg G) u := by
  unfold FX3_goOn_32_b155 at h
  refine w_iinc (lv' := [(3, .int (l3 + 1)), (0, .ref 32), (1, .int l1), (2, .int l2)]) 155 3 hX dX3_goOn_155 rfl (inc_1 _) (by decide) rfl ?_
  refine w_goto (tgt := 40) 158 hX (by decide) dX3_goOn_158 ?_
  exact w_sub [1, 2, 3, 0] rfl (hk40 l1 l2 (l3 + 1) u h)
def FX3_goOn_32_b108 (k40 : Int32 → Int32 → Int32 → Mem → Option Mem) (l1 l2 l3 t0 : Int32) (u : Mem) : Option Mem :=
  (if t0 ≤ 0 then (bnd2 (FX3_asked_32 l3 1 u) fun x2 u3 => (FX3_walk_32 l3 x2 u3).bind fun u5 => FX3_goOn_32_b155 k40 l1 l2 l3 u5) else ((rdA u 24 12 l3).bind fun x6 => (wrA u 24 12 l3 (if (x6 + t0) < 99 then (x6 + t0) else 99)).bind fun u7 => FX3_goOn_32_b155 k40 l1 l2 l3 u7))
theorem bX3_goOn_32_108 {G : Gt} {X : Xt} {u' : Mem} (hX : CxOk G X cX3_goOn 6 RX3 (none, (SHg G), (RHg G), u') 4) (hR : CxRet G X none (none, (SHg G), (RHg G), u')) {k40 : Int32 → Int32 → Int32 → Mem → Option Mem} (hk40 : ∀ (l1 l2 l3 : Int32) (u : Mem), k40 l1 l2 l3 u = some u' → WM G X 40 [(0, .ref 32), (1, .int l1), (2, .int l2), (3, .int l3)] [] (SHg G) (RHg G) u) (l1 l2 l3 t0 : Int32) (u : Mem) (h : FX3_goOn_32_b108 k40 l1 l2 l3 t0 u = some u') : WM G X 108 [(0, .ref 32), (1, .int l1), (2, .int l2), (3, .int l3)] [.int t0] (SHg G) (RHg G) u := by
  unfold FX3_goOn_32_b108 at h
  refine w_istore (lv' := [(5, .int t0), (0, .ref 32), (1, .int l1), (2, .int l2), (3, .int l3)]) 108 hX dX3_goOn_108 (by decide) rfl ?_
  refine w_iload 0 110 hX rfl dX3_goOn_110 ?_
  refine w_if_le (tgt := 144) 112 hX dX3_goOn_112 (by decide) (fun c1 => ?_) (fun c1 => ?_)
  · have h := it h c1
    refine w_aload_n 1 144 hX rfl rfl dX3_goOn_144 ?_
    refine w_iload_n 4 145 hX rfl rfl dX3_goOn_145 ?_
    refine w_aload_n 1 146 hX rfl rfl dX3_goOn_146 ?_
    refine w_iload_n 4 147 hX rfl rfl dX3_goOn_147 ?_
    refine w_iconst 1 148 hX ic_1 dX3_goOn_148 ?_
    obtain ⟨x2, u3, gx2, h⟩ := o_bnd2 h
    refine w_invVi (av := [.int l3, .int 1]) (st := [.int l3, .ref 32]) 149 hX CI_3 s_32 rfl mv_yX3_asked mi_yX3_asked ml_X3_147 (CX3_asked_32 l3 1 u gx2) rfl (by decide) (Nat.le_of_ble_eq_true rfl) (Nat.le_refl _) (Nat.le_refl _) dX3_goOn_149 ?_
    obtain ⟨u5, gu5, h⟩ := o_bind h
    refine w_invVv (av := [.int l3, .int x2]) (st := []) 152 hX CI_3 s_32 rfl mv_yX3_walk mi_yX3_walk ml_X3_167 (CX3_walk_32 l3 x2 u3 gu5) rfl (by decide) (Nat.le_of_ble_eq_true rfl) (Nat.le_refl _) (Nat.le_refl _) dX3_goOn_152 ?_
    exact w_sub [1, 2, 3, 4] rfl (bX3_goOn_32_155 hX hR hk40 l1 l2 l3 u5 h)
  · have h := ie h c1
    refine w_aload_n 1 115 hX rfl rfl dX3_goOn_115 ?_
    refine w_getR 116 hX CI_3 s_32 rfl r_32_1 fl_X3_21 rfl dX3_goOn_116 ?_
    refine w_getR 119 hX CI_0 s_23 rfl r_23_0 fl_X3_82 rfl dX3_goOn_119 ?_
    refine w_iload_n 4 122 hX rfl rfl dX3_goOn_122 ?_
    refine w_bipush 99 123 hX ib_99 dX3_goOn_123 ?_
    refine w_aload_n 1 125 hX rfl rfl dX3_goOn_125 ?_
    refine w_getR 126 hX CI_3 s_32 rfl r_32_1 fl_X3_21 rfl dX3_goOn_126 ?_
    refine w_getR 129 hX CI_0 s_23 rfl r_23_0 fl_X3_82 rfl dX3_goOn_129 ?_
    refine w_iload_n 4 132 hX rfl rfl dX3_goOn_132 ?_
    obtain ⟨x6, gx6, h⟩ := o_bind h
    refine w_iald 133 hX s_24 gx6 dX3_goOn_133 ?_
    refine w_iload 0 134 hX rfl dX3_goOn_134 ?_
    refine w_iadd 136 hX dX3_goOn_136 ?_
    refine w_min 137 hX ml_X3_115 jm_min_s jm_i jm_min_c (by decide) (Nat.le_of_ble_eq_true rfl) (Nat.le_refl _) (Nat.le_refl _) dX3_goOn_137 ?_
    obtain ⟨u7, gu7, h⟩ := o_bind h
    refine w_iast 140 hX s_24 gu7 dX3_goOn_140 ?_
    refine w_goto (tgt := 155) 141 hX (by decide) dX3_goOn_141 ?_
    exact w_sub [1, 2, 3, 4] rfl (bX3_goOn_32_155 hX hR hk40 l1 l2 l3 u7 h)
def FX3_goOn_32_b90 (k40 : Int32 → Int32 → Int32 → Mem → Option Mem) (l1 l2 l3 t0 : Int32) (u : Mem) : Option Mem :=
  (if t0 = 0 then (bnd2 (FX3_asked_32 l3 2 u) fun x2 u3 => FX3_goOn_32_b108 k40 l1 l2 l3 x2 u3) else (FX3_goOn_32_b108 k40 l1 l2 l3 10 u))
theorem bX3_goOn_32_90 {G : Gt} {X : Xt} {u' : Mem} (hX : CxOk G X cX3_goOn 6 RX3 (none, (SHg G), (RHg G), u') 4) (hR : CxRet G X none (none, (SHg G), (RHg G), u')) {k40 : Int32 → Int32 → Int32 → Mem → Option Mem} (hk40 : ∀ (l1 l2 l3 : Int32) (u : Mem), k40 l1 l2 l3 u = some u' → WM G X 40 [(0, .ref 32), (1, .int l1), (2, .int l2), (3, .int l3)] [] (SHg G) (RHg G) u) (l1 l2 l3 t0 : Int32) (u : Mem) (h : FX3_goOn_32_b90 k40 l1 l2 l3 t0 u = some u') : WM G X 90 [(0, .ref 32), (1, .int l1), (2, .int l2), (3, .int l3)] [.int t0] (SHg G) (RHg G) u := by
  unfold FX3_goOn_32_b90 at h
  refine w_istore (lv' := [(4, .int t0), (0, .ref 32), (1, .int l1), (2, .int l2), (3, .int l3)]) 90 hX dX3_goOn_90 (by decide) rfl ?_
  refine w_iload 0 92 hX rfl dX3_goOn_92 ?_
  refine w_if_eq (tgt := 102) 94 hX dX3_goOn_94 (by decide) (fun c1 => ?_) (fun c1 => ?_)
  · have h := it h c1
    refine w_aload_n 1 102 hX rfl rfl dX3_goOn_102 ?_
    refine w_iload_n 4 103 hX rfl rfl dX3_goOn_103 ?_
    refine w_iconst 2 104 hX ic_2 dX3_goOn_104 ?_
    obtain ⟨x2, u3, gx2, h⟩ := o_bnd2 h
    refine w_invVi (av := [.int l3, .int 2]) (st := []) 105 hX CI_3 s_32 rfl mv_yX3_asked mi_yX3_asked ml_X3_147 (CX3_asked_32 l3 2 u gx2) rfl (by decide) (Nat.le_of_ble_eq_true rfl) (Nat.le_refl _) (Nat.le_refl _) dX3_goOn_105 ?_
    exact w_sub [1, 2, 3, 4] rfl (bX3_goOn_32_108 hX hR hk40 l1 l2 l3 x2 u3 h)
  · have h := ie h c1
    refine w_bipush 10 97 hX ib_10 dX3_goOn_97 ?_
    refine w_goto (tgt := 108) 99 hX (by decide) dX3_goOn_99 ?_
    exact w_sub [1, 2, 3, 4] rfl (bX3_goOn_32_108 hX hR hk40 l1 l2 l3 10 u h)
def FX3_goOn_32_b40 (k40 : Int32 → Int32 → Int32 → Mem → Option Mem) (l1 l2 l3 : Int32) (u : Mem) : Option Mem :=
  (if 12 ≤ l3 then (some u) else ((if (u 1 0) ≤ l3 then (some u) else ((rdA u 27 12 l3).bind fun x3 => (if x3 = 1 then ((rdA u 2 12 l3).bind fun x5 => (if x5 = 0 then (FX3_goOn_32_b90 k40 l1 l2 l3 l1 u) else (FX3_goOn_32_b90 k40 l1 l2 l3 l2 u))) else (FX3_goOn_32_b155 k40 l1 l2 l3 u))))))
theorem bX3_goOn_32_40 {G : Gt} {X : Xt} {u' : Mem} (hX : CxOk G X cX3_goOn 6 RX3 (none, (SHg G), (RHg G), u') 4) (hR : CxRet G X none (none, (SHg G), (RHg G), u')) {k40 : Int32 → Int32 → Int32 → Mem → Option Mem} (hk40 : ∀ (l1 l2 l3 : Int32) (u : Mem), k40 l1 l2 l3 u = some u' → WM G X 40 [(0, .ref 32), (1, .int l1), (2, .int l2), (3, .int l3)] [] (SHg G) (RHg G) u) (l1 l2 l3 : Int32) (u : Mem) (h : FX3_goOn_32_b40 k40 l1 l2 l3 u = some u') : WM G X 40 [(0, .ref 32), (1, .int l1), (2, .int l2), (3, .int l3)] [] (SHg G) (RHg G) u := by
  unfold FX3_goOn_32_b40 at h
  refine w_iload_n 3 40 hX rfl rfl dX3_goOn_40 ?_
  refine w_bipush 12 41 hX ib_12 dX3_goOn_41 ?_
  refine w_icmp_ge (tgt := 161) 43 hX dX3_goOn_43 (by decide) (fun c1 => ?_) (fun c1 => ?_)
  · have h := it h c1
    exact w_vret 161 hX hR dX3_goOn_161 (by cases h; rfl)
  · have h := ie h c1
    refine w_iload_n 3 46 hX rfl rfl dX3_goOn_46 ?_
    refine w_aload_n 0 47 hX rfl rfl dX3_goOn_47 ?_
    refine w_getR 48 hX CI_3 s_32 rfl r_32_0 fl_X3_17 rfl dX3_goOn_48 ?_
    refine w_getI (j := 0) 51 hX CI_9 s_1 rfl fl_X3_123 rfl dX3_goOn_51 ?_
    refine w_icmp_ge (tgt := 161) 54 hX dX3_goOn_54 (by decide) (fun c2 => ?_) (fun c2 => ?_)
    · have h := it h c2
      exact w_vret 161 hX hR dX3_goOn_161 (by cases h; rfl)
    · have h := ie h c2
      refine w_aload_n 0 57 hX rfl rfl dX3_goOn_57 ?_
      refine w_getR 58 hX CI_3 s_32 rfl r_32_1 fl_X3_21 rfl dX3_goOn_58 ?_
      refine w_getR 61 hX CI_0 s_23 rfl r_23_3 fl_X3_70 rfl dX3_goOn_61 ?_
      refine w_iload_n 3 64 hX rfl rfl dX3_goOn_64 ?_
      obtain ⟨x3, gx3, h⟩ := o_bind h
      refine w_iald 65 hX s_27 gx3 dX3_goOn_65 ?_
      refine w_iconst 1 66 hX ic_1 dX3_goOn_66 ?_
      refine w_icmp_eq (tgt := 73) 67 hX dX3_goOn_67 (by decide) (fun c4 => ?_) (fun c4 => ?_)
      · have h := it h c4
        refine w_aload_n 0 73 hX rfl rfl dX3_goOn_73 ?_
        refine w_getR 74 hX CI_3 s_32 rfl r_32_0 fl_X3_17 rfl dX3_goOn_74 ?_
        refine w_getR 77 hX CI_9 s_1 rfl r_1_1 fl_X3_73 rfl dX3_goOn_77 ?_
        refine w_iload_n 3 80 hX rfl rfl dX3_goOn_80 ?_
        obtain ⟨x5, gx5, h⟩ := o_bind h
        refine w_iald 81 hX s_2 gx5 dX3_goOn_81 ?_
        refine w_if_ne (tgt := 89) 82 hX dX3_goOn_82 (by decide) (fun c6 => ?_) (fun c6 => ?_)
        · have h := ie h c6
          refine w_iload_n 2 89 hX rfl rfl dX3_goOn_89 ?_
          exact bX3_goOn_32_90 hX hR hk40 l1 l2 l3 l2 u h
        · have h := it h c6
          refine w_iload_n 1 85 hX rfl rfl dX3_goOn_85 ?_
          refine w_goto (tgt := 90) 86 hX (by decide) dX3_goOn_86 ?_
          exact bX3_goOn_32_90 hX hR hk40 l1 l2 l3 l1 u h
      · have h := ie h c4
        refine w_goto (tgt := 155) 70 hX (by decide) dX3_goOn_70 ?_
        exact bX3_goOn_32_155 hX hR hk40 l1 l2 l3 u h
def FX3_goOn_32_L40 : Nat → Int32 → Int32 → Int32 → Mem → Option Mem
  | 0, _, _, _, _ => none
  | n + 1, l1, l2, l3, u => FX3_goOn_32_b40 (FX3_goOn_32_L40 n) l1 l2 l3 u
theorem lX3_goOn_32_40 {G : Gt} {X : Xt} {u' : Mem} (hX : CxOk G X cX3_goOn 6 RX3 (none, (SHg G), (RHg G), u') 4) (hR : CxRet G X none (none, (SHg G), (RHg G), u')) : ∀ (n : Nat) (l1 l2 l3 : Int32) (u : Mem), FX3_goOn_32_L40 n l1 l2 l3 u = some u' → WM G X 40 [(0, .ref 32), (1, .int l1), (2, .int l2), (3, .int l3)] [] (SHg G) (RHg G) u := by
  intro n
  induction n with
  | zero =>
    intro l1 l2 l3 u h
    exact nn_ h
  | succ n ih =>
    intro l1 l2 l3 u h
    exact bX3_goOn_32_40 hX hR ih l1 l2 l3 u h
def FX3_goOn_32 (u : Mem) : Option Mem :=
  (FX5_rests_15 (u 23 7) 0 u).bind fun x1 => (FX5_rests_15 (u 23 7) 1 u).bind fun x2 => FX3_goOn_32_L40 FU x1 x2 0 u
theorem CX3_goOn_32 {G : Gt} (u : Mem) {u' : Mem} (h : FX3_goOn_32 u = some u') : CT G yX3_goOn cX3_goOn 6 none 4 [.ref 32] (SHg G) (RHg G) u (none, (SHg G), (RHg G), u') :=
  ct_of (by decide) rfl (Nat.le_of_ble_eq_true rfl) (Nat.le_refl _) (Nat.le_refl _) (fun X hX hR => by
  unfold FX3_goOn_32 at h
  refine w_aload_n 0 0 hX rfl rfl dX3_goOn_0 ?_
  refine w_getR 1 hX CI_3 s_32 rfl r_32_0 fl_X3_17 rfl dX3_goOn_1 ?_
  refine w_getR 4 hX CI_9 s_1 rfl r_1_14 fl_X3_157 rfl dX3_goOn_4 ?_
  refine w_aload_n 0 7 hX rfl rfl dX3_goOn_7 ?_
  refine w_getR 8 hX CI_3 s_32 rfl r_32_1 fl_X3_21 rfl dX3_goOn_8 ?_
  refine w_getI (j := 7) 11 hX CI_0 s_23 rfl fl_X3_52 rfl dX3_goOn_11 ?_
  refine w_iconst 0 14 hX ic_0 dX3_goOn_14 ?_
  obtain ⟨x1, gx1, h⟩ := o_bind h
  refine w_invVi (av := [.int (u 23 7), .int 0]) (st := []) 15 hX CI_5 s_15 rfl mv_yX5_rests mi_yX5_rests ml_X3_161 (CX5_rests_15 (u 23 7) 0 u gx1) rfl (by decide) (Nat.le_of_ble_eq_true rfl) (Nat.le_refl _) (Nat.le_refl _) dX3_goOn_15 ?_
  refine w_istore_n (lv' := [(1, .int x1), (0, .ref 32)]) 18 hX rfl dX3_goOn_18 (by decide) rfl ?_
  refine w_aload_n 1 19 hX rfl rfl dX3_goOn_19 ?_
  refine w_getR 20 hX CI_3 s_32 rfl r_32_0 fl_X3_17 rfl dX3_goOn_20 ?_
  refine w_getR 23 hX CI_9 s_1 rfl r_1_14 fl_X3_157 rfl dX3_goOn_23 ?_
  refine w_aload_n 1 26 hX rfl rfl dX3_goOn_26 ?_
  refine w_getR 27 hX CI_3 s_32 rfl r_32_1 fl_X3_21 rfl dX3_goOn_27 ?_
  refine w_getI (j := 7) 30 hX CI_0 s_23 rfl fl_X3_52 rfl dX3_goOn_30 ?_
  refine w_iconst 1 33 hX ic_1 dX3_goOn_33 ?_
  obtain ⟨x2, gx2, h⟩ := o_bind h
  refine w_invVi (av := [.int (u 23 7), .int 1]) (st := []) 34 hX CI_5 s_15 rfl mv_yX5_rests mi_yX5_rests ml_X3_161 (CX5_rests_15 (u 23 7) 1 u gx2) rfl (by decide) (Nat.le_of_ble_eq_true rfl) (Nat.le_refl _) (Nat.le_refl _) dX3_goOn_34 ?_
  refine w_istore_n (lv' := [(2, .int x2), (1, .int x1), (0, .ref 32)]) 37 hX rfl dX3_goOn_37 (by decide) rfl ?_
  refine w_iconst 0 38 hX ic_0 dX3_goOn_38 ?_
  refine w_istore_n (lv' := [(3, .int 0), (2, .int x2), (1, .int x1), (0, .ref 32)]) 39 hX rfl dX3_goOn_39 (by decide) rfl ?_
  exact w_sub [3, 2, 1, 0] rfl (lX3_goOn_32_40 hX hR FU x1 x2 0 u h))
def FX3_isAt_32 (p1 p2 : Int32) (u : Mem) : Option Int32 :=
  (FX9_hasMan_1 p1 u).bind fun x1 => (if x1 = 0 then (some 0) else ((rdA u 27 12 p1).bind fun x3 => (if x3 = 1 then ((rdA u 28 12 p1).bind fun x5 => (if x5 = p2 then (some 1) else (some 0))) else (some 0))))
theorem CX3_isAt_32 {G : Gt} (p1 p2 : Int32) (u : Mem) {v : Int32} (h : FX3_isAt_32 p1 p2 u = some v) : CT G yX3_isAt cX3_isAt 3 (some .boolean) 2 [.ref 32, .int p1, .int p2] (SHg G) (RHg G) u (some (.int v), (SHg G), (RHg G), u) :=
  ct_of (by decide) rfl (Nat.le_of_ble_eq_true rfl) (Nat.le_refl _) (Nat.le_refl _) (fun X hX hR => by
  unfold FX3_isAt_32 at h
  refine w_aload_n 0 0 hX rfl rfl dX3_isAt_0 ?_
  refine w_getR 1 hX CI_3 s_32 rfl r_32_0 fl_X3_17 rfl dX3_isAt_1 ?_
  refine w_iload_n 1 4 hX rfl rfl dX3_isAt_4 ?_
  obtain ⟨x1, gx1, h⟩ := o_bind h
  refine w_invVi (av := [.int p1]) (st := []) 5 hX CI_9 s_1 rfl mv_yX9_hasMan mi_yX9_hasMan ml_X3_64 (CX9_hasMan_1 p1 u gx1) rfl (by decide) (Nat.le_of_ble_eq_true rfl) (Nat.le_refl _) (Nat.le_refl _) dX3_isAt_5 ?_
  refine w_if_eq (tgt := 41) 8 hX dX3_isAt_8 (by decide) (fun c2 => ?_) (fun c2 => ?_)
  · have h := it h c2
    refine w_iconst 0 41 hX ic_0 dX3_isAt_41 ?_
    exact w_zret 42 hX hR (by decide) dX3_isAt_42 (by cases h; rfl)
  · have h := ie h c2
    refine w_aload_n 0 11 hX rfl rfl dX3_isAt_11 ?_
    refine w_getR 12 hX CI_3 s_32 rfl r_32_1 fl_X3_21 rfl dX3_isAt_12 ?_
    refine w_getR 15 hX CI_0 s_23 rfl r_23_3 fl_X3_70 rfl dX3_isAt_15 ?_
    refine w_iload_n 1 18 hX rfl rfl dX3_isAt_18 ?_
    obtain ⟨x3, gx3, h⟩ := o_bind h
    refine w_iald 19 hX s_27 gx3 dX3_isAt_19 ?_
    refine w_iconst 1 20 hX ic_1 dX3_isAt_20 ?_
    refine w_icmp_ne (tgt := 41) 21 hX dX3_isAt_21 (by decide) (fun c4 => ?_) (fun c4 => ?_)
    · have h := ie h c4
      refine w_iconst 0 41 hX ic_0 dX3_isAt_41 ?_
      exact w_zret 42 hX hR (by decide) dX3_isAt_42 (by cases h; rfl)
    · have h := it h c4
      refine w_aload_n 0 24 hX rfl rfl dX3_isAt_24 ?_
      refine w_getR 25 hX CI_3 s_32 rfl r_32_1 fl_X3_21 rfl dX3_isAt_25 ?_
      refine w_getR 28 hX CI_0 s_23 rfl r_23_4 fl_X3_94 rfl dX3_isAt_28 ?_
      refine w_iload_n 1 31 hX rfl rfl dX3_isAt_31 ?_
      obtain ⟨x5, gx5, h⟩ := o_bind h
      refine w_iald 32 hX s_28 gx5 dX3_isAt_32 ?_
      refine w_iload_n 2 33 hX rfl rfl dX3_isAt_33 ?_
      refine w_icmp_ne (tgt := 41) 34 hX dX3_isAt_34 (by decide) (fun c6 => ?_) (fun c6 => ?_)
      · have h := ie h c6
        refine w_iconst 0 41 hX ic_0 dX3_isAt_41 ?_
        exact w_zret 42 hX hR (by decide) dX3_isAt_42 (by cases h; rfl)
      · have h := it h c6
        refine w_iconst 1 37 hX ic_1 dX3_isAt_37 ?_
        refine w_goto (tgt := 42) 38 hX (by decide) dX3_isAt_38 ?_
        exact w_zret 42 hX hR (by decide) dX3_isAt_42 (by cases h; rfl))
def FX3_breathAt_32_b71 (l3 : Int32) (u : Mem) : Option Int32 :=
  some l3
theorem bX3_breathAt_32_71 {G : Gt} {X : Xt} {v : Int32} {u : Mem} (hX : CxOk G X cX3_breathAt 5 RX3 (some (.int v), (SHg G), (RHg G), u) 3) (hR : CxRet G X (some .int) (some (.int v), (SHg G), (RHg G), u)) (l3 : Int32) (h : FX3_breathAt_32_b71 l3 u = some v) : WM G X 71 [(3, .int l3)] [] (SHg G) (RHg G) u := by
  unfold FX3_breathAt_32_b71 at h
  refine w_iload_n 0 71 hX rfl rfl dX3_breathAt_71 ?_
  exact w_iret 72 hX hR dX3_breathAt_72 (by cases h; rfl)
def FX3_breathAt_32_b63 (k5 : Int32 → Int32 → Int32 → Int32 → Mem → Option Int32) (l1 l2 l4 t0 t1 : Int32) (u : Mem) : Option Int32 :=
  k5 l1 l2 (t0 + t1) (l4 + 1) u
theorem bX3_breathAt_32_63 {G : Gt} {X : Xt} {v : Int32} {u : Mem} (hX : CxOk G X cX3_breathAt 5 RX3 (some (.int v), (SHg G), (RHg G), u) 3) (hR : CxRet G X (some .int) (some (.int v), (SHg G), (RHg G), u)) {k5 : Int32 → Int32 → Int32 → Int32 → Mem → Option Int32} (hk5 : ∀ (l1 l2 l3 l4 : Int32), k5 l1 l2 l3 l4 u = some v → WM G X 5 [(0, .ref 32), (1, .int l1), (2, .int l2), (3, .int l3), (4, .int l4)] [] (SHg G) (RHg G) u) (l1 l2 l4 t0 t1 : Int32) (h : FX3_breathAt_32_b63 k5 l1 l2 l4 t0 t1 u = some v) : WM G X 63 [(0, .ref 32), (1, .int l1), (2, .int l2), (4, .int l4)] [.int t1, .int t0] (SHg G) (RHg G) u := by
  unfold FX3_breathAt_32_b63 at h
  refine w_iadd 63 hX dX3_breathAt_63 ?_
  refine w_istore_n (lv' := [(3, .int (t0 + t1)), (0, .ref 32), (1, .int l1), (2, .int l2), (4, .int l4)]) 64 hX rfl dX3_breathAt_64 (by decide) rfl ?_
  refine w_iinc (lv' := [(4, .int (l4 + 1)), (3, .int (t0 + t1)), (0, .ref 32), (1, .int l1), (2, .int l2)]) 65 4 hX dX3_breathAt_65 rfl (inc_1 _) (by decide) rfl ?_
  refine w_goto (tgt := 5) 68 hX (by decide) dX3_breathAt_68 ?_
  exact w_sub [2, 3, 4, 1, 0] rfl (hk5 l1 l2 (t0 + t1) (l4 + 1) h)
def FX3_breathAt_32_b5 (k5 : Int32 → Int32 → Int32 → Int32 → Mem → Option Int32) (l1 l2 l3 l4 : Int32) (u : Mem) : Option Int32 :=
  (if 12 ≤ l4 then (FX3_breathAt_32_b71 l3 u) else ((if (u 1 0) ≤ l4 then (FX3_breathAt_32_b71 l3 u) else ((rdA u 2 12 l4).bind fun x3 => (if x3 = l1 then ((FX3_isAt_32 l4 l2 u).bind fun x5 => (if x5 = 0 then (FX3_breathAt_32_b63 k5 l1 l2 l4 l3 0 u) else ((rdA u 24 12 l4).bind fun x7 => FX3_breathAt_32_b63 k5 l1 l2 l4 l3 x7 u))) else (FX3_breathAt_32_b63 k5 l1 l2 l4 l3 0 u))))))
theorem bX3_breathAt_32_5 {G : Gt} {X : Xt} {v : Int32} {u : Mem} (hX : CxOk G X cX3_breathAt 5 RX3 (some (.int v), (SHg G), (RHg G), u) 3) (hR : CxRet G X (some .int) (some (.int v), (SHg G), (RHg G), u)) {k5 : Int32 → Int32 → Int32 → Int32 → Mem → Option Int32} (hk5 : ∀ (l1 l2 l3 l4 : Int32), k5 l1 l2 l3 l4 u = some v → WM G X 5 [(0, .ref 32), (1, .int l1), (2, .int l2), (3, .int l3), (4, .int l4)] [] (SHg G) (RHg G) u) (l1 l2 l3 l4 : Int32) (h : FX3_breathAt_32_b5 k5 l1 l2 l3 l4 u = some v) : WM G X 5 [(0, .ref 32), (1, .int l1), (2, .int l2), (3, .int l3), (4, .int l4)] [] (SHg G) (RHg G) u := by
  unfold FX3_breathAt_32_b5 at h
  refine w_iload 4 5 hX rfl dX3_breathAt_5 ?_
  refine w_bipush 12 7 hX ib_12 dX3_breathAt_7 ?_
  refine w_icmp_ge (tgt := 71) 9 hX dX3_breathAt_9 (by decide) (fun c1 => ?_) (fun c1 => ?_)
  · have h := it h c1
    exact w_sub [3] rfl (bX3_breathAt_32_71 hX hR l3 h)
  · have h := ie h c1
    refine w_iload 4 12 hX rfl dX3_breathAt_12 ?_
    refine w_aload_n 0 14 hX rfl rfl dX3_breathAt_14 ?_
    refine w_getR 15 hX CI_3 s_32 rfl r_32_0 fl_X3_17 rfl dX3_breathAt_15 ?_
    refine w_getI (j := 0) 18 hX CI_9 s_1 rfl fl_X3_123 rfl dX3_breathAt_18 ?_
    refine w_icmp_ge (tgt := 71) 21 hX dX3_breathAt_21 (by decide) (fun c2 => ?_) (fun c2 => ?_)
    · have h := it h c2
      exact w_sub [3] rfl (bX3_breathAt_32_71 hX hR l3 h)
    · have h := ie h c2
      refine w_iload_n 3 24 hX rfl rfl dX3_breathAt_24 ?_
      refine w_aload_n 0 25 hX rfl rfl dX3_breathAt_25 ?_
      refine w_getR 26 hX CI_3 s_32 rfl r_32_0 fl_X3_17 rfl dX3_breathAt_26 ?_
      refine w_getR 29 hX CI_9 s_1 rfl r_1_1 fl_X3_73 rfl dX3_breathAt_29 ?_
      refine w_iload 4 32 hX rfl dX3_breathAt_32 ?_
      obtain ⟨x3, gx3, h⟩ := o_bind h
      refine w_iald 34 hX s_2 gx3 dX3_breathAt_34 ?_
      refine w_iload_n 1 35 hX rfl rfl dX3_breathAt_35 ?_
      refine w_icmp_ne (tgt := 62) 36 hX dX3_breathAt_36 (by decide) (fun c4 => ?_) (fun c4 => ?_)
      · have h := ie h c4
        refine w_iconst 0 62 hX ic_0 dX3_breathAt_62 ?_
        exact w_sub [0, 1, 2, 4] rfl (bX3_breathAt_32_63 hX hR hk5 l1 l2 l4 l3 0 h)
      · have h := it h c4
        refine w_aload_n 0 39 hX rfl rfl dX3_breathAt_39 ?_
        refine w_iload 4 40 hX rfl dX3_breathAt_40 ?_
        refine w_iload_n 2 42 hX rfl rfl dX3_breathAt_42 ?_
        obtain ⟨x5, gx5, h⟩ := o_bind h
        refine w_invVi (av := [.int l4, .int l2]) (st := [.int l3]) 43 hX CI_3 s_32 rfl mv_yX3_isAt mi_yX3_isAt ml_X3_189 (CX3_isAt_32 l4 l2 u gx5) rfl (by decide) (Nat.le_of_ble_eq_true rfl) (Nat.le_refl _) (Nat.le_refl _) dX3_breathAt_43 ?_
        refine w_if_eq (tgt := 62) 46 hX dX3_breathAt_46 (by decide) (fun c6 => ?_) (fun c6 => ?_)
        · have h := it h c6
          refine w_iconst 0 62 hX ic_0 dX3_breathAt_62 ?_
          exact w_sub [0, 1, 2, 4] rfl (bX3_breathAt_32_63 hX hR hk5 l1 l2 l4 l3 0 h)
        · have h := ie h c6
          refine w_aload_n 0 49 hX rfl rfl dX3_breathAt_49 ?_
          refine w_getR 50 hX CI_3 s_32 rfl r_32_1 fl_X3_21 rfl dX3_breathAt_50 ?_
          refine w_getR 53 hX CI_0 s_23 rfl r_23_0 fl_X3_82 rfl dX3_breathAt_53 ?_
          refine w_iload 4 56 hX rfl dX3_breathAt_56 ?_
          obtain ⟨x7, gx7, h⟩ := o_bind h
          refine w_iald 58 hX s_24 gx7 dX3_breathAt_58 ?_
          refine w_goto (tgt := 63) 59 hX (by decide) dX3_breathAt_59 ?_
          exact w_sub [0, 1, 2, 4] rfl (bX3_breathAt_32_63 hX hR hk5 l1 l2 l4 l3 x7 h)
def FX3_breathAt_32_L5 : Nat → Int32 → Int32 → Int32 → Int32 → Mem → Option Int32
  | 0, _, _, _, _, _ => none
  | n + 1, l1, l2, l3, l4, u => FX3_breathAt_32_b5 (FX3_breathAt_32_L5 n) l1 l2 l3 l4 u
theorem lX3_breathAt_32_5 {G : Gt} {X : Xt} {v : Int32} {u : Mem} (hX : CxOk G X cX3_breathAt 5 RX3 (some (.int v), (SHg G), (RHg G), u) 3) (hR : CxRet G X (some .int) (some (.int v), (SHg G), (RHg G), u)) : ∀ (n : Nat) (l1 l2 l3 l4 : Int32), FX3_breathAt_32_L5 n l1 l2 l3 l4 u = some v → WM G X 5 [(0, .ref 32), (1, .int l1), (2, .int l2), (3, .int l3), (4, .int l4)] [] (SHg G) (RHg G) u := by
  intro n
  induction n with
  | zero =>
    intro l1 l2 l3 l4 h
    exact nn_ h
  | succ n ih =>
    intro l1 l2 l3 l4 h
    exact bX3_breathAt_32_5 hX hR ih l1 l2 l3 l4 h
def FX3_breathAt_32 (p1 p2 : Int32) (u : Mem) : Option Int32 :=
  FX3_breathAt_32_L5 FU p1 p2 0 0 u
theorem CX3_breathAt_32 {G : Gt} (p1 p2 : Int32) (u : Mem) {v : Int32} (h : FX3_breathAt_32 p1 p2 u = some v) : CT G yX3_breathAt cX3_breathAt 5 (some .int) 3 [.ref 32, .int p1, .int p2] (SHg G) (RHg G) u (some (.int v), (SHg G), (RHg G), u) :=
  ct_of (by decide) rfl (Nat.le_of_ble_eq_true rfl) (Nat.le_refl _) (Nat.le_refl _) (fun X hX hR => by
  unfold FX3_breathAt_32 at h
  refine w_iconst 0 0 hX ic_0 dX3_breathAt_0 ?_
  refine w_istore_n (lv' := [(3, .int 0), (0, .ref 32), (1, .int p1), (2, .int p2)]) 1 hX rfl dX3_breathAt_1 (by decide) rfl ?_
  refine w_iconst 0 2 hX ic_0 dX3_breathAt_2 ?_
  refine w_istore (lv' := [(4, .int 0), (3, .int 0), (0, .ref 32), (1, .int p1), (2, .int p2)]) 3 hX dX3_breathAt_3 (by decide) rfl ?_
  exact w_sub [2, 3, 4, 1, 0] rfl (lX3_breathAt_32_5 hX hR FU p1 p2 0 0 h))
def FX3_halve_32_b41 (k2 : Int32 → Int32 → Mem → Option Mem) (l1 l2 : Int32) (u : Mem) : Option Mem :=
  k2 l1 (l2 + 1) u
theorem bX3_halve_32_41 {G : Gt} {X : Xt} {u' : Mem} (hX : CxOk G X cX3_halve 3 RX3 (none, (SHg G), (RHg G), u') 3) (hR : CxRet G X none (none, (SHg G), (RHg G), u')) {k2 : Int32 → Int32 → Mem → Option Mem} (hk2 : ∀ (l1 l2 : Int32) (u : Mem), k2 l1 l2 u = some u' → WM G X 2 [(0, .ref 32), (1, .int l1), (2, .int l2)] [] (SHg G) (RHg G) u) (l1 l2 : Int32) (u : Mem) (h : FX3_halve_32_b41 k2 l1 l2 u = some u') : WM G X 41 [(0, .ref 32), (1, .int l1), (2, .int l2)] [] (SHg G) (RHg G) u := by
  unfold FX3_halve_32_b41 at h
  refine w_iinc (lv' := [(2, .int (l2 + 1)), (0, .ref 32), (1, .int l1)]) 41 2 hX dX3_halve_41 rfl (inc_1 _) (by decide) rfl ?_
  refine w_goto (tgt := 2) 44 hX (by decide) dX3_halve_44 ?_
  exact w_sub [1, 2, 0] rfl (hk2 l1 (l2 + 1) u h)
def FX3_halve_32_b2 (k2 : Int32 → Int32 → Mem → Option Mem) (l1 l2 : Int32) (u : Mem) : Option Mem :=
  (if 12 ≤ l2 then (some u) else ((if (u 1 0) ≤ l2 then (some u) else ((FX3_isAt_32 l2 l1 u).bind fun x3 => (if x3 = 0 then (FX3_halve_32_b41 k2 l1 l2 u) else ((rdA u 24 12 l2).bind fun x5 => (dvI x5 2).bind fun x6 => (wrA u 24 12 l2 x6).bind fun u7 => FX3_halve_32_b41 k2 l1 l2 u7))))))
theorem bX3_halve_32_2 {G : Gt} {X : Xt} {u' : Mem} (hX : CxOk G X cX3_halve 3 RX3 (none, (SHg G), (RHg G), u') 3) (hR : CxRet G X none (none, (SHg G), (RHg G), u')) {k2 : Int32 → Int32 → Mem → Option Mem} (hk2 : ∀ (l1 l2 : Int32) (u : Mem), k2 l1 l2 u = some u' → WM G X 2 [(0, .ref 32), (1, .int l1), (2, .int l2)] [] (SHg G) (RHg G) u) (l1 l2 : Int32) (u : Mem) (h : FX3_halve_32_b2 k2 l1 l2 u = some u') : WM G X 2 [(0, .ref 32), (1, .int l1), (2, .int l2)] [] (SHg G) (RHg G) u := by
  unfold FX3_halve_32_b2 at h
  refine w_iload_n 2 2 hX rfl rfl dX3_halve_2 ?_
  refine w_bipush 12 3 hX ib_12 dX3_halve_3 ?_
  refine w_icmp_ge (tgt := 47) 5 hX dX3_halve_5 (by decide) (fun c1 => ?_) (fun c1 => ?_)
  · have h := it h c1
    exact w_vret 47 hX hR dX3_halve_47 (by cases h; rfl)
  · have h := ie h c1
    refine w_iload_n 2 8 hX rfl rfl dX3_halve_8 ?_
    refine w_aload_n 0 9 hX rfl rfl dX3_halve_9 ?_
    refine w_getR 10 hX CI_3 s_32 rfl r_32_0 fl_X3_17 rfl dX3_halve_10 ?_
    refine w_getI (j := 0) 13 hX CI_9 s_1 rfl fl_X3_123 rfl dX3_halve_13 ?_
    refine w_icmp_ge (tgt := 47) 16 hX dX3_halve_16 (by decide) (fun c2 => ?_) (fun c2 => ?_)
    · have h := it h c2
      exact w_vret 47 hX hR dX3_halve_47 (by cases h; rfl)
    · have h := ie h c2
      refine w_aload_n 0 19 hX rfl rfl dX3_halve_19 ?_
      refine w_iload_n 2 20 hX rfl rfl dX3_halve_20 ?_
      refine w_iload_n 1 21 hX rfl rfl dX3_halve_21 ?_
      obtain ⟨x3, gx3, h⟩ := o_bind h
      refine w_invVi (av := [.int l2, .int l1]) (st := []) 22 hX CI_3 s_32 rfl mv_yX3_isAt mi_yX3_isAt ml_X3_189 (CX3_isAt_32 l2 l1 u gx3) rfl (by decide) (Nat.le_of_ble_eq_true rfl) (Nat.le_refl _) (Nat.le_refl _) dX3_halve_22 ?_
      refine w_if_eq (tgt := 41) 25 hX dX3_halve_25 (by decide) (fun c4 => ?_) (fun c4 => ?_)
      · have h := it h c4
        exact bX3_halve_32_41 hX hR hk2 l1 l2 u h
      · have h := ie h c4
        refine w_aload_n 0 28 hX rfl rfl dX3_halve_28 ?_
        refine w_getR 29 hX CI_3 s_32 rfl r_32_1 fl_X3_21 rfl dX3_halve_29 ?_
        refine w_getR 32 hX CI_0 s_23 rfl r_23_0 fl_X3_82 rfl dX3_halve_32 ?_
        refine w_iload_n 2 35 hX rfl rfl dX3_halve_35 ?_
        refine w_dup2 36 hX rfl rfl dX3_halve_36 ?_
        obtain ⟨x5, gx5, h⟩ := o_bind h
        refine w_iald 37 hX s_24 gx5 dX3_halve_37 ?_
        refine w_iconst 2 38 hX ic_2 dX3_halve_38 ?_
        obtain ⟨x6, gx6, h⟩ := o_bind h
        obtain ⟨qx6, jx6⟩ := dvI_ok gx6
        refine w_idiv 39 hX qx6 dX3_halve_39 ?_
        rw [jx6]
        obtain ⟨u7, gu7, h⟩ := o_bind h
        refine w_iast 40 hX s_24 gu7 dX3_halve_40 ?_
        exact bX3_halve_32_41 hX hR hk2 l1 l2 u7 h
def FX3_halve_32_L2 : Nat → Int32 → Int32 → Mem → Option Mem
  | 0, _, _, _ => none
  | n + 1, l1, l2, u => FX3_halve_32_b2 (FX3_halve_32_L2 n) l1 l2 u
theorem lX3_halve_32_2 {G : Gt} {X : Xt} {u' : Mem} (hX : CxOk G X cX3_halve 3 RX3 (none, (SHg G), (RHg G), u') 3) (hR : CxRet G X none (none, (SHg G), (RHg G), u')) : ∀ (n : Nat) (l1 l2 : Int32) (u : Mem), FX3_halve_32_L2 n l1 l2 u = some u' → WM G X 2 [(0, .ref 32), (1, .int l1), (2, .int l2)] [] (SHg G) (RHg G) u := by
  intro n
  induction n with
  | zero =>
    intro l1 l2 u h
    exact nn_ h
  | succ n ih =>
    intro l1 l2 u h
    exact bX3_halve_32_2 hX hR ih l1 l2 u h
def FX3_halve_32 (p1 : Int32) (u : Mem) : Option Mem :=
  FX3_halve_32_L2 FU p1 0 u
theorem CX3_halve_32 {G : Gt} (p1 : Int32) (u : Mem) {u' : Mem} (h : FX3_halve_32 p1 u = some u') : CT G yX3_halve cX3_halve 3 none 3 [.ref 32, .int p1] (SHg G) (RHg G) u (none, (SHg G), (RHg G), u') :=
  ct_of (by decide) rfl (Nat.le_of_ble_eq_true rfl) (Nat.le_refl _) (Nat.le_refl _) (fun X hX hR => by
  unfold FX3_halve_32 at h
  refine w_iconst 0 0 hX ic_0 dX3_halve_0 ?_
  refine w_istore_n (lv' := [(2, .int 0), (0, .ref 32), (1, .int p1)]) 1 hX rfl dX3_halve_1 (by decide) rfl ?_
  exact w_sub [1, 2, 0] rfl (lX3_halve_32_2 hX hR FU p1 0 u h))
def FX3_catchYoungest_32_b96 (l2 l3 : Int32) (u : Mem) : Option Mem :=
  (if l3 = (-1) then (some u) else ((wrA u 27 12 l3 2).bind fun u2 => (wrA u2 29 12 l3 (u2 23 7)).bind fun u3 => (some (mupd u3 32 6 ((u3 32 6) + 1))).bind fun u4 => (FX3_note_32 1 l3 l2 u4).bind fun u6 => some u6))
theorem bX3_catchYoungest_32_96 {G : Gt} {X : Xt} {u' : Mem} (hX : CxOk G X cX3_catchYoungest 6 RX3 (none, (SHg G), (RHg G), u') 3) (hR : CxRet G X none (none, (SHg G), (RHg G), u')) (l2 l3 : Int32) (u : Mem) (h : FX3_catchYoungest_32_b96 l2 l3 u = some u') : WM G X 96 [(0, .ref 32), (2, .int l2), (3, .int l3)] [] (SHg G) (RHg G) u := by
  unfold FX3_catchYoungest_32_b96 at h
  refine w_iload_n 2 96 hX rfl rfl dX3_catchYoungest_96 ?_
  refine w_iconst (-1) 97 hX ic_m1 dX3_catchYoungest_97 ?_
  refine w_icmp_eq (tgt := 144) 98 hX dX3_catchYoungest_98 (by decide) (fun c1 => ?_) (fun c1 => ?_)
  · have h := it h c1
    exact w_vret 144 hX hR dX3_catchYoungest_144 (by cases h; rfl)
  · have h := ie h c1
    refine w_aload_n 0 101 hX rfl rfl dX3_catchYoungest_101 ?_
    refine w_getR 102 hX CI_3 s_32 rfl r_32_1 fl_X3_21 rfl dX3_catchYoungest_102 ?_
    refine w_getR 105 hX CI_0 s_23 rfl r_23_3 fl_X3_70 rfl dX3_catchYoungest_105 ?_
    refine w_iload_n 2 108 hX rfl rfl dX3_catchYoungest_108 ?_
    refine w_iconst 2 109 hX ic_2 dX3_catchYoungest_109 ?_
    obtain ⟨u2, gu2, h⟩ := o_bind h
    refine w_iast 110 hX s_27 gu2 dX3_catchYoungest_110 ?_
    refine w_aload_n 0 111 hX rfl rfl dX3_catchYoungest_111 ?_
    refine w_getR 112 hX CI_3 s_32 rfl r_32_1 fl_X3_21 rfl dX3_catchYoungest_112 ?_
    refine w_getR 115 hX CI_0 s_23 rfl r_23_5 fl_X3_192 rfl dX3_catchYoungest_115 ?_
    refine w_iload_n 2 118 hX rfl rfl dX3_catchYoungest_118 ?_
    refine w_aload_n 0 119 hX rfl rfl dX3_catchYoungest_119 ?_
    refine w_getR 120 hX CI_3 s_32 rfl r_32_1 fl_X3_21 rfl dX3_catchYoungest_120 ?_
    refine w_getI (j := 7) 123 hX CI_0 s_23 rfl fl_X3_52 rfl dX3_catchYoungest_123 ?_
    obtain ⟨u3, gu3, h⟩ := o_bind h
    refine w_iast 126 hX s_29 gu3 dX3_catchYoungest_126 ?_
    refine w_aload_n 0 127 hX rfl rfl dX3_catchYoungest_127 ?_
    refine w_dup 128 hX rfl dX3_catchYoungest_128 ?_
    refine w_getI (j := 6) 129 hX CI_3 s_32 rfl fl_X3_195 rfl dX3_catchYoungest_129 ?_
    refine w_iconst 1 132 hX ic_1 dX3_catchYoungest_132 ?_
    refine w_iadd 133 hX dX3_catchYoungest_133 ?_
    obtain ⟨u4, gu4, h⟩ := o_bind h
    refine w_putI (j := 6) 134 hX CI_3 s_32 rfl fl_X3_195 rfl rfl rfl rfl dX3_catchYoungest_134 ?_
    rw [Option.some.inj gu4]
    refine w_aload_n 0 137 hX rfl rfl dX3_catchYoungest_137 ?_
    refine w_iconst 1 138 hX ic_1 dX3_catchYoungest_138 ?_
    refine w_iload_n 2 139 hX rfl rfl dX3_catchYoungest_139 ?_
    refine w_iload_n 1 140 hX rfl rfl dX3_catchYoungest_140 ?_
    obtain ⟨u6, gu6, h⟩ := o_bind h
    refine w_invVv (av := [.int 1, .int l3, .int l2]) (st := []) 141 hX CI_3 s_32 rfl mv_yX3_note mi_yX3_note ml_X3_153 (CX3_note_32 1 l3 l2 u4 gu6) rfl (by decide) (Nat.le_of_ble_eq_true rfl) (Nat.le_refl _) (Nat.le_refl _) dX3_catchYoungest_141 ?_
    exact w_vret 144 hX hR dX3_catchYoungest_144 (by cases h; rfl)
def FX3_catchYoungest_32_b90 (k5 : Int32 → Int32 → Int32 → Int32 → Mem → Option Mem) (l1 l2 l3 l4 : Int32) (u : Mem) : Option Mem :=
  k5 l1 l2 l3 (l4 + 1) u
theorem bX3_catchYoungest_32_90 {G : Gt} {X : Xt} {u' : Mem} (hX : CxOk G X cX3_catchYoungest 6 RX3 (none, (SHg G), (RHg G), u') 3) (hR : CxRet G X none (none, (SHg G), (RHg G), u')) {k5 : Int32 → Int32 → Int32 → Int32 → Mem → Option Mem} (hk5 : ∀ (l1 l2 l3 l4 : Int32) (u : Mem), k5 l1 l2 l3 l4 u = some u' → WM G X 5 [(0, .ref 32), (1, .int l1), (2, .int l2), (3, .int l3), (4, .int l4)] [] (SHg G) (RHg G) u) (l1 l2 l3 l4 : Int32) (u : Mem) (h : FX3_catchYoungest_32_b90 k5 l1 l2 l3 l4 u = some u') : WM G X 90 [(0, .ref 32), (1, .int l1), (2, .int l2), (3, .int l3), (4, .int l4)] [] (SHg G) (RHg G) u := by
  unfold FX3_catchYoungest_32_b90 at h
  refine w_iinc (lv' := [(4, .int (l4 + 1)), (0, .ref 32), (1, .int l1), (2, .int l2), (3, .int l3)]) 90 4 hX dX3_catchYoungest_90 rfl (inc_1 _) (by decide) rfl ?_
  refine w_goto (tgt := 5) 93 hX (by decide) dX3_catchYoungest_93 ?_
  exact w_sub [1, 2, 3, 4, 0] rfl (hk5 l1 l2 l3 (l4 + 1) u h)
def FX3_catchYoungest_32_b87 (k5 : Int32 → Int32 → Int32 → Int32 → Mem → Option Mem) (l1 l2 l4 : Int32) (u : Mem) : Option Mem :=
  FX3_catchYoungest_32_b90 k5 l1 l2 l4 l4 u
theorem bX3_catchYoungest_32_87 {G : Gt} {X : Xt} {u' : Mem} (hX : CxOk G X cX3_catchYoungest 6 RX3 (none, (SHg G), (RHg G), u') 3) (hR : CxRet G X none (none, (SHg G), (RHg G), u')) {k5 : Int32 → Int32 → Int32 → Int32 → Mem → Option Mem} (hk5 : ∀ (l1 l2 l3 l4 : Int32) (u : Mem), k5 l1 l2 l3 l4 u = some u' → WM G X 5 [(0, .ref 32), (1, .int l1), (2, .int l2), (3, .int l3), (4, .int l4)] [] (SHg G) (RHg G) u) (l1 l2 l4 : Int32) (u : Mem) (h : FX3_catchYoungest_32_b87 k5 l1 l2 l4 u = some u') : WM G X 87 [(0, .ref 32), (1, .int l1), (2, .int l2), (4, .int l4)] [] (SHg G) (RHg G) u := by
  unfold FX3_catchYoungest_32_b87 at h
  refine w_iload 3 87 hX rfl dX3_catchYoungest_87 ?_
  refine w_istore_n (lv' := [(3, .int l4), (0, .ref 32), (1, .int l1), (2, .int l2), (4, .int l4)]) 89 hX rfl dX3_catchYoungest_89 (by decide) rfl ?_
  exact w_sub [1, 2, 3, 0, 4] rfl (bX3_catchYoungest_32_90 hX hR hk5 l1 l2 l4 l4 u h)
def FX3_catchYoungest_32_b53 (k5 : Int32 → Int32 → Int32 → Int32 → Mem → Option Mem) (l1 l2 l3 l4 t0 : Int32) (u : Mem) : Option Mem :=
  (if t0 = 0 then (FX3_catchYoungest_32_b90 k5 l1 l2 l3 l4 u) else ((if l3 = (-1) then (FX3_catchYoungest_32_b87 k5 l1 l2 l4 u) else ((rdA u 3 12 l4).bind fun x3 => (rdA u 3 12 l3).bind fun x4 => (if x4 ≤ x3 then (FX3_catchYoungest_32_b90 k5 l1 l2 l3 l4 u) else (FX3_catchYoungest_32_b87 k5 l1 l2 l4 u))))))
theorem bX3_catchYoungest_32_53 {G : Gt} {X : Xt} {u' : Mem} (hX : CxOk G X cX3_catchYoungest 6 RX3 (none, (SHg G), (RHg G), u') 3) (hR : CxRet G X none (none, (SHg G), (RHg G), u')) {k5 : Int32 → Int32 → Int32 → Int32 → Mem → Option Mem} (hk5 : ∀ (l1 l2 l3 l4 : Int32) (u : Mem), k5 l1 l2 l3 l4 u = some u' → WM G X 5 [(0, .ref 32), (1, .int l1), (2, .int l2), (3, .int l3), (4, .int l4)] [] (SHg G) (RHg G) u) (l1 l2 l3 l4 t0 : Int32) (u : Mem) (h : FX3_catchYoungest_32_b53 k5 l1 l2 l3 l4 t0 u = some u') : WM G X 53 [(0, .ref 32), (1, .int l1), (2, .int l2), (3, .int l3), (4, .int l4)] [.int t0] (SHg G) (RHg G) u := by
  unfold FX3_catchYoungest_32_b53 at h
  refine w_istore (lv' := [(5, .int t0), (0, .ref 32), (1, .int l1), (2, .int l2), (3, .int l3), (4, .int l4)]) 53 hX dX3_catchYoungest_53 (by decide) rfl ?_
  refine w_iload 0 55 hX rfl dX3_catchYoungest_55 ?_
  refine w_if_eq (tgt := 90) 57 hX dX3_catchYoungest_57 (by decide) (fun c1 => ?_) (fun c1 => ?_)
  · have h := it h c1
    exact w_sub [1, 2, 3, 4, 5] rfl (bX3_catchYoungest_32_90 hX hR hk5 l1 l2 l3 l4 u h)
  · have h := ie h c1
    refine w_iload_n 4 60 hX rfl rfl dX3_catchYoungest_60 ?_
    refine w_iconst (-1) 61 hX ic_m1 dX3_catchYoungest_61 ?_
    refine w_icmp_eq (tgt := 87) 62 hX dX3_catchYoungest_62 (by decide) (fun c2 => ?_) (fun c2 => ?_)
    · have h := it h c2
      exact w_sub [1, 2, 3, 5] rfl (bX3_catchYoungest_32_87 hX hR hk5 l1 l2 l4 u h)
    · have h := ie h c2
      refine w_aload_n 1 65 hX rfl rfl dX3_catchYoungest_65 ?_
      refine w_getR 66 hX CI_3 s_32 rfl r_32_0 fl_X3_17 rfl dX3_catchYoungest_66 ?_
      refine w_getR 69 hX CI_9 s_1 rfl r_1_2 fl_X3_76 rfl dX3_catchYoungest_69 ?_
      refine w_iload 5 72 hX rfl dX3_catchYoungest_72 ?_
      obtain ⟨x3, gx3, h⟩ := o_bind h
      refine w_iald 74 hX s_3 gx3 dX3_catchYoungest_74 ?_
      refine w_aload_n 1 75 hX rfl rfl dX3_catchYoungest_75 ?_
      refine w_getR 76 hX CI_3 s_32 rfl r_32_0 fl_X3_17 rfl dX3_catchYoungest_76 ?_
      refine w_getR 79 hX CI_9 s_1 rfl r_1_2 fl_X3_76 rfl dX3_catchYoungest_79 ?_
      refine w_iload_n 4 82 hX rfl rfl dX3_catchYoungest_82 ?_
      obtain ⟨x4, gx4, h⟩ := o_bind h
      refine w_iald 83 hX s_3 gx4 dX3_catchYoungest_83 ?_
      refine w_icmp_ge (tgt := 90) 84 hX dX3_catchYoungest_84 (by decide) (fun c5 => ?_) (fun c5 => ?_)
      · have h := it h c5
        exact w_sub [1, 2, 3, 4, 5] rfl (bX3_catchYoungest_32_90 hX hR hk5 l1 l2 l3 l4 u h)
      · have h := ie h c5
        exact w_sub [1, 2, 3, 5] rfl (bX3_catchYoungest_32_87 hX hR hk5 l1 l2 l4 u h)
def FX3_catchYoungest_32_b5 (k5 : Int32 → Int32 → Int32 → Int32 → Mem → Option Mem) (l1 l2 l3 l4 : Int32) (u : Mem) : Option Mem :=
  (if 12 ≤ l4 then (FX3_catchYoungest_32_b96 l2 l3 u) else ((if (u 1 0) ≤ l4 then (FX3_catchYoungest_32_b96 l2 l3 u) else ((rdA u 2 12 l4).bind fun x3 => (if x3 = l1 then ((FX3_isAt_32 l4 l2 u).bind fun x5 => (if x5 = 0 then (FX3_catchYoungest_32_b53 k5 l1 l2 l3 l4 0 u) else (FX3_catchYoungest_32_b53 k5 l1 l2 l3 l4 1 u))) else (FX3_catchYoungest_32_b53 k5 l1 l2 l3 l4 0 u))))))
theorem bX3_catchYoungest_32_5 {G : Gt} {X : Xt} {u' : Mem} (hX : CxOk G X cX3_catchYoungest 6 RX3 (none, (SHg G), (RHg G), u') 3) (hR : CxRet G X none (none, (SHg G), (RHg G), u')) {k5 : Int32 → Int32 → Int32 → Int32 → Mem → Option Mem} (hk5 : ∀ (l1 l2 l3 l4 : Int32) (u : Mem), k5 l1 l2 l3 l4 u = some u' → WM G X 5 [(0, .ref 32), (1, .int l1), (2, .int l2), (3, .int l3), (4, .int l4)] [] (SHg G) (RHg G) u) (l1 l2 l3 l4 : Int32) (u : Mem) (h : FX3_catchYoungest_32_b5 k5 l1 l2 l3 l4 u = some u') : WM G X 5 [(0, .ref 32), (1, .int l1), (2, .int l2), (3, .int l3), (4, .int l4)] [] (SHg G) (RHg G) u := by
  unfold FX3_catchYoungest_32_b5 at h
  refine w_iload 4 5 hX rfl dX3_catchYoungest_5 ?_
  refine w_bipush 12 7 hX ib_12 dX3_catchYoungest_7 ?_
  refine w_icmp_ge (tgt := 96) 9 hX dX3_catchYoungest_9 (by decide) (fun c1 => ?_) (fun c1 => ?_)
  · have h := it h c1
    exact w_sub [0, 2, 3] rfl (bX3_catchYoungest_32_96 hX hR l2 l3 u h)
  · have h := ie h c1
    refine w_iload 4 12 hX rfl dX3_catchYoungest_12 ?_
    refine w_aload_n 0 14 hX rfl rfl dX3_catchYoungest_14 ?_
    refine w_getR 15 hX CI_3 s_32 rfl r_32_0 fl_X3_17 rfl dX3_catchYoungest_15 ?_
    refine w_getI (j := 0) 18 hX CI_9 s_1 rfl fl_X3_123 rfl dX3_catchYoungest_18 ?_
    refine w_icmp_ge (tgt := 96) 21 hX dX3_catchYoungest_21 (by decide) (fun c2 => ?_) (fun c2 => ?_)
    · have h := it h c2
      exact w_sub [0, 2, 3] rfl (bX3_catchYoungest_32_96 hX hR l2 l3 u h)
    · have h := ie h c2
      refine w_aload_n 0 24 hX rfl rfl dX3_catchYoungest_24 ?_
      refine w_getR 25 hX CI_3 s_32 rfl r_32_0 fl_X3_17 rfl dX3_catchYoungest_25 ?_
      refine w_getR 28 hX CI_9 s_1 rfl r_1_1 fl_X3_73 rfl dX3_catchYoungest_28 ?_
      refine w_iload 4 31 hX rfl dX3_catchYoungest_31 ?_
      obtain ⟨x3, gx3, h⟩ := o_bind h
      refine w_iald 33 hX s_2 gx3 dX3_catchYoungest_33 ?_
      refine w_iload_n 1 34 hX rfl rfl dX3_catchYoungest_34 ?_
      refine w_icmp_ne (tgt := 52) 35 hX dX3_catchYoungest_35 (by decide) (fun c4 => ?_) (fun c4 => ?_)
      · have h := ie h c4
        refine w_iconst 0 52 hX ic_0 dX3_catchYoungest_52 ?_
        exact bX3_catchYoungest_32_53 hX hR hk5 l1 l2 l3 l4 0 u h
      · have h := it h c4
        refine w_aload_n 0 38 hX rfl rfl dX3_catchYoungest_38 ?_
        refine w_iload 4 39 hX rfl dX3_catchYoungest_39 ?_
        refine w_iload_n 2 41 hX rfl rfl dX3_catchYoungest_41 ?_
        obtain ⟨x5, gx5, h⟩ := o_bind h
        refine w_invVi (av := [.int l4, .int l2]) (st := []) 42 hX CI_3 s_32 rfl mv_yX3_isAt mi_yX3_isAt ml_X3_189 (CX3_isAt_32 l4 l2 u gx5) rfl (by decide) (Nat.le_of_ble_eq_true rfl) (Nat.le_refl _) (Nat.le_refl _) dX3_catchYoungest_42 ?_
        refine w_if_eq (tgt := 52) 45 hX dX3_catchYoungest_45 (by decide) (fun c6 => ?_) (fun c6 => ?_)
        · have h := it h c6
          refine w_iconst 0 52 hX ic_0 dX3_catchYoungest_52 ?_
          exact bX3_catchYoungest_32_53 hX hR hk5 l1 l2 l3 l4 0 u h
        · have h := ie h c6
          refine w_iconst 1 48 hX ic_1 dX3_catchYoungest_48 ?_
          refine w_goto (tgt := 53) 49 hX (by decide) dX3_catchYoungest_49 ?_
          exact bX3_catchYoungest_32_53 hX hR hk5 l1 l2 l3 l4 1 u h
def FX3_catchYoungest_32_L5 : Nat → Int32 → Int32 → Int32 → Int32 → Mem → Option Mem
  | 0, _, _, _, _, _ => none
  | n + 1, l1, l2, l3, l4, u => FX3_catchYoungest_32_b5 (FX3_catchYoungest_32_L5 n) l1 l2 l3 l4 u
theorem lX3_catchYoungest_32_5 {G : Gt} {X : Xt} {u' : Mem} (hX : CxOk G X cX3_catchYoungest 6 RX3 (none, (SHg G), (RHg G), u') 3) (hR : CxRet G X none (none, (SHg G), (RHg G), u')) : ∀ (n : Nat) (l1 l2 l3 l4 : Int32) (u : Mem), FX3_catchYoungest_32_L5 n l1 l2 l3 l4 u = some u' → WM G X 5 [(0, .ref 32), (1, .int l1), (2, .int l2), (3, .int l3), (4, .int l4)] [] (SHg G) (RHg G) u := by
  intro n
  induction n with
  | zero =>
    intro l1 l2 l3 l4 u h
    exact nn_ h
  | succ n ih =>
    intro l1 l2 l3 l4 u h
    exact bX3_catchYoungest_32_5 hX hR ih l1 l2 l3 l4 u h
def FX3_catchYoungest_32 (p1 p2 : Int32) (u : Mem) : Option Mem :=
  FX3_catchYoungest_32_L5 FU p1 p2 (-1) 0 u
theorem CX3_catchYoungest_32 {G : Gt} (p1 p2 : Int32) (u : Mem) {u' : Mem} (h : FX3_catchYoungest_32 p1 p2 u = some u') : CT G yX3_catchYoungest cX3_catchYoungest 6 none 3 [.ref 32, .int p1, .int p2] (SHg G) (RHg G) u (none, (SHg G), (RHg G), u') :=
  ct_of (by decide) rfl (Nat.le_of_ble_eq_true rfl) (Nat.le_refl _) (Nat.le_refl _) (fun X hX hR => by
  unfold FX3_catchYoungest_32 at h
  refine w_iconst (-1) 0 hX ic_m1 dX3_catchYoungest_0 ?_
  refine w_istore_n (lv' := [(3, .int (-1)), (0, .ref 32), (1, .int p1), (2, .int p2)]) 1 hX rfl dX3_catchYoungest_1 (by decide) rfl ?_
  refine w_iconst 0 2 hX ic_0 dX3_catchYoungest_2 ?_
  refine w_istore (lv' := [(4, .int 0), (3, .int (-1)), (0, .ref 32), (1, .int p1), (2, .int p2)]) 3 hX dX3_catchYoungest_3 (by decide) rfl ?_
  exact w_sub [2, 3, 4, 1, 0] rfl (lX3_catchYoungest_32_5 hX hR FU p1 p2 (-1) 0 u h))
