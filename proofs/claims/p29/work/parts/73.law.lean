theorem nm_L_holds : mv_nm yL_holds 1 := ⟨by decide +kernel, by decide +kernel, by decide +kernel⟩
theorem wy_L_holds : Cond.static yL_holds ∈ mv_wA ∧ Cond.initialized yL_holds.cls ∈ mv_wA ∧ Cond.code yL_holds cL_holds 20 (some .boolean) ∈ mv_wA ∧ mv_nm yL_holds 1 := ⟨mv_wA_of (mv_t2 (List.mem_of_getElem? (i := 157) rfl)) rfl, mv_wA_of (mv_t1 (List.mem_of_getElem? (i := 0) rfl)) rfl, mv_wA_of (mv_t2 (List.mem_of_getElem? (i := 158) rfl)) rfl, nm_L_holds⟩
theorem wc_L_108 : mv_wS RL 108 yL_holds cL_holds 20 (some .boolean) 1 := ⟨mv_wA_of (mv_t2 (List.mem_of_getElem? (i := 156) rfl)) rfl, wy_L_holds⟩
theorem nm_L_acts : mv_nm yL_acts 3 := ⟨by decide +kernel, by decide +kernel, by decide +kernel⟩
theorem wy_L_acts : Cond.static yL_acts ∈ mv_wA ∧ Cond.initialized yL_acts.cls ∈ mv_wA ∧ Cond.code yL_acts cL_acts 13 (some .boolean) ∈ mv_wA ∧ mv_nm yL_acts 3 := ⟨mv_wA_of (mv_t3 (List.mem_of_getElem? (i := 2) rfl)) rfl, mv_wA_of (mv_t1 (List.mem_of_getElem? (i := 0) rfl)) rfl, mv_wA_of (mv_t3 (List.mem_of_getElem? (i := 3) rfl)) rfl, nm_L_acts⟩
theorem wc_L_128 : mv_wS RL 128 yL_acts cL_acts 13 (some .boolean) 3 := ⟨mv_wA_of (mv_t3 (List.mem_of_getElem? (i := 1) rfl)) rfl, wy_L_acts⟩
theorem nm_X6_undo : mv_nm yX6_undo 0 := ⟨by decide +kernel, by decide +kernel, by decide +kernel⟩
theorem wy_X6_undo : Cond.instanceMethod yX6_undo ∈ mv_wA ∧ Cond.selects RX6 yX6_undo yX6_undo ∈ mv_wA ∧ Cond.initialized yX6_undo.cls ∈ mv_wA ∧ Cond.code yX6_undo cX6_undo 1 (some .int) ∈ mv_wA ∧ mv_nm yX6_undo 0 := ⟨mv_wA_of (mv_t2 (List.mem_of_getElem? (i := 31) rfl)) rfl, mv_wA_of (mv_t2 (List.mem_of_getElem? (i := 32) rfl)) rfl, mv_wA_of (mv_t1 (List.mem_of_getElem? (i := 1) rfl)) rfl, mv_wA_of (mv_t2 (List.mem_of_getElem? (i := 33) rfl)) rfl, nm_X6_undo⟩
theorem wc_L_115 : mv_wV RL 115 RX6 yX6_undo cX6_undo 1 (some .int) 0 := ⟨mv_wA_of (mv_t2 (List.mem_of_getElem? (i := 30) rfl)) rfl, wy_X6_undo⟩
theorem nm_X6_restore : mv_nm yX6_restore 0 := ⟨by decide +kernel, by decide +kernel, by decide +kernel⟩
theorem wy_X6_restore : Cond.instanceMethod yX6_restore ∈ mv_wA ∧ Cond.selects RX6 yX6_restore yX6_restore ∈ mv_wA ∧ Cond.initialized yX6_restore.cls ∈ mv_wA ∧ Cond.code yX6_restore cX6_restore 1 (some .int) ∈ mv_wA ∧ mv_nm yX6_restore 0 := ⟨mv_wA_of (mv_t2 (List.mem_of_getElem? (i := 70) rfl)) rfl, mv_wA_of (mv_t2 (List.mem_of_getElem? (i := 71) rfl)) rfl, mv_wA_of (mv_t1 (List.mem_of_getElem? (i := 1) rfl)) rfl, mv_wA_of (mv_t2 (List.mem_of_getElem? (i := 72) rfl)) rfl, nm_X6_restore⟩
theorem wc_L_118 : mv_wV RL 118 RX6 yX6_restore cX6_restore 1 (some .int) 0 := ⟨mv_wA_of (mv_t2 (List.mem_of_getElem? (i := 69) rfl)) rfl, wy_X6_restore⟩
theorem nm_X6_save : mv_nm yX6_save 0 := ⟨by decide +kernel, by decide +kernel, by decide +kernel⟩
theorem wy_X6_save : Cond.instanceMethod yX6_save ∈ mv_wA ∧ Cond.selects RX6 yX6_save yX6_save ∈ mv_wA ∧ Cond.initialized yX6_save.cls ∈ mv_wA ∧ Cond.code yX6_save cX6_save 1 (some .int) ∈ mv_wA ∧ mv_nm yX6_save 0 := ⟨mv_wA_of (mv_t2 (List.mem_of_getElem? (i := 65) rfl)) rfl, mv_wA_of (mv_t2 (List.mem_of_getElem? (i := 66) rfl)) rfl, mv_wA_of (mv_t1 (List.mem_of_getElem? (i := 1) rfl)) rfl, mv_wA_of (mv_t2 (List.mem_of_getElem? (i := 67) rfl)) rfl, nm_X6_save⟩
theorem wc_L_121 : mv_wV RL 121 RX6 yX6_save cX6_save 1 (some .int) 0 := ⟨mv_wA_of (mv_t2 (List.mem_of_getElem? (i := 64) rfl)) rfl, wy_X6_save⟩
theorem nm_L_would : mv_nm yL_would 2 := ⟨by decide +kernel, by decide +kernel, by decide +kernel⟩
theorem wy_L_would : Cond.static yL_would ∈ mv_wA ∧ Cond.initialized yL_would.cls ∈ mv_wA ∧ Cond.code yL_would cL_would 19 (some .boolean) ∈ mv_wA ∧ mv_nm yL_would 2 := ⟨mv_wA_of (mv_t2 (List.mem_of_getElem? (i := 176) rfl)) rfl, mv_wA_of (mv_t1 (List.mem_of_getElem? (i := 0) rfl)) rfl, mv_wA_of (mv_t2 (List.mem_of_getElem? (i := 177) rfl)) rfl, nm_L_would⟩
theorem wc_L_112 : mv_wS RL 112 yL_would cL_would 19 (some .boolean) 2 := ⟨mv_wA_of (mv_t2 (List.mem_of_getElem? (i := 175) rfl)) rfl, wy_L_would⟩
def J_L_law_386 (k62 : Int32 → Int64 → Int32 → mv_M Int32) (Ls : Nat) (xs : Nat → Int32) (x2 : Int32) (x3 : Int64) (x5 : Int32) : mv_M Int32 :=
  k62 x2 x3 (x5 + (1 : Int32))

set_option maxHeartbeats 4000000 in
set_option maxRecDepth 100000 in
theorem sJ_L_law_386 {p : Program} {l : Launch} {e : Env} {s : State} {m : MethodId} {b : Addr} {below : List Frame} {meth : Method} {c : Code} {N0 : Nat} {D : va_G} {dA : Nat → ClassId} {Ls : Nat} {xs : Nat → Int32} (hC : mv_Lx p s m b meth c N0 D dA) (hX : mv_Lsc s b N0 Ls xs) (x2 : Int32) (x3 : Int64) (x5 : Int32) (k62 : Int32 → Int64 → Int32 → mv_M Int32) (hk62 : ∀ (y2 : Int32) (y3 : Int64) (y5 : Int32), mv_LS p l e s m b below meth c N0 D dA 62 [(0, .ref b), (1, .ref (N0 + 0)), (2, .int y2), (3, .long y3), (5, .int y5)] [] (k62 y2 y3 y5)) : mv_LS p l e s m b below meth c N0 D dA 386 [(0, .ref b), (1, .ref (N0 + 0)), (2, .int x2), (3, .long x3), (5, .int x5)] [] (J_L_law_386 k62 Ls xs x2 x3 x5) := by
  unfold J_L_law_386
  refine ls_iinc (y := (x5 + (1 : Int32))) 4 hC dL_law_386 rfl rfl (by decide) rfl rfl ?_
  refine ls_goto (q := 62) hC dL_law_389 rfl ?_
  refine ls_sub [1, 2, 3, 4, 0] rfl ?_
  exact hk62 x2 x3 (x5 + (1 : Int32))

def J_L_law_385 (k62 : Int32 → Int64 → Int32 → mv_M Int32) (Ls : Nat) (xs : Nat → Int32) (x3 : Int64) (x5 : Int32) (s0 : Int32) : mv_M Int32 :=
  J_L_law_386 k62 Ls xs s0 x3 x5

set_option maxHeartbeats 4000000 in
set_option maxRecDepth 100000 in
theorem sJ_L_law_385 {p : Program} {l : Launch} {e : Env} {s : State} {m : MethodId} {b : Addr} {below : List Frame} {meth : Method} {c : Code} {N0 : Nat} {D : va_G} {dA : Nat → ClassId} {Ls : Nat} {xs : Nat → Int32} (hC : mv_Lx p s m b meth c N0 D dA) (hX : mv_Lsc s b N0 Ls xs) (x3 : Int64) (x5 : Int32) (s0 : Int32) (k62 : Int32 → Int64 → Int32 → mv_M Int32) (hk62 : ∀ (y2 : Int32) (y3 : Int64) (y5 : Int32), mv_LS p l e s m b below meth c N0 D dA 62 [(0, .ref b), (1, .ref (N0 + 0)), (2, .int y2), (3, .long y3), (5, .int y5)] [] (k62 y2 y3 y5)) : mv_LS p l e s m b below meth c N0 D dA 385 [(0, .ref b), (1, .ref (N0 + 0)), (3, .long x3), (5, .int x5)] [.int s0] (J_L_law_385 k62 Ls xs x3 x5 s0) := by
  unfold J_L_law_385
  refine ls_istore_n hC dL_law_385 rfl (by decide) rfl rfl ?_
  refine ls_sub [1, 2, 0, 3, 4] rfl ?_
  exact sJ_L_law_386 hC hX s0 x3 x5 _ hk62

def J_L_law_377 (k62 : Int32 → Int64 → Int32 → mv_M Int32) (Ls : Nat) (xs : Nat → Int32) (x3 : Int64) (x5 : Int32) (s0 : Int32) (s1 : Int32) : mv_M Int32 :=
  if s0 = s1 then
    J_L_law_385 k62 Ls xs x3 x5 (1 : Int32)
  else
    J_L_law_385 k62 Ls xs x3 x5 (0 : Int32)

set_option maxHeartbeats 4000000 in
set_option maxRecDepth 100000 in
theorem sJ_L_law_377 {p : Program} {l : Launch} {e : Env} {s : State} {m : MethodId} {b : Addr} {below : List Frame} {meth : Method} {c : Code} {N0 : Nat} {D : va_G} {dA : Nat → ClassId} {Ls : Nat} {xs : Nat → Int32} (hC : mv_Lx p s m b meth c N0 D dA) (hX : mv_Lsc s b N0 Ls xs) (x3 : Int64) (x5 : Int32) (s0 : Int32) (s1 : Int32) (k62 : Int32 → Int64 → Int32 → mv_M Int32) (hk62 : ∀ (y2 : Int32) (y3 : Int64) (y5 : Int32), mv_LS p l e s m b below meth c N0 D dA 62 [(0, .ref b), (1, .ref (N0 + 0)), (2, .int y2), (3, .long y3), (5, .int y5)] [] (k62 y2 y3 y5)) : mv_LS p l e s m b below meth c N0 D dA 377 [(0, .ref b), (1, .ref (N0 + 0)), (3, .long x3), (5, .int x5)] [.int s1, .int s0] (J_L_law_377 k62 Ls xs x3 x5 s0 s1) := by
  unfold J_L_law_377
  refine ls_icmp_ne (tgt := 384) hC dL_law_377 rfl rfl ?_ ?_
  · refine ls_iconst (v := (0 : Int32)) hC dL_law_384 (by decide) rfl ?_
    refine ls_sub [0, 1, 2, 3] rfl ?_
    exact sJ_L_law_385 hC hX x3 x5 (0 : Int32) _ hk62
  · refine ls_iconst (v := (1 : Int32)) hC dL_law_380 (by decide) rfl ?_
    refine ls_goto (q := 385) hC dL_law_381 rfl ?_
    refine ls_sub [0, 1, 2, 3] rfl ?_
    exact sJ_L_law_385 hC hX x3 x5 (1 : Int32) _ hk62

def J_L_law_337 (k62 : Int32 → Int64 → Int32 → mv_M Int32) (Ls : Nat) (xs : Nat → Int32) (x2 : Int32) (x3 : Int64) (x5 : Int32) : mv_M Int32 :=
  if x2 = 0 then
    J_L_law_386 k62 Ls xs x2 x3 x5
  else
    mv_bd (mv_rm x5 (11 : Int32)) fun v1 =>
    if v1 = (10 : Int32) then
      mv_bd (mv_rc 6 7 (some 0)) fun i3 => mv_bd (F_X6_count i3 (16 : Int32)) fun v2 =>
      mv_bd (mv_rc 6 7 (some 0)) fun i5 => mv_bd (F_X6_undo i5 ) fun v4 =>
      if v2 = 0 then
        J_L_law_377 k62 Ls xs x3 x5 v4 ((-2) : Int32)
      else
        J_L_law_377 k62 Ls xs x3 x5 v4 (v2 - (1 : Int32))
    else
      J_L_law_386 k62 Ls xs x2 x3 x5

set_option maxHeartbeats 4000000 in
set_option maxRecDepth 100000 in
theorem sJ_L_law_337 {p : Program} {l : Launch} {e : Env} {s : State} {m : MethodId} {b : Addr} {below : List Frame} {meth : Method} {c : Code} {N0 : Nat} {D : va_G} {dA : Nat → ClassId} {Ls : Nat} {xs : Nat → Int32} (hC : mv_Lx p s m b meth c N0 D dA) (hX : mv_Lsc s b N0 Ls xs) (x2 : Int32) (x3 : Int64) (x5 : Int32) (k62 : Int32 → Int64 → Int32 → mv_M Int32) (hk62 : ∀ (y2 : Int32) (y3 : Int64) (y5 : Int32), mv_LS p l e s m b below meth c N0 D dA 62 [(0, .ref b), (1, .ref (N0 + 0)), (2, .int y2), (3, .long y3), (5, .int y5)] [] (k62 y2 y3 y5)) : mv_LS p l e s m b below meth c N0 D dA 337 [(0, .ref b), (1, .ref (N0 + 0)), (2, .int x2), (3, .long x3), (5, .int x5)] [] (J_L_law_337 k62 Ls xs x2 x3 x5) := by
  unfold J_L_law_337
  refine ls_iload_n 2 hC dL_law_337 rfl rfl rfl ?_
  refine ls_if_eq (tgt := 386) hC dL_law_338 rfl rfl ?_ ?_
  · refine ls_sub [0, 1, 2, 3, 4] rfl ?_
    exact sJ_L_law_386 hC hX x2 x3 x5 _ hk62
  · refine ls_iload 4 hC dL_law_341 rfl rfl ?_
    refine ls_bipush (v := (11 : Int32)) hC dL_law_343 (by decide) rfl ?_
    refine ls_irem hC dL_law_345 rfl (fun v1 => ?_)
    refine ls_bipush (v := (10 : Int32)) hC dL_law_346 (by decide) rfl ?_
    refine ls_icmp_ne (tgt := 386) hC dL_law_348 rfl rfl ?_ ?_
    · refine ls_sub [0, 1, 2, 3, 4] rfl ?_
      exact sJ_L_law_386 hC hX x2 x3 x5 _ hk62
    · refine ls_aload_n 1 hC dL_law_351 rfl rfl rfl ?_
      refine ls_bipush (v := (16 : Int32)) hC dL_law_352 (by decide) rfl ?_
      refine ls_callVi (st := []) [.int (16 : Int32)] (fun i3 => c_X6_count l N0 D dA i3 (16 : Int32)) (T := TX6) rfl (by decide) wc_L_13 ⟨by decide, by decide⟩ rfl (Nat.le_of_ble_eq_true rfl) hC dL_law_354 rfl (fun v2 => ?_)
      refine ls_istore hC dL_law_357 (by decide) rfl rfl ?_
      refine ls_aload_n 2 hC dL_law_359 rfl rfl rfl ?_
      refine ls_callVi (st := []) [] (fun i5 => c_X6_undo l N0 D dA i5 ) (T := TX6) rfl (by decide) wc_L_115 ⟨by decide, by decide⟩ rfl (Nat.le_of_ble_eq_true rfl) hC dL_law_360 rfl (fun v4 => ?_)
      refine ls_iload 0 hC dL_law_363 rfl rfl ?_
      refine ls_if_ne (tgt := 373) hC dL_law_365 rfl rfl ?_ ?_
      · refine ls_iload 0 hC dL_law_373 rfl rfl ?_
        refine ls_iconst (v := (1 : Int32)) hC dL_law_375 (by decide) rfl ?_
        refine ls_isub hC dL_law_376 rfl ?_
        refine ls_sub [1, 2, 4, 5] rfl ?_
        exact sJ_L_law_377 hC hX x3 x5 v4 (v2 - (1 : Int32)) _ hk62
      · refine ls_bipush (v := ((-2) : Int32)) hC dL_law_368 (by decide) rfl ?_
        refine ls_goto (q := 377) hC dL_law_370 rfl ?_
        refine ls_sub [1, 2, 4, 5] rfl ?_
        exact sJ_L_law_377 hC hX x3 x5 v4 ((-2) : Int32) _ hk62

def J_L_law_331 (k62 : Int32 → Int64 → Int32 → mv_M Int32) (Ls : Nat) (xs : Nat → Int32) (x5 : Int32) (s0 : Int32) : mv_M Int32 :=
  mv_bd (F_L_look 0) fun v6 =>
  J_L_law_337 k62 Ls xs s0 v6 x5

set_option maxHeartbeats 4000000 in
set_option maxRecDepth 100000 in
theorem sJ_L_law_331 {p : Program} {l : Launch} {e : Env} {s : State} {m : MethodId} {b : Addr} {below : List Frame} {meth : Method} {c : Code} {N0 : Nat} {D : va_G} {dA : Nat → ClassId} {Ls : Nat} {xs : Nat → Int32} (hC : mv_Lx p s m b meth c N0 D dA) (hX : mv_Lsc s b N0 Ls xs) (x5 : Int32) (s0 : Int32) (k62 : Int32 → Int64 → Int32 → mv_M Int32) (hk62 : ∀ (y2 : Int32) (y3 : Int64) (y5 : Int32), mv_LS p l e s m b below meth c N0 D dA 62 [(0, .ref b), (1, .ref (N0 + 0)), (2, .int y2), (3, .long y3), (5, .int y5)] [] (k62 y2 y3 y5)) : mv_LS p l e s m b below meth c N0 D dA 331 [(0, .ref b), (1, .ref (N0 + 0)), (5, .int x5)] [.int s0] (J_L_law_331 k62 Ls xs x5 s0) := by
  unfold J_L_law_331
  refine ls_istore_n hC dL_law_331 rfl (by decide) rfl rfl ?_
  refine ls_aload_n 2 hC dL_law_332 rfl rfl rfl ?_
  refine ls_callSj (st := []) [.ref (N0 + 0)] (c_L_look l N0 D dA 0) wc_L_69 ⟨by decide, by decide⟩ rfl (Nat.le_of_ble_eq_true rfl) hC dL_law_333 rfl (fun v6 => ?_)
  refine ls_lstore_n hC dL_law_336 rfl (by decide) rfl rfl ?_
  refine ls_sub [2, 3, 1, 0, 4] rfl ?_
  exact sJ_L_law_337 hC hX s0 v6 x5 _ hk62

def J_L_law_330 (k62 : Int32 → Int64 → Int32 → mv_M Int32) (Ls : Nat) (xs : Nat → Int32) (x5 : Int32) : mv_M Int32 :=
  J_L_law_331 k62 Ls xs x5 (0 : Int32)

set_option maxHeartbeats 4000000 in
set_option maxRecDepth 100000 in
theorem sJ_L_law_330 {p : Program} {l : Launch} {e : Env} {s : State} {m : MethodId} {b : Addr} {below : List Frame} {meth : Method} {c : Code} {N0 : Nat} {D : va_G} {dA : Nat → ClassId} {Ls : Nat} {xs : Nat → Int32} (hC : mv_Lx p s m b meth c N0 D dA) (hX : mv_Lsc s b N0 Ls xs) (x5 : Int32) (k62 : Int32 → Int64 → Int32 → mv_M Int32) (hk62 : ∀ (y2 : Int32) (y3 : Int64) (y5 : Int32), mv_LS p l e s m b below meth c N0 D dA 62 [(0, .ref b), (1, .ref (N0 + 0)), (2, .int y2), (3, .long y3), (5, .int y5)] [] (k62 y2 y3 y5)) : mv_LS p l e s m b below meth c N0 D dA 330 [(0, .ref b), (1, .ref (N0 + 0)), (5, .int x5)] [] (J_L_law_330 k62 Ls xs x5) := by
  unfold J_L_law_330
  refine ls_iconst (v := (0 : Int32)) hC dL_law_330 (by decide) rfl ?_
  refine ls_sub [0, 1, 2] rfl ?_
  exact sJ_L_law_331 hC hX x5 (0 : Int32) _ hk62

def J_L_law_268 (k62 : Int32 → Int64 → Int32 → mv_M Int32) (Ls : Nat) (xs : Nat → Int32) (x2 : Int32) (x3 : Int64) (x5 : Int32) : mv_M Int32 :=
  if x2 = 0 then
    J_L_law_337 k62 Ls xs x2 x3 x5
  else
    mv_bd (mv_rm x5 (15 : Int32)) fun v7 =>
    if v7 = (14 : Int32) then
      mv_bd (mv_rc 6 7 (some 0)) fun i9 => mv_bd (F_X6_restore i9 ) fun v8 =>
      mv_bd (mv_rc 6 7 (some 0)) fun i11 => mv_bd (F_X6_count i11 (0 : Int32)) fun v10 =>
      if v8 = v10 then
        mv_bd (F_L_look 0) fun v12 =>
        if (lg_cmp v12 x3) = 0 then
          mv_bd (mv_rc 6 7 (some 0)) fun i14 => mv_bd (F_X6_undo i14 ) fun v13 =>
          if v13 < 0 then
            J_L_law_330 k62 Ls xs x5
          else
            mv_bd (mv_rc 6 7 (some 0)) fun i16 => mv_bd (F_X6_save i16 ) fun v15 =>
            mv_bd (mv_rc 6 7 (some 0)) fun i18 => mv_bd (F_X6_count i18 (0 : Int32)) fun v17 =>
            if v15 = v17 then
              J_L_law_331 k62 Ls xs x5 (1 : Int32)
            else
              J_L_law_330 k62 Ls xs x5
        else
          J_L_law_330 k62 Ls xs x5
      else
        J_L_law_330 k62 Ls xs x5
    else
      J_L_law_337 k62 Ls xs x2 x3 x5

set_option maxHeartbeats 4000000 in
set_option maxRecDepth 100000 in
theorem sJ_L_law_268 {p : Program} {l : Launch} {e : Env} {s : State} {m : MethodId} {b : Addr} {below : List Frame} {meth : Method} {c : Code} {N0 : Nat} {D : va_G} {dA : Nat → ClassId} {Ls : Nat} {xs : Nat → Int32} (hC : mv_Lx p s m b meth c N0 D dA) (hX : mv_Lsc s b N0 Ls xs) (x2 : Int32) (x3 : Int64) (x5 : Int32) (k62 : Int32 → Int64 → Int32 → mv_M Int32) (hk62 : ∀ (y2 : Int32) (y3 : Int64) (y5 : Int32), mv_LS p l e s m b below meth c N0 D dA 62 [(0, .ref b), (1, .ref (N0 + 0)), (2, .int y2), (3, .long y3), (5, .int y5)] [] (k62 y2 y3 y5)) : mv_LS p l e s m b below meth c N0 D dA 268 [(0, .ref b), (1, .ref (N0 + 0)), (2, .int x2), (3, .long x3), (5, .int x5)] [] (J_L_law_268 k62 Ls xs x2 x3 x5) := by
  unfold J_L_law_268
  refine ls_iload_n 2 hC dL_law_268 rfl rfl rfl ?_
  refine ls_if_eq (tgt := 337) hC dL_law_269 rfl rfl ?_ ?_
  · refine ls_sub [0, 1, 2, 3, 4] rfl ?_
    exact sJ_L_law_337 hC hX x2 x3 x5 _ hk62
  · refine ls_iload 4 hC dL_law_272 rfl rfl ?_
    refine ls_bipush (v := (15 : Int32)) hC dL_law_274 (by decide) rfl ?_
    refine ls_irem hC dL_law_276 rfl (fun v7 => ?_)
    refine ls_bipush (v := (14 : Int32)) hC dL_law_277 (by decide) rfl ?_
    refine ls_icmp_ne (tgt := 337) hC dL_law_279 rfl rfl ?_ ?_
    · refine ls_sub [0, 1, 2, 3, 4] rfl ?_
      exact sJ_L_law_337 hC hX x2 x3 x5 _ hk62
    · refine ls_aload_n 1 hC dL_law_282 rfl rfl rfl ?_
      refine ls_callVi (st := []) [] (fun i9 => c_X6_restore l N0 D dA i9 ) (T := TX6) rfl (by decide) wc_L_118 ⟨by decide, by decide⟩ rfl (Nat.le_of_ble_eq_true rfl) hC dL_law_283 rfl (fun v8 => ?_)
      refine ls_istore hC dL_law_286 (by decide) rfl rfl ?_
      refine ls_iload 0 hC dL_law_288 rfl rfl ?_
      refine ls_aload_n 2 hC dL_law_290 rfl rfl rfl ?_
      refine ls_iconst (v := (0 : Int32)) hC dL_law_291 (by decide) rfl ?_
      refine ls_callVi (st := [.int v8]) [.int (0 : Int32)] (fun i11 => c_X6_count l N0 D dA i11 (0 : Int32)) (T := TX6) rfl (by decide) wc_L_13 ⟨by decide, by decide⟩ rfl (Nat.le_of_ble_eq_true rfl) hC dL_law_292 rfl (fun v10 => ?_)
      refine ls_icmp_ne (tgt := 330) hC dL_law_295 rfl rfl ?_ ?_
      · refine ls_sub [1, 2, 5] rfl ?_
        exact sJ_L_law_330 hC hX x5 _ hk62
      · refine ls_aload_n 2 hC dL_law_298 rfl rfl rfl ?_
        refine ls_callSj (st := []) [.ref (N0 + 0)] (c_L_look l N0 D dA 0) wc_L_69 ⟨by decide, by decide⟩ rfl (Nat.le_of_ble_eq_true rfl) hC dL_law_299 rfl (fun v12 => ?_)
        refine ls_lload_n 4 hC dL_law_302 rfl rfl rfl ?_
        refine ls_lcmp hC dL_law_303 rfl ?_
        refine ls_if_ne (tgt := 330) hC dL_law_304 rfl rfl ?_ ?_
        · refine ls_sub [1, 2, 5] rfl ?_
          exact sJ_L_law_330 hC hX x5 _ hk62
        · refine ls_aload_n 2 hC dL_law_307 rfl rfl rfl ?_
          refine ls_callVi (st := []) [] (fun i14 => c_X6_undo l N0 D dA i14 ) (T := TX6) rfl (by decide) wc_L_115 ⟨by decide, by decide⟩ rfl (Nat.le_of_ble_eq_true rfl) hC dL_law_308 rfl (fun v13 => ?_)
          refine ls_if_lt (tgt := 330) hC dL_law_311 rfl rfl ?_ ?_
          · refine ls_sub [1, 2, 5] rfl ?_
            exact sJ_L_law_330 hC hX x5 _ hk62
          · refine ls_aload_n 2 hC dL_law_314 rfl rfl rfl ?_
            refine ls_callVi (st := []) [] (fun i16 => c_X6_save l N0 D dA i16 ) (T := TX6) rfl (by decide) wc_L_121 ⟨by decide, by decide⟩ rfl (Nat.le_of_ble_eq_true rfl) hC dL_law_315 rfl (fun v15 => ?_)
            refine ls_aload_n 2 hC dL_law_318 rfl rfl rfl ?_
            refine ls_iconst (v := (0 : Int32)) hC dL_law_319 (by decide) rfl ?_
            refine ls_callVi (st := [.int v15]) [.int (0 : Int32)] (fun i18 => c_X6_count l N0 D dA i18 (0 : Int32)) (T := TX6) rfl (by decide) wc_L_13 ⟨by decide, by decide⟩ rfl (Nat.le_of_ble_eq_true rfl) hC dL_law_320 rfl (fun v17 => ?_)
            refine ls_icmp_ne (tgt := 330) hC dL_law_323 rfl rfl ?_ ?_
            · refine ls_sub [1, 2, 5] rfl ?_
              exact sJ_L_law_330 hC hX x5 _ hk62
            · refine ls_iconst (v := (1 : Int32)) hC dL_law_326 (by decide) rfl ?_
              refine ls_goto (q := 331) hC dL_law_327 rfl ?_
              refine ls_sub [1, 2, 5] rfl ?_
              exact sJ_L_law_331 hC hX x5 (1 : Int32) _ hk62

def J_L_law_267 (k62 : Int32 → Int64 → Int32 → mv_M Int32) (Ls : Nat) (xs : Nat → Int32) (x3 : Int64) (x5 : Int32) (s0 : Int32) : mv_M Int32 :=
  J_L_law_268 k62 Ls xs s0 x3 x5

set_option maxHeartbeats 4000000 in
set_option maxRecDepth 100000 in
theorem sJ_L_law_267 {p : Program} {l : Launch} {e : Env} {s : State} {m : MethodId} {b : Addr} {below : List Frame} {meth : Method} {c : Code} {N0 : Nat} {D : va_G} {dA : Nat → ClassId} {Ls : Nat} {xs : Nat → Int32} (hC : mv_Lx p s m b meth c N0 D dA) (hX : mv_Lsc s b N0 Ls xs) (x3 : Int64) (x5 : Int32) (s0 : Int32) (k62 : Int32 → Int64 → Int32 → mv_M Int32) (hk62 : ∀ (y2 : Int32) (y3 : Int64) (y5 : Int32), mv_LS p l e s m b below meth c N0 D dA 62 [(0, .ref b), (1, .ref (N0 + 0)), (2, .int y2), (3, .long y3), (5, .int y5)] [] (k62 y2 y3 y5)) : mv_LS p l e s m b below meth c N0 D dA 267 [(0, .ref b), (1, .ref (N0 + 0)), (3, .long x3), (5, .int x5)] [.int s0] (J_L_law_267 k62 Ls xs x3 x5 s0) := by
  unfold J_L_law_267
  refine ls_istore_n hC dL_law_267 rfl (by decide) rfl rfl ?_
  refine ls_sub [1, 2, 0, 3, 4] rfl ?_
  exact sJ_L_law_268 hC hX s0 x3 x5 _ hk62

def J_L_law_266 (k62 : Int32 → Int64 → Int32 → mv_M Int32) (Ls : Nat) (xs : Nat → Int32) (x3 : Int64) (x5 : Int32) : mv_M Int32 :=
  J_L_law_267 k62 Ls xs x3 x5 (0 : Int32)

set_option maxHeartbeats 4000000 in
set_option maxRecDepth 100000 in
theorem sJ_L_law_266 {p : Program} {l : Launch} {e : Env} {s : State} {m : MethodId} {b : Addr} {below : List Frame} {meth : Method} {c : Code} {N0 : Nat} {D : va_G} {dA : Nat → ClassId} {Ls : Nat} {xs : Nat → Int32} (hC : mv_Lx p s m b meth c N0 D dA) (hX : mv_Lsc s b N0 Ls xs) (x3 : Int64) (x5 : Int32) (k62 : Int32 → Int64 → Int32 → mv_M Int32) (hk62 : ∀ (y2 : Int32) (y3 : Int64) (y5 : Int32), mv_LS p l e s m b below meth c N0 D dA 62 [(0, .ref b), (1, .ref (N0 + 0)), (2, .int y2), (3, .long y3), (5, .int y5)] [] (k62 y2 y3 y5)) : mv_LS p l e s m b below meth c N0 D dA 266 [(0, .ref b), (1, .ref (N0 + 0)), (3, .long x3), (5, .int x5)] [] (J_L_law_266 k62 Ls xs x3 x5) := by
  unfold J_L_law_266
  refine ls_iconst (v := (0 : Int32)) hC dL_law_266 (by decide) rfl ?_
  refine ls_sub [0, 1, 2, 3] rfl ?_
  exact sJ_L_law_267 hC hX x3 x5 (0 : Int32) _ hk62

def J_L_law_217 (k62 : Int32 → Int64 → Int32 → mv_M Int32) (Ls : Nat) (xs : Nat → Int32) (x3 : Int64) (x5 : Int32) (x7 : Int32) (x8 : Int64) (x10 : Int32) (x11 : Int32) (s0 : Int32) : mv_M Int32 :=
  if s0 = 0 then
    J_L_law_268 k62 Ls xs s0 x3 x5
  else
    if x11 = (x10 + (1 : Int32)) then
      mv_bd (F_L_low (x7 >>> ((8 : Int32) &&& 31)) (3 : Int32)) fun v19 =>
      if v19 = 0 then
        mv_bd (mv_rc 6 7 (some 0)) fun i21 => mv_bd (F_X6_undo i21 ) fun v20 =>
        if v20 = x10 then
          mv_bd (F_L_look 0) fun v22 =>
          if (lg_cmp v22 x8) = 0 then
            J_L_law_267 k62 Ls xs x3 x5 (1 : Int32)
          else
            J_L_law_266 k62 Ls xs x3 x5
        else
          J_L_law_266 k62 Ls xs x3 x5
      else
        J_L_law_268 k62 Ls xs s0 x3 x5
    else
      J_L_law_268 k62 Ls xs s0 x3 x5

set_option maxHeartbeats 4000000 in
set_option maxRecDepth 100000 in
theorem sJ_L_law_217 {p : Program} {l : Launch} {e : Env} {s : State} {m : MethodId} {b : Addr} {below : List Frame} {meth : Method} {c : Code} {N0 : Nat} {D : va_G} {dA : Nat → ClassId} {Ls : Nat} {xs : Nat → Int32} (hC : mv_Lx p s m b meth c N0 D dA) (hX : mv_Lsc s b N0 Ls xs) (x3 : Int64) (x5 : Int32) (x7 : Int32) (x8 : Int64) (x10 : Int32) (x11 : Int32) (s0 : Int32) (k62 : Int32 → Int64 → Int32 → mv_M Int32) (hk62 : ∀ (y2 : Int32) (y3 : Int64) (y5 : Int32), mv_LS p l e s m b below meth c N0 D dA 62 [(0, .ref b), (1, .ref (N0 + 0)), (2, .int y2), (3, .long y3), (5, .int y5)] [] (k62 y2 y3 y5)) : mv_LS p l e s m b below meth c N0 D dA 217 [(0, .ref b), (1, .ref (N0 + 0)), (3, .long x3), (5, .int x5), (7, .int x7), (8, .long x8), (10, .int x10), (11, .int x11)] [.int s0] (J_L_law_217 k62 Ls xs x3 x5 x7 x8 x10 x11 s0) := by
  unfold J_L_law_217
  refine ls_istore_n hC dL_law_217 rfl (by decide) rfl rfl ?_
  refine ls_iload_n 0 hC dL_law_218 rfl rfl rfl ?_
  refine ls_if_eq (tgt := 268) hC dL_law_219 rfl rfl ?_ ?_
  · refine ls_sub [1, 2, 0, 3, 4] rfl ?_
    exact sJ_L_law_268 hC hX s0 x3 x5 _ hk62
  · refine ls_iload 8 hC dL_law_222 rfl rfl ?_
    refine ls_iload 7 hC dL_law_224 rfl rfl ?_
    refine ls_iconst (v := (1 : Int32)) hC dL_law_226 (by decide) rfl ?_
    refine ls_iadd hC dL_law_227 rfl ?_
    refine ls_icmp_ne (tgt := 268) hC dL_law_228 rfl rfl ?_ ?_
    · refine ls_sub [1, 2, 0, 3, 4] rfl ?_
      exact sJ_L_law_268 hC hX s0 x3 x5 _ hk62
    · refine ls_iload 5 hC dL_law_231 rfl rfl ?_
      refine ls_bipush (v := (8 : Int32)) hC dL_law_233 (by decide) rfl ?_
      refine ls_ishr hC dL_law_235 rfl ?_
      refine ls_iconst (v := (3 : Int32)) hC dL_law_236 (by decide) rfl ?_
      refine ls_callSi (st := []) [.int (x7 >>> ((8 : Int32) &&& 31)), .int (3 : Int32)] (c_L_low l N0 D dA (x7 >>> ((8 : Int32) &&& 31)) (3 : Int32)) wc_L_38 ⟨by decide, by decide⟩ rfl (Nat.le_of_ble_eq_true rfl) hC dL_law_237 rfl (fun v19 => ?_)
      refine ls_if_ne (tgt := 268) hC dL_law_240 rfl rfl ?_ ?_
      · refine ls_sub [1, 2, 0, 3, 4] rfl ?_
        exact sJ_L_law_268 hC hX s0 x3 x5 _ hk62
      · refine ls_aload_n 2 hC dL_law_243 rfl rfl rfl ?_
        refine ls_callVi (st := []) [] (fun i21 => c_X6_undo l N0 D dA i21 ) (T := TX6) rfl (by decide) wc_L_115 ⟨by decide, by decide⟩ rfl (Nat.le_of_ble_eq_true rfl) hC dL_law_244 rfl (fun v20 => ?_)
        refine ls_iload 7 hC dL_law_247 rfl rfl ?_
        refine ls_icmp_ne (tgt := 266) hC dL_law_249 rfl rfl ?_ ?_
        · refine ls_sub [1, 2, 3, 4] rfl ?_
          exact sJ_L_law_266 hC hX x3 x5 _ hk62
        · refine ls_aload_n 2 hC dL_law_252 rfl rfl rfl ?_
          refine ls_callSj (st := []) [.ref (N0 + 0)] (c_L_look l N0 D dA 0) wc_L_69 ⟨by decide, by decide⟩ rfl (Nat.le_of_ble_eq_true rfl) hC dL_law_253 rfl (fun v22 => ?_)
          refine ls_lload 6 hC dL_law_256 rfl rfl ?_
          refine ls_lcmp hC dL_law_258 rfl ?_
          refine ls_if_ne (tgt := 266) hC dL_law_259 rfl rfl ?_ ?_
          · refine ls_sub [1, 2, 3, 4] rfl ?_
            exact sJ_L_law_266 hC hX x3 x5 _ hk62
          · refine ls_iconst (v := (1 : Int32)) hC dL_law_262 (by decide) rfl ?_
            refine ls_goto (q := 267) hC dL_law_263 rfl ?_
            refine ls_sub [1, 2, 3, 4] rfl ?_
            exact sJ_L_law_267 hC hX x3 x5 (1 : Int32) _ hk62

def J_L_law_212 (k62 : Int32 → Int64 → Int32 → mv_M Int32) (Ls : Nat) (xs : Nat → Int32) (x3 : Int64) (x5 : Int32) (x7 : Int32) (x8 : Int64) (x10 : Int32) (x11 : Int32) : mv_M Int32 :=
  J_L_law_217 k62 Ls xs x3 x5 x7 x8 x10 x11 (1 : Int32)

set_option maxHeartbeats 4000000 in
set_option maxRecDepth 100000 in
theorem sJ_L_law_212 {p : Program} {l : Launch} {e : Env} {s : State} {m : MethodId} {b : Addr} {below : List Frame} {meth : Method} {c : Code} {N0 : Nat} {D : va_G} {dA : Nat → ClassId} {Ls : Nat} {xs : Nat → Int32} (hC : mv_Lx p s m b meth c N0 D dA) (hX : mv_Lsc s b N0 Ls xs) (x3 : Int64) (x5 : Int32) (x7 : Int32) (x8 : Int64) (x10 : Int32) (x11 : Int32) (k62 : Int32 → Int64 → Int32 → mv_M Int32) (hk62 : ∀ (y2 : Int32) (y3 : Int64) (y5 : Int32), mv_LS p l e s m b below meth c N0 D dA 62 [(0, .ref b), (1, .ref (N0 + 0)), (2, .int y2), (3, .long y3), (5, .int y5)] [] (k62 y2 y3 y5)) : mv_LS p l e s m b below meth c N0 D dA 212 [(0, .ref b), (1, .ref (N0 + 0)), (3, .long x3), (5, .int x5), (7, .int x7), (8, .long x8), (10, .int x10), (11, .int x11)] [] (J_L_law_212 k62 Ls xs x3 x5 x7 x8 x10 x11) := by
  unfold J_L_law_212
  refine ls_iconst (v := (1 : Int32)) hC dL_law_212 (by decide) rfl ?_
  refine ls_goto (q := 217) hC dL_law_213 rfl ?_
  refine ls_sub [0, 1, 2, 3, 4, 5, 6, 7] rfl ?_
  exact sJ_L_law_217 hC hX x3 x5 x7 x8 x10 x11 (1 : Int32) _ hk62

def J_L_law_216 (k62 : Int32 → Int64 → Int32 → mv_M Int32) (Ls : Nat) (xs : Nat → Int32) (x3 : Int64) (x5 : Int32) (x7 : Int32) (x8 : Int64) (x10 : Int32) (x11 : Int32) : mv_M Int32 :=
  J_L_law_217 k62 Ls xs x3 x5 x7 x8 x10 x11 (0 : Int32)

set_option maxHeartbeats 4000000 in
set_option maxRecDepth 100000 in
theorem sJ_L_law_216 {p : Program} {l : Launch} {e : Env} {s : State} {m : MethodId} {b : Addr} {below : List Frame} {meth : Method} {c : Code} {N0 : Nat} {D : va_G} {dA : Nat → ClassId} {Ls : Nat} {xs : Nat → Int32} (hC : mv_Lx p s m b meth c N0 D dA) (hX : mv_Lsc s b N0 Ls xs) (x3 : Int64) (x5 : Int32) (x7 : Int32) (x8 : Int64) (x10 : Int32) (x11 : Int32) (k62 : Int32 → Int64 → Int32 → mv_M Int32) (hk62 : ∀ (y2 : Int32) (y3 : Int64) (y5 : Int32), mv_LS p l e s m b below meth c N0 D dA 62 [(0, .ref b), (1, .ref (N0 + 0)), (2, .int y2), (3, .long y3), (5, .int y5)] [] (k62 y2 y3 y5)) : mv_LS p l e s m b below meth c N0 D dA 216 [(0, .ref b), (1, .ref (N0 + 0)), (3, .long x3), (5, .int x5), (7, .int x7), (8, .long x8), (10, .int x10), (11, .int x11)] [] (J_L_law_216 k62 Ls xs x3 x5 x7 x8 x10 x11) := by
  unfold J_L_law_216
  refine ls_iconst (v := (0 : Int32)) hC dL_law_216 (by decide) rfl ?_
  refine ls_sub [0, 1, 2, 3, 4, 5, 6, 7] rfl ?_
  exact sJ_L_law_217 hC hX x3 x5 x7 x8 x10 x11 (0 : Int32) _ hk62

def J_L_law_203 (k62 : Int32 → Int64 → Int32 → mv_M Int32) (Ls : Nat) (xs : Nat → Int32) (x3 : Int64) (x5 : Int32) (x7 : Int32) (x8 : Int64) (x10 : Int32) (x11 : Int32) : mv_M Int32 :=
  if x11 = (x10 + (1 : Int32)) then
    J_L_law_212 k62 Ls xs x3 x5 x7 x8 x10 x11
  else
    J_L_law_216 k62 Ls xs x3 x5 x7 x8 x10 x11

set_option maxHeartbeats 4000000 in
set_option maxRecDepth 100000 in
theorem sJ_L_law_203 {p : Program} {l : Launch} {e : Env} {s : State} {m : MethodId} {b : Addr} {below : List Frame} {meth : Method} {c : Code} {N0 : Nat} {D : va_G} {dA : Nat → ClassId} {Ls : Nat} {xs : Nat → Int32} (hC : mv_Lx p s m b meth c N0 D dA) (hX : mv_Lsc s b N0 Ls xs) (x3 : Int64) (x5 : Int32) (x7 : Int32) (x8 : Int64) (x10 : Int32) (x11 : Int32) (k62 : Int32 → Int64 → Int32 → mv_M Int32) (hk62 : ∀ (y2 : Int32) (y3 : Int64) (y5 : Int32), mv_LS p l e s m b below meth c N0 D dA 62 [(0, .ref b), (1, .ref (N0 + 0)), (2, .int y2), (3, .long y3), (5, .int y5)] [] (k62 y2 y3 y5)) : mv_LS p l e s m b below meth c N0 D dA 203 [(0, .ref b), (1, .ref (N0 + 0)), (3, .long x3), (5, .int x5), (7, .int x7), (8, .long x8), (10, .int x10), (11, .int x11)] [] (J_L_law_203 k62 Ls xs x3 x5 x7 x8 x10 x11) := by
  unfold J_L_law_203
  refine ls_iload 7 hC dL_law_203 rfl rfl ?_
  refine ls_iload 6 hC dL_law_205 rfl rfl ?_
  refine ls_iconst (v := (1 : Int32)) hC dL_law_207 (by decide) rfl ?_
  refine ls_iadd hC dL_law_208 rfl ?_
  refine ls_icmp_ne (tgt := 216) hC dL_law_209 rfl rfl ?_ ?_
  · refine ls_sub [0, 1, 2, 3, 4, 5, 6, 7] rfl ?_
    exact sJ_L_law_216 hC hX x3 x5 x7 x8 x10 x11 _ hk62
  · refine ls_sub [0, 1, 2, 3, 4, 5, 6, 7] rfl ?_
    exact sJ_L_law_212 hC hX x3 x5 x7 x8 x10 x11 _ hk62

def J_L_law_167 (k62 : Int32 → Int64 → Int32 → mv_M Int32) (Ls : Nat) (xs : Nat → Int32) (x3 : Int64) (x5 : Int32) (x7 : Int32) (x8 : Int64) (x10 : Int32) (s0 : Int32) : mv_M Int32 :=
  mv_bd (mv_rc 6 7 (some 0)) fun i24 => mv_bd (F_X6_count i24 (16 : Int32)) fun v23 =>
  if s0 = 0 then
    J_L_law_216 k62 Ls xs x3 x5 x7 x8 x10 v23
  else
    if v23 = x10 then
      if x10 = (4 : Int32) then
        J_L_law_212 k62 Ls xs x3 x5 x7 x8 x10 v23
      else
        mv_bd (F_L_look 0) fun v25 =>
        if (lg_cmp v25 x8) = 0 then
          J_L_law_212 k62 Ls xs x3 x5 x7 x8 x10 v23
        else
          J_L_law_203 k62 Ls xs x3 x5 x7 x8 x10 v23
    else
      J_L_law_203 k62 Ls xs x3 x5 x7 x8 x10 v23

set_option maxHeartbeats 4000000 in
set_option maxRecDepth 100000 in
theorem sJ_L_law_167 {p : Program} {l : Launch} {e : Env} {s : State} {m : MethodId} {b : Addr} {below : List Frame} {meth : Method} {c : Code} {N0 : Nat} {D : va_G} {dA : Nat → ClassId} {Ls : Nat} {xs : Nat → Int32} (hC : mv_Lx p s m b meth c N0 D dA) (hX : mv_Lsc s b N0 Ls xs) (x3 : Int64) (x5 : Int32) (x7 : Int32) (x8 : Int64) (x10 : Int32) (s0 : Int32) (k62 : Int32 → Int64 → Int32 → mv_M Int32) (hk62 : ∀ (y2 : Int32) (y3 : Int64) (y5 : Int32), mv_LS p l e s m b below meth c N0 D dA 62 [(0, .ref b), (1, .ref (N0 + 0)), (2, .int y2), (3, .long y3), (5, .int y5)] [] (k62 y2 y3 y5)) : mv_LS p l e s m b below meth c N0 D dA 167 [(0, .ref b), (1, .ref (N0 + 0)), (3, .long x3), (5, .int x5), (7, .int x7), (8, .long x8), (10, .int x10)] [.int s0] (J_L_law_167 k62 Ls xs x3 x5 x7 x8 x10 s0) := by
  unfold J_L_law_167
  refine ls_istore_n hC dL_law_167 rfl (by decide) rfl rfl ?_
  refine ls_aload_n 2 hC dL_law_168 rfl rfl rfl ?_
  refine ls_bipush (v := (16 : Int32)) hC dL_law_169 (by decide) rfl ?_
  refine ls_callVi (st := []) [.int (16 : Int32)] (fun i24 => c_X6_count l N0 D dA i24 (16 : Int32)) (T := TX6) rfl (by decide) wc_L_13 ⟨by decide, by decide⟩ rfl (Nat.le_of_ble_eq_true rfl) hC dL_law_171 rfl (fun v23 => ?_)
  refine ls_istore hC dL_law_174 (by decide) rfl rfl ?_
  refine ls_iload_n 1 hC dL_law_176 rfl rfl rfl ?_
  refine ls_if_eq (tgt := 216) hC dL_law_177 rfl rfl ?_ ?_
  · refine ls_sub [2, 3, 4, 5, 6, 7, 8, 0] rfl ?_
    exact sJ_L_law_216 hC hX x3 x5 x7 x8 x10 v23 _ hk62
  · refine ls_iload 0 hC dL_law_180 rfl rfl ?_
    refine ls_iload 8 hC dL_law_182 rfl rfl ?_
    refine ls_icmp_ne (tgt := 203) hC dL_law_184 rfl rfl ?_ ?_
    · refine ls_sub [2, 3, 4, 5, 6, 7, 8, 0] rfl ?_
      exact sJ_L_law_203 hC hX x3 x5 x7 x8 x10 v23 _ hk62
    · refine ls_iload 8 hC dL_law_187 rfl rfl ?_
      refine ls_iconst (v := (4 : Int32)) hC dL_law_189 (by decide) rfl ?_
      refine ls_icmp_eq (tgt := 212) hC dL_law_190 rfl rfl ?_ ?_
      · refine ls_sub [2, 3, 4, 5, 6, 7, 8, 0] rfl ?_
        exact sJ_L_law_212 hC hX x3 x5 x7 x8 x10 v23 _ hk62
      · refine ls_aload_n 3 hC dL_law_193 rfl rfl rfl ?_
        refine ls_callSj (st := []) [.ref (N0 + 0)] (c_L_look l N0 D dA 0) wc_L_69 ⟨by decide, by decide⟩ rfl (Nat.le_of_ble_eq_true rfl) hC dL_law_194 rfl (fun v25 => ?_)
        refine ls_lload 7 hC dL_law_197 rfl rfl ?_
        refine ls_lcmp hC dL_law_199 rfl ?_
        refine ls_if_eq (tgt := 212) hC dL_law_200 rfl rfl ?_ ?_
        · refine ls_sub [2, 3, 4, 5, 6, 7, 8, 0] rfl ?_
          exact sJ_L_law_212 hC hX x3 x5 x7 x8 x10 v23 _ hk62
        · refine ls_sub [2, 3, 4, 5, 6, 7, 8, 0] rfl ?_
          exact sJ_L_law_203 hC hX x3 x5 x7 x8 x10 v23 _ hk62

def J_L_law_162 (k62 : Int32 → Int64 → Int32 → mv_M Int32) (Ls : Nat) (xs : Nat → Int32) (x3 : Int64) (x5 : Int32) (x7 : Int32) (x8 : Int64) (x10 : Int32) : mv_M Int32 :=
  J_L_law_167 k62 Ls xs x3 x5 x7 x8 x10 (1 : Int32)

set_option maxHeartbeats 4000000 in
set_option maxRecDepth 100000 in
theorem sJ_L_law_162 {p : Program} {l : Launch} {e : Env} {s : State} {m : MethodId} {b : Addr} {below : List Frame} {meth : Method} {c : Code} {N0 : Nat} {D : va_G} {dA : Nat → ClassId} {Ls : Nat} {xs : Nat → Int32} (hC : mv_Lx p s m b meth c N0 D dA) (hX : mv_Lsc s b N0 Ls xs) (x3 : Int64) (x5 : Int32) (x7 : Int32) (x8 : Int64) (x10 : Int32) (k62 : Int32 → Int64 → Int32 → mv_M Int32) (hk62 : ∀ (y2 : Int32) (y3 : Int64) (y5 : Int32), mv_LS p l e s m b below meth c N0 D dA 62 [(0, .ref b), (1, .ref (N0 + 0)), (2, .int y2), (3, .long y3), (5, .int y5)] [] (k62 y2 y3 y5)) : mv_LS p l e s m b below meth c N0 D dA 162 [(0, .ref b), (1, .ref (N0 + 0)), (3, .long x3), (5, .int x5), (7, .int x7), (8, .long x8), (10, .int x10)] [] (J_L_law_162 k62 Ls xs x3 x5 x7 x8 x10) := by
  unfold J_L_law_162
  refine ls_iconst (v := (1 : Int32)) hC dL_law_162 (by decide) rfl ?_
  refine ls_goto (q := 167) hC dL_law_163 rfl ?_
  refine ls_sub [0, 1, 2, 3, 4, 5, 6] rfl ?_
  exact sJ_L_law_167 hC hX x3 x5 x7 x8 x10 (1 : Int32) _ hk62

def J_L_law_166 (k62 : Int32 → Int64 → Int32 → mv_M Int32) (Ls : Nat) (xs : Nat → Int32) (x3 : Int64) (x5 : Int32) (x7 : Int32) (x8 : Int64) (x10 : Int32) : mv_M Int32 :=
  J_L_law_167 k62 Ls xs x3 x5 x7 x8 x10 (0 : Int32)

set_option maxHeartbeats 4000000 in
set_option maxRecDepth 100000 in
theorem sJ_L_law_166 {p : Program} {l : Launch} {e : Env} {s : State} {m : MethodId} {b : Addr} {below : List Frame} {meth : Method} {c : Code} {N0 : Nat} {D : va_G} {dA : Nat → ClassId} {Ls : Nat} {xs : Nat → Int32} (hC : mv_Lx p s m b meth c N0 D dA) (hX : mv_Lsc s b N0 Ls xs) (x3 : Int64) (x5 : Int32) (x7 : Int32) (x8 : Int64) (x10 : Int32) (k62 : Int32 → Int64 → Int32 → mv_M Int32) (hk62 : ∀ (y2 : Int32) (y3 : Int64) (y5 : Int32), mv_LS p l e s m b below meth c N0 D dA 62 [(0, .ref b), (1, .ref (N0 + 0)), (2, .int y2), (3, .long y3), (5, .int y5)] [] (k62 y2 y3 y5)) : mv_LS p l e s m b below meth c N0 D dA 166 [(0, .ref b), (1, .ref (N0 + 0)), (3, .long x3), (5, .int x5), (7, .int x7), (8, .long x8), (10, .int x10)] [] (J_L_law_166 k62 Ls xs x3 x5 x7 x8 x10) := by
  unfold J_L_law_166
  refine ls_iconst (v := (0 : Int32)) hC dL_law_166 (by decide) rfl ?_
  refine ls_sub [0, 1, 2, 3, 4, 5, 6] rfl ?_
  exact sJ_L_law_167 hC hX x3 x5 x7 x8 x10 (0 : Int32) _ hk62

def J_L_law_145 (k62 : Int32 → Int64 → Int32 → mv_M Int32) (Ls : Nat) (xs : Nat → Int32) (x3 : Int64) (x5 : Int32) (x7 : Int32) (x8 : Int64) (x10 : Int32) : mv_M Int32 :=
  mv_bd (mv_rm x5 (4 : Int32)) fun v26 =>
  if v26 = (2 : Int32) then
    mv_bd (F_L_would 0 x7) fun v27 =>
    if v27 = 0 then
      J_L_law_166 k62 Ls xs x3 x5 x7 x8 x10
    else
      J_L_law_162 k62 Ls xs x3 x5 x7 x8 x10
  else
    J_L_law_162 k62 Ls xs x3 x5 x7 x8 x10

set_option maxHeartbeats 4000000 in
set_option maxRecDepth 100000 in
theorem sJ_L_law_145 {p : Program} {l : Launch} {e : Env} {s : State} {m : MethodId} {b : Addr} {below : List Frame} {meth : Method} {c : Code} {N0 : Nat} {D : va_G} {dA : Nat → ClassId} {Ls : Nat} {xs : Nat → Int32} (hC : mv_Lx p s m b meth c N0 D dA) (hX : mv_Lsc s b N0 Ls xs) (x3 : Int64) (x5 : Int32) (x7 : Int32) (x8 : Int64) (x10 : Int32) (k62 : Int32 → Int64 → Int32 → mv_M Int32) (hk62 : ∀ (y2 : Int32) (y3 : Int64) (y5 : Int32), mv_LS p l e s m b below meth c N0 D dA 62 [(0, .ref b), (1, .ref (N0 + 0)), (2, .int y2), (3, .long y3), (5, .int y5)] [] (k62 y2 y3 y5)) : mv_LS p l e s m b below meth c N0 D dA 145 [(0, .ref b), (1, .ref (N0 + 0)), (3, .long x3), (5, .int x5), (7, .int x7), (8, .long x8), (10, .int x10)] [] (J_L_law_145 k62 Ls xs x3 x5 x7 x8 x10) := by
  unfold J_L_law_145
  refine ls_iload 3 hC dL_law_145 rfl rfl ?_
  refine ls_iconst (v := (4 : Int32)) hC dL_law_147 (by decide) rfl ?_
  refine ls_irem hC dL_law_148 rfl (fun v26 => ?_)
  refine ls_iconst (v := (2 : Int32)) hC dL_law_149 (by decide) rfl ?_
  refine ls_icmp_ne (tgt := 162) hC dL_law_150 rfl rfl ?_ ?_
  · refine ls_sub [0, 1, 2, 3, 4, 5, 6] rfl ?_
    exact sJ_L_law_162 hC hX x3 x5 x7 x8 x10 _ hk62
  · refine ls_aload_n 1 hC dL_law_153 rfl rfl rfl ?_
    refine ls_iload 4 hC dL_law_154 rfl rfl ?_
    refine ls_callSi (st := []) [.ref (N0 + 0), .int x7] (c_L_would l N0 D dA 0 x7) wc_L_112 ⟨by decide, by decide⟩ rfl (Nat.le_of_ble_eq_true rfl) hC dL_law_156 rfl (fun v27 => ?_)
    refine ls_if_eq (tgt := 166) hC dL_law_159 rfl rfl ?_ ?_
    · refine ls_sub [0, 1, 2, 3, 4, 5, 6] rfl ?_
      exact sJ_L_law_166 hC hX x3 x5 x7 x8 x10 _ hk62
    · refine ls_sub [0, 1, 2, 3, 4, 5, 6] rfl ?_
      exact sJ_L_law_162 hC hX x3 x5 x7 x8 x10 _ hk62

def J_L_law_92 (k62 : Int32 → Int64 → Int32 → mv_M Int32) (Ls : Nat) (xs : Nat → Int32) (x3 : Int64) (x5 : Int32) (s0 : Int32) : mv_M Int32 :=
  mv_bd (mv_lot Ls xs (((2 : Int32) * x5) + (1 : Int32))) fun v28 =>
  mv_bd (F_L_look 0) fun v29 =>
  mv_bd (mv_rc 6 7 (some 0)) fun i31 => mv_bd (F_X6_count i31 (16 : Int32)) fun v30 =>
  mv_bd (F_L_acts 0 s0 v28) fun v32 =>
  if v32 = 0 then
    J_L_law_166 k62 Ls xs x3 x5 v28 v29 v30
  else
    mv_bd (mv_rm x5 (3 : Int32)) fun v33 =>
    if 0 < v33 then
      J_L_law_145 k62 Ls xs x3 x5 v28 v29 v30
    else
      mv_bd (F_L_holds 0) fun v34 =>
      if v34 = 0 then
        J_L_law_166 k62 Ls xs x3 x5 v28 v29 v30
      else
        J_L_law_145 k62 Ls xs x3 x5 v28 v29 v30

set_option maxHeartbeats 4000000 in
set_option maxRecDepth 100000 in
theorem sJ_L_law_92 {p : Program} {l : Launch} {e : Env} {s : State} {m : MethodId} {b : Addr} {below : List Frame} {meth : Method} {c : Code} {N0 : Nat} {D : va_G} {dA : Nat → ClassId} {Ls : Nat} {xs : Nat → Int32} (hC : mv_Lx p s m b meth c N0 D dA) (hX : mv_Lsc s b N0 Ls xs) (x3 : Int64) (x5 : Int32) (s0 : Int32) (k62 : Int32 → Int64 → Int32 → mv_M Int32) (hk62 : ∀ (y2 : Int32) (y3 : Int64) (y5 : Int32), mv_LS p l e s m b below meth c N0 D dA 62 [(0, .ref b), (1, .ref (N0 + 0)), (2, .int y2), (3, .long y3), (5, .int y5)] [] (k62 y2 y3 y5)) : mv_LS p l e s m b below meth c N0 D dA 92 [(0, .ref b), (1, .ref (N0 + 0)), (3, .long x3), (5, .int x5)] [.int s0] (J_L_law_92 k62 Ls xs x3 x5 s0) := by
  unfold J_L_law_92
  refine ls_istore hC dL_law_92 (by decide) rfl rfl ?_
  refine ls_aload_n 1 hC dL_law_94 rfl rfl rfl ?_
  refine ls_iconst (v := (2 : Int32)) hC dL_law_95 (by decide) rfl ?_
  refine ls_iload 4 hC dL_law_96 rfl rfl ?_
  refine ls_imul hC dL_law_98 rfl ?_
  refine ls_iconst (v := (1 : Int32)) hC dL_law_99 (by decide) rfl ?_
  refine ls_iadd hC dL_law_100 rfl ?_
  refine ls_lot hC hX dL_law_101 (Nat.le_of_ble_eq_true rfl) rfl (fun v28 => ?_)
  refine ls_istore hC dL_law_104 (by decide) rfl rfl ?_
  refine ls_aload_n 3 hC dL_law_106 rfl rfl rfl ?_
  refine ls_callSj (st := []) [.ref (N0 + 0)] (c_L_look l N0 D dA 0) wc_L_69 ⟨by decide, by decide⟩ rfl (Nat.le_of_ble_eq_true rfl) hC dL_law_107 rfl (fun v29 => ?_)
  refine ls_lstore hC dL_law_110 (by decide) rfl rfl ?_
  refine ls_aload_n 4 hC dL_law_112 rfl rfl rfl ?_
  refine ls_bipush (v := (16 : Int32)) hC dL_law_113 (by decide) rfl ?_
  refine ls_callVi (st := []) [.int (16 : Int32)] (fun i31 => c_X6_count l N0 D dA i31 (16 : Int32)) (T := TX6) rfl (by decide) wc_L_13 ⟨by decide, by decide⟩ rfl (Nat.le_of_ble_eq_true rfl) hC dL_law_115 rfl (fun v30 => ?_)
  refine ls_istore hC dL_law_118 (by decide) rfl rfl ?_
  refine ls_aload_n 5 hC dL_law_120 rfl rfl rfl ?_
  refine ls_iload 3 hC dL_law_121 rfl rfl ?_
  refine ls_iload 2 hC dL_law_123 rfl rfl ?_
  refine ls_callSi (st := []) [.ref (N0 + 0), .int s0, .int v28] (c_L_acts l N0 D dA 0 s0 v28) wc_L_128 ⟨by decide, by decide⟩ rfl (Nat.le_of_ble_eq_true rfl) hC dL_law_125 rfl (fun v32 => ?_)
  refine ls_if_eq (tgt := 166) hC dL_law_128 rfl rfl ?_ ?_
  · refine ls_sub [4, 5, 6, 7, 2, 1, 0] rfl ?_
    exact sJ_L_law_166 hC hX x3 x5 v28 v29 v30 _ hk62
  · refine ls_iload 7 hC dL_law_131 rfl rfl ?_
    refine ls_iconst (v := (3 : Int32)) hC dL_law_133 (by decide) rfl ?_
    refine ls_irem hC dL_law_134 rfl (fun v33 => ?_)
    refine ls_if_gt (tgt := 145) hC dL_law_135 rfl rfl ?_ ?_
    · refine ls_sub [4, 5, 6, 7, 2, 1, 0] rfl ?_
      exact sJ_L_law_145 hC hX x3 x5 v28 v29 v30 _ hk62
    · refine ls_aload_n 5 hC dL_law_138 rfl rfl rfl ?_
      refine ls_callSi (st := []) [.ref (N0 + 0)] (c_L_holds l N0 D dA 0) wc_L_108 ⟨by decide, by decide⟩ rfl (Nat.le_of_ble_eq_true rfl) hC dL_law_139 rfl (fun v34 => ?_)
      refine ls_if_eq (tgt := 166) hC dL_law_142 rfl rfl ?_ ?_
      · refine ls_sub [4, 5, 6, 7, 2, 1, 0] rfl ?_
        exact sJ_L_law_166 hC hX x3 x5 v28 v29 v30 _ hk62
      · refine ls_sub [4, 5, 6, 7, 2, 1, 0] rfl ?_
        exact sJ_L_law_145 hC hX x3 x5 v28 v29 v30 _ hk62

def J_L_law_408 (Ls : Nat) (xs : Nat → Int32) (s0 : Int32) : mv_M Int32 :=
  mv_rz s0

set_option maxHeartbeats 4000000 in
set_option maxRecDepth 100000 in
theorem sJ_L_law_408 {p : Program} {l : Launch} {e : Env} {s : State} {m : MethodId} {b : Addr} {below : List Frame} {meth : Method} {c : Code} {N0 : Nat} {D : va_G} {dA : Nat → ClassId} {Ls : Nat} {xs : Nat → Int32} (hC : mv_Lx p s m b meth c N0 D dA) (hX : mv_Lsc s b N0 Ls xs) (s0 : Int32) : mv_LS p l e s m b below meth c N0 D dA 408 [(0, .ref b), (1, .ref (N0 + 0))] [.int s0] (J_L_law_408 Ls xs s0) := by
  unfold J_L_law_408
  exact ls_zret hC hX dL_law_408

def J_L_law_407 (Ls : Nat) (xs : Nat → Int32) : mv_M Int32 :=
  J_L_law_408 Ls xs (0 : Int32)

set_option maxHeartbeats 4000000 in
set_option maxRecDepth 100000 in
theorem sJ_L_law_407 {p : Program} {l : Launch} {e : Env} {s : State} {m : MethodId} {b : Addr} {below : List Frame} {meth : Method} {c : Code} {N0 : Nat} {D : va_G} {dA : Nat → ClassId} {Ls : Nat} {xs : Nat → Int32} (hC : mv_Lx p s m b meth c N0 D dA) (hX : mv_Lsc s b N0 Ls xs) : mv_LS p l e s m b below meth c N0 D dA 407 [(0, .ref b), (1, .ref (N0 + 0))] [] (J_L_law_407 Ls xs) := by
  unfold J_L_law_407
  refine ls_iconst (v := (0 : Int32)) hC dL_law_407 (by decide) rfl ?_
  refine ls_sub [0, 1] rfl ?_
  exact sJ_L_law_408 hC hX (0 : Int32)

def J_L_law_392 (Ls : Nat) (xs : Nat → Int32) (x2 : Int32) : mv_M Int32 :=
  if x2 = 0 then
    J_L_law_407 Ls xs
  else
    mv_bd (F_L_holds 0) fun v35 =>
    if v35 = 0 then
      J_L_law_407 Ls xs
    else
      J_L_law_408 Ls xs (1 : Int32)

set_option maxHeartbeats 4000000 in
set_option maxRecDepth 100000 in
theorem sJ_L_law_392 {p : Program} {l : Launch} {e : Env} {s : State} {m : MethodId} {b : Addr} {below : List Frame} {meth : Method} {c : Code} {N0 : Nat} {D : va_G} {dA : Nat → ClassId} {Ls : Nat} {xs : Nat → Int32} (hC : mv_Lx p s m b meth c N0 D dA) (hX : mv_Lsc s b N0 Ls xs) (x2 : Int32) : mv_LS p l e s m b below meth c N0 D dA 392 [(0, .ref b), (1, .ref (N0 + 0)), (2, .int x2)] [] (J_L_law_392 Ls xs x2) := by
  unfold J_L_law_392
  refine ls_iload_n 2 hC dL_law_392 rfl rfl rfl ?_
  refine ls_if_eq (tgt := 407) hC dL_law_393 rfl rfl ?_ ?_
  · refine ls_sub [0, 1] rfl ?_
    exact sJ_L_law_407 hC hX
  · refine ls_aload_n 1 hC dL_law_396 rfl rfl rfl ?_
    refine ls_callSi (st := []) [.ref (N0 + 0)] (c_L_holds l N0 D dA 0) wc_L_108 ⟨by decide, by decide⟩ rfl (Nat.le_of_ble_eq_true rfl) hC dL_law_397 rfl (fun v35 => ?_)
    refine ls_if_eq (tgt := 407) hC dL_law_400 rfl rfl ?_ ?_
    · refine ls_sub [0, 1] rfl ?_
      exact sJ_L_law_407 hC hX
    · refine ls_iconst (v := (1 : Int32)) hC dL_law_403 (by decide) rfl ?_
      refine ls_goto (q := 408) hC dL_law_404 rfl ?_
      refine ls_sub [0, 1] rfl ?_
      exact sJ_L_law_408 hC hX (1 : Int32)

def Lp_L_law_62 (Ls : Nat) (xs : Nat → Int32) : Nat → Int32 → Int64 → Int32 → mv_M Int32
  | 0, _, _, _ => mv_fl
  | n + 1, x2, x3, x5 =>
    if (54 : Int32) ≤ x5 then
      J_L_law_392 Ls xs x2
    else
      if x2 = 0 then
        J_L_law_392 Ls xs x2
      else
        if (2 : Int32) ≤ x5 then
          mv_bd (mv_lot Ls xs ((2 : Int32) * x5)) fun v36 =>
          J_L_law_92 (Lp_L_law_62 Ls xs n) Ls xs x3 x5 v36
        else
          J_L_law_92 (Lp_L_law_62 Ls xs n) Ls xs x3 x5 (29 : Int32)

set_option maxHeartbeats 4000000 in
set_option maxRecDepth 100000 in
theorem sLp_L_law_62 {p : Program} {l : Launch} {e : Env} {s : State} {m : MethodId} {b : Addr} {below : List Frame} {meth : Method} {c : Code} {N0 : Nat} {D : va_G} {dA : Nat → ClassId} {Ls : Nat} {xs : Nat → Int32} (hC : mv_Lx p s m b meth c N0 D dA) (hX : mv_Lsc s b N0 Ls xs) : ∀ (n : Nat) (x2 : Int32) (x3 : Int64) (x5 : Int32), mv_LS p l e s m b below meth c N0 D dA 62 [(0, .ref b), (1, .ref (N0 + 0)), (2, .int x2), (3, .long x3), (5, .int x5)] [] (Lp_L_law_62 Ls xs n x2 x3 x5) := by
  intro n
  induction n with
  | zero => intro x2 x3 x5; rw [Lp_L_law_62]; exact ls_fl
  | succ n ih =>
    intro x2 x3 x5
    rw [Lp_L_law_62]
    refine ls_iload 4 hC dL_law_62 rfl rfl ?_
    refine ls_bipush (v := (54 : Int32)) hC dL_law_64 (by decide) rfl ?_
    refine ls_icmp_ge (tgt := 392) hC dL_law_66 rfl rfl ?_ ?_
    · refine ls_sub [0, 1, 2] rfl ?_
      exact sJ_L_law_392 hC hX x2
    · refine ls_iload_n 2 hC dL_law_69 rfl rfl rfl ?_
      refine ls_if_eq (tgt := 392) hC dL_law_70 rfl rfl ?_ ?_
      · refine ls_sub [0, 1, 2] rfl ?_
        exact sJ_L_law_392 hC hX x2
      · refine ls_iload 4 hC dL_law_73 rfl rfl ?_
        refine ls_iconst (v := (2 : Int32)) hC dL_law_75 (by decide) rfl ?_
        refine ls_icmp_ge (tgt := 84) hC dL_law_76 rfl rfl ?_ ?_
        · refine ls_aload_n 0 hC dL_law_84 rfl rfl rfl ?_
          refine ls_iconst (v := (2 : Int32)) hC dL_law_85 (by decide) rfl ?_
          refine ls_iload 4 hC dL_law_86 rfl rfl ?_
          refine ls_imul hC dL_law_88 rfl ?_
          refine ls_lot hC hX dL_law_89 (Nat.le_of_ble_eq_true rfl) rfl (fun v36 => ?_)
          refine ls_sub [0, 1, 3, 4] rfl ?_
          exact sJ_L_law_92 hC hX x3 x5 v36 _ ih
        · refine ls_bipush (v := (29 : Int32)) hC dL_law_79 (by decide) rfl ?_
          refine ls_goto (q := 92) hC dL_law_81 rfl ?_
          refine ls_sub [0, 1, 3, 4] rfl ?_
          exact sJ_L_law_92 hC hX x3 x5 (29 : Int32) _ ih

def J_L_law_53 (Ls : Nat) (xs : Nat → Int32) (s0 : Int32) : mv_M Int32 :=
  mv_bd (F_L_look 0) fun v37 =>
  Lp_L_law_62 Ls xs mv_FU s0 v37 (0 : Int32)

set_option maxHeartbeats 4000000 in
set_option maxRecDepth 100000 in
theorem sJ_L_law_53 {p : Program} {l : Launch} {e : Env} {s : State} {m : MethodId} {b : Addr} {below : List Frame} {meth : Method} {c : Code} {N0 : Nat} {D : va_G} {dA : Nat → ClassId} {Ls : Nat} {xs : Nat → Int32} (hC : mv_Lx p s m b meth c N0 D dA) (hX : mv_Lsc s b N0 Ls xs) (s0 : Int32) : mv_LS p l e s m b below meth c N0 D dA 53 [(0, .ref b), (1, .ref (N0 + 0))] [.int s0] (J_L_law_53 Ls xs s0) := by
  unfold J_L_law_53
  refine ls_istore_n hC dL_law_53 rfl (by decide) rfl rfl ?_
  refine ls_aload_n 2 hC dL_law_54 rfl rfl rfl ?_
  refine ls_callSj (st := []) [.ref (N0 + 0)] (c_L_look l N0 D dA 0) wc_L_69 ⟨by decide, by decide⟩ rfl (Nat.le_of_ble_eq_true rfl) hC dL_law_55 rfl (fun v37 => ?_)
  refine ls_lstore_n hC dL_law_58 rfl (by decide) rfl rfl ?_
  refine ls_iconst (v := (0 : Int32)) hC dL_law_59 (by decide) rfl ?_
  refine ls_istore hC dL_law_60 (by decide) rfl rfl ?_
  refine ls_sub [3, 4, 2, 1, 0] rfl ?_
  exact sLp_L_law_62 hC hX mv_FU s0 v37 (0 : Int32)

def J_L_law_52 (Ls : Nat) (xs : Nat → Int32) : mv_M Int32 :=
  J_L_law_53 Ls xs (0 : Int32)

set_option maxHeartbeats 4000000 in
set_option maxRecDepth 100000 in
theorem sJ_L_law_52 {p : Program} {l : Launch} {e : Env} {s : State} {m : MethodId} {b : Addr} {below : List Frame} {meth : Method} {c : Code} {N0 : Nat} {D : va_G} {dA : Nat → ClassId} {Ls : Nat} {xs : Nat → Int32} (hC : mv_Lx p s m b meth c N0 D dA) (hX : mv_Lsc s b N0 Ls xs) : mv_LS p l e s m b below meth c N0 D dA 52 [(0, .ref b), (1, .ref (N0 + 0))] [] (J_L_law_52 Ls xs) := by
  unfold J_L_law_52
  refine ls_iconst (v := (0 : Int32)) hC dL_law_52 (by decide) rfl ?_
  refine ls_sub [0, 1] rfl ?_
  exact sJ_L_law_53 hC hX (0 : Int32)

def F_L_law (Ls : Nat) (xs : Nat → Int32) : mv_M Int32 :=
  mv_bd (F_L_holds 0) fun v38 =>
  if v38 = 0 then
    J_L_law_52 Ls xs
  else
    mv_bd (F_L_would 0 (0 : Int32)) fun v39 =>
    if v39 = 0 then
      J_L_law_52 Ls xs
    else
      mv_bd (mv_rc 6 7 (some 0)) fun i41 => mv_bd (F_X6_undo i41 ) fun v40 =>
      if v40 = ((-2) : Int32) then
        mv_bd (mv_rc 6 7 (some 0)) fun i43 => mv_bd (F_X6_restore i43 ) fun v42 =>
        if v42 = ((-2) : Int32) then
          mv_bd (mv_rc 6 7 (some 0)) fun i45 => mv_bd (F_X6_save i45 ) fun v44 =>
          if v44 = 0 then
            J_L_law_53 Ls xs (1 : Int32)
          else
            J_L_law_52 Ls xs
        else
          J_L_law_52 Ls xs
      else
        J_L_law_52 Ls xs

set_option maxHeartbeats 4000000 in
set_option maxRecDepth 100000 in
theorem c_L_law {p : Program} {l : Launch} {e : Env} {s : State} {m : MethodId} {b : Addr} {below : List Frame} {meth : Method} {c : Code} {N0 : Nat} {D : va_G} {dA : Nat → ClassId} {Ls : Nat} {xs : Nat → Int32} (hC : mv_Lx p s m b meth c N0 D dA) (hX : mv_Lsc s b N0 Ls xs) : mv_LS p l e s m b below meth c N0 D dA 8 [(0, .ref b), (1, .ref (N0 + 0))] [] (F_L_law Ls xs) := by
  unfold F_L_law
  refine ls_aload_n 1 hC dL_law_8 rfl rfl rfl ?_
  refine ls_callSi (st := []) [.ref (N0 + 0)] (c_L_holds l N0 D dA 0) wc_L_108 ⟨by decide, by decide⟩ rfl (Nat.le_of_ble_eq_true rfl) hC dL_law_9 rfl (fun v38 => ?_)
  refine ls_if_eq (tgt := 52) hC dL_law_12 rfl rfl ?_ ?_
  · refine ls_sub [0, 1] rfl ?_
    exact sJ_L_law_52 hC hX
  · refine ls_aload_n 1 hC dL_law_15 rfl rfl rfl ?_
    refine ls_iconst (v := (0 : Int32)) hC dL_law_16 (by decide) rfl ?_
    refine ls_callSi (st := []) [.ref (N0 + 0), .int (0 : Int32)] (c_L_would l N0 D dA 0 (0 : Int32)) wc_L_112 ⟨by decide, by decide⟩ rfl (Nat.le_of_ble_eq_true rfl) hC dL_law_17 rfl (fun v39 => ?_)
    refine ls_if_eq (tgt := 52) hC dL_law_20 rfl rfl ?_ ?_
    · refine ls_sub [0, 1] rfl ?_
      exact sJ_L_law_52 hC hX
    · refine ls_aload_n 1 hC dL_law_23 rfl rfl rfl ?_
      refine ls_callVi (st := []) [] (fun i41 => c_X6_undo l N0 D dA i41 ) (T := TX6) rfl (by decide) wc_L_115 ⟨by decide, by decide⟩ rfl (Nat.le_of_ble_eq_true rfl) hC dL_law_24 rfl (fun v40 => ?_)
      refine ls_bipush (v := ((-2) : Int32)) hC dL_law_27 (by decide) rfl ?_
      refine ls_icmp_ne (tgt := 52) hC dL_law_29 rfl rfl ?_ ?_
      · refine ls_sub [0, 1] rfl ?_
        exact sJ_L_law_52 hC hX
      · refine ls_aload_n 1 hC dL_law_32 rfl rfl rfl ?_
        refine ls_callVi (st := []) [] (fun i43 => c_X6_restore l N0 D dA i43 ) (T := TX6) rfl (by decide) wc_L_118 ⟨by decide, by decide⟩ rfl (Nat.le_of_ble_eq_true rfl) hC dL_law_33 rfl (fun v42 => ?_)
        refine ls_bipush (v := ((-2) : Int32)) hC dL_law_36 (by decide) rfl ?_
        refine ls_icmp_ne (tgt := 52) hC dL_law_38 rfl rfl ?_ ?_
        · refine ls_sub [0, 1] rfl ?_
          exact sJ_L_law_52 hC hX
        · refine ls_aload_n 1 hC dL_law_41 rfl rfl rfl ?_
          refine ls_callVi (st := []) [] (fun i45 => c_X6_save l N0 D dA i45 ) (T := TX6) rfl (by decide) wc_L_121 ⟨by decide, by decide⟩ rfl (Nat.le_of_ble_eq_true rfl) hC dL_law_42 rfl (fun v44 => ?_)
          refine ls_if_ne (tgt := 52) hC dL_law_45 rfl rfl ?_ ?_
          · refine ls_sub [0, 1] rfl ?_
            exact sJ_L_law_52 hC hX
          · refine ls_iconst (v := (1 : Int32)) hC dL_law_48 (by decide) rfl ?_
            refine ls_goto (q := 53) hC dL_law_49 rfl ?_
            refine ls_sub [0, 1] rfl ?_
            exact sJ_L_law_53 hC hX (1 : Int32)

