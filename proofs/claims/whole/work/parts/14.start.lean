def mv_h0 : mv_Hp := ([], 0, fun _ _ => 0, fun _ _ => none)
def mv_al (c n : Nat) (h : mv_Hp) : mv_Hp := (h.1 ++ [(c, n)], h.2.1 + n, mv_u1 h.2.2.1 h.1.length 0, mv_u1 h.2.2.2 h.1.length none)
def mv_Ini (Inv : Nat → mv_Hp → Prop) : Prop := ∃ (h1 h2 : mv_Hp), F_X6_init 0 (mv_al 6 7 mv_h0) = some ((), h1) ∧ h1.1.length = 147 ∧ h1.2.1 ≤ 8000 ∧ F_X7_init 147 (mv_al 7 12 h1) = some ((), h2) ∧ Inv 0 h2
theorem mw_cl6 : Cond.classLink RL 7 RX6 ∈ mv_wA ∧ Cond.instantiable RX6 7 ∈ mv_wA ∧ Cond.initialized RX6 ∈ mv_wA := ⟨mv_wA_of (mv_t1 (List.mem_of_getElem? (i := 11) rfl)) rfl, mv_wA_of (mv_t1 (List.mem_of_getElem? (i := 12) rfl)) rfl, mv_wA_of (mv_t1 (List.mem_of_getElem? (i := 1) rfl)) rfl⟩
theorem mw_cl7 : Cond.classLink RL 10 RX7 ∈ mv_wA ∧ Cond.instantiable RX7 12 ∈ mv_wA ∧ Cond.initialized RX7 ∈ mv_wA := ⟨mv_wA_of (mv_t3 (List.mem_of_getElem? (i := 90) rfl)) rfl, mv_wA_of (mv_t3 (List.mem_of_getElem? (i := 91) rfl)) rfl, mv_wA_of (mv_t1 (List.mem_of_getElem? (i := 8) rfl)) rfl⟩
theorem wi_X0 : Cond.instantiable RX0 8 ∈ mv_wA := mv_wA_of (mv_t1 (List.mem_of_getElem? (i := 65) rfl)) rfl
theorem wi_X1 : Cond.instantiable RX1 6 ∈ mv_wA := mv_wA_of (mv_t1 (List.mem_of_getElem? (i := 29) rfl)) rfl
theorem wi_X2 : Cond.instantiable RX2 4 ∈ mv_wA := mv_wA_of (mv_t1 (List.mem_of_getElem? (i := 193) rfl)) rfl
theorem wi_X3 : Cond.instantiable RX3 2 ∈ mv_wA := mv_wA_of (mv_t1 (List.mem_of_getElem? (i := 162) rfl)) rfl
theorem wi_X4 : Cond.instantiable RX4 2 ∈ mv_wA := mv_wA_of (mv_t1 (List.mem_of_getElem? (i := 179) rfl)) rfl
theorem wi_X5 : Cond.instantiable RX5 12 ∈ mv_wA := mv_wA_of (mv_t1 (List.mem_of_getElem? (i := 20) rfl)) rfl
theorem wi_X6 : Cond.instantiable RX6 7 ∈ mv_wA := mv_wA_of (mv_t1 (List.mem_of_getElem? (i := 12) rfl)) rfl
theorem wi_X7 : Cond.instantiable RX7 12 ∈ mv_wA := mv_wA_of (mv_t3 (List.mem_of_getElem? (i := 91) rfl)) rfl
theorem mv_nest_in : ∀ w ∈ mv_nest, w ∈ lw_tbl := List.forall_mem_cons.mpr ⟨mv_t1 (List.mem_of_getElem? (i := 30) rfl), List.forall_mem_cons.mpr ⟨mv_t1 (List.mem_of_getElem? (i := 35) rfl), List.forall_mem_cons.mpr ⟨mv_t1 (List.mem_of_getElem? (i := 37) rfl), List.forall_mem_cons.mpr ⟨mv_t1 (List.mem_of_getElem? (i := 38) rfl), List.forall_mem_cons.mpr ⟨mv_t1 (List.mem_of_getElem? (i := 40) rfl), List.forall_mem_cons.mpr ⟨mv_t1 (List.mem_of_getElem? (i := 41) rfl), List.forall_mem_cons.mpr ⟨mv_t1 (List.mem_of_getElem? (i := 43) rfl), List.forall_mem_cons.mpr ⟨mv_t1 (List.mem_of_getElem? (i := 44) rfl), List.forall_mem_cons.mpr ⟨mv_t1 (List.mem_of_getElem? (i := 46) rfl), List.forall_mem_cons.mpr ⟨mv_t1 (List.mem_of_getElem? (i := 47) rfl), List.forall_mem_cons.mpr ⟨mv_t1 (List.mem_of_getElem? (i := 49) rfl), List.forall_mem_cons.mpr ⟨mv_t1 (List.mem_of_getElem? (i := 50) rfl), List.forall_mem_cons.mpr ⟨mv_t1 (List.mem_of_getElem? (i := 66) rfl), List.forall_mem_cons.mpr ⟨mv_t1 (List.mem_of_getElem? (i := 71) rfl), List.forall_mem_cons.mpr ⟨mv_t1 (List.mem_of_getElem? (i := 72) rfl), List.forall_mem_cons.mpr ⟨mv_t1 (List.mem_of_getElem? (i := 73) rfl), List.forall_mem_cons.mpr ⟨mv_t1 (List.mem_of_getElem? (i := 75) rfl), List.forall_mem_cons.mpr ⟨mv_t1 (List.mem_of_getElem? (i := 76) rfl), List.forall_mem_cons.mpr ⟨mv_t1 (List.mem_of_getElem? (i := 77) rfl), List.forall_mem_cons.mpr ⟨mv_t1 (List.mem_of_getElem? (i := 79) rfl), List.forall_mem_cons.mpr ⟨mv_t1 (List.mem_of_getElem? (i := 80) rfl), List.forall_mem_cons.mpr ⟨mv_t1 (List.mem_of_getElem? (i := 81) rfl), List.forall_mem_cons.mpr ⟨mv_t1 (List.mem_of_getElem? (i := 83) rfl), List.forall_mem_cons.mpr ⟨mv_t1 (List.mem_of_getElem? (i := 84) rfl), List.forall_mem_cons.mpr ⟨mv_t1 (List.mem_of_getElem? (i := 85) rfl), List.forall_mem_cons.mpr ⟨mv_t1 (List.mem_of_getElem? (i := 87) rfl), List.forall_mem_cons.mpr ⟨mv_t1 (List.mem_of_getElem? (i := 89) rfl), List.forall_mem_cons.mpr ⟨mv_t1 (List.mem_of_getElem? (i := 90) rfl), List.forall_mem_cons.mpr ⟨mv_t1 (List.mem_of_getElem? (i := 92) rfl), List.forall_mem_cons.mpr ⟨mv_t1 (List.mem_of_getElem? (i := 93) rfl), List.forall_mem_cons.mpr ⟨mv_t1 (List.mem_of_getElem? (i := 95) rfl), List.forall_mem_cons.mpr ⟨mv_t1 (List.mem_of_getElem? (i := 117) rfl), List.forall_mem_cons.mpr ⟨mv_t1 (List.mem_of_getElem? (i := 119) rfl), List.forall_mem_cons.mpr ⟨mv_t1 (List.mem_of_getElem? (i := 120) rfl), List.forall_mem_cons.mpr ⟨mv_t1 (List.mem_of_getElem? (i := 122) rfl), List.forall_mem_cons.mpr ⟨mv_t1 (List.mem_of_getElem? (i := 123) rfl), List.forall_mem_cons.mpr ⟨mv_t1 (List.mem_of_getElem? (i := 125) rfl), List.forall_mem_cons.mpr ⟨mv_t1 (List.mem_of_getElem? (i := 127) rfl), List.forall_mem_cons.mpr ⟨mv_t1 (List.mem_of_getElem? (i := 129) rfl), List.forall_mem_cons.mpr ⟨mv_t1 (List.mem_of_getElem? (i := 131) rfl), List.forall_mem_cons.mpr ⟨mv_t1 (List.mem_of_getElem? (i := 133) rfl), List.forall_mem_cons.mpr ⟨mv_t1 (List.mem_of_getElem? (i := 135) rfl), List.forall_mem_cons.mpr ⟨mv_t1 (List.mem_of_getElem? (i := 172) rfl), List.forall_mem_cons.mpr ⟨mv_t1 (List.mem_of_getElem? (i := 180) rfl), List.forall_mem_cons.mpr ⟨mv_t1 (List.mem_of_getElem? (i := 186) rfl), List.forall_mem_cons.mpr ⟨mv_t1 (List.mem_of_getElem? (i := 194) rfl), List.forall_mem_cons.mpr ⟨mv_t1 (List.mem_of_getElem? (i := 201) rfl), List.forall_mem_cons.mpr ⟨mv_t1 (List.mem_of_getElem? (i := 203) rfl), fun _ h => absurd h List.not_mem_nil⟩⟩⟩⟩⟩⟩⟩⟩⟩⟩⟩⟩⟩⟩⟩⟩⟩⟩⟩⟩⟩⟩⟩⟩⟩⟩⟩⟩⟩⟩⟩⟩⟩⟩⟩⟩⟩⟩⟩⟩⟩⟩⟩⟩⟩⟩⟩⟩
theorem mv_isN_of {w : Cond} (hw : mv_isN w = true) {A : Array Value} {U : State} (h : w.before A U = true) : va_Nw w U := by
  cases w <;> first | exact va_Nw.of rfl h | (cases hw; done)
theorem df_X6 : ∀ k, k < 7 → defaultValue (tyX6 k) = if mv_rs 6 k = true then .null else .int 0 := by decide +kernel
theorem df_X7 : ∀ k, k < 12 → defaultValue (tyX7 k) = if mv_rs 7 k = true then .null else .int 0 := by decide +kernel
theorem nm_X6_init : mv_nm yX6_init 0 := ⟨by decide +kernel, by decide +kernel, by decide +kernel⟩
theorem wy_X6_init : Cond.instanceMethod yX6_init ∈ mv_wA ∧ Cond.initialized yX6_init.cls ∈ mv_wA ∧ Cond.code yX6_init cX6_init 1 none ∈ mv_wA ∧ yX6_init.name = "<init>" ∧ mv_nm yX6_init 0 := ⟨mv_wA_of (mv_t1 (List.mem_of_getElem? (i := 14) rfl)) rfl, mv_wA_of (mv_t1 (List.mem_of_getElem? (i := 1) rfl)) rfl, mv_wA_of (mv_t1 (List.mem_of_getElem? (i := 15) rfl)) rfl, rfl, nm_X6_init⟩
theorem wc_L_9 : mv_wI RL 9 yX6_init cX6_init 1 0 := ⟨Or.inl (mv_wA_of (mv_t1 (List.mem_of_getElem? (i := 13) rfl)) rfl), wy_X6_init⟩
theorem nm_X7_init : mv_nm yX7_init 0 := ⟨by decide +kernel, by decide +kernel, by decide +kernel⟩
theorem wy_X7_init : Cond.instanceMethod yX7_init ∈ mv_wA ∧ Cond.initialized yX7_init.cls ∈ mv_wA ∧ Cond.code yX7_init cX7_init 1 none ∈ mv_wA ∧ yX7_init.name = "<init>" ∧ mv_nm yX7_init 0 := ⟨mv_wA_of (mv_t3 (List.mem_of_getElem? (i := 93) rfl)) rfl, mv_wA_of (mv_t1 (List.mem_of_getElem? (i := 8) rfl)) rfl, mv_wA_of (mv_t3 (List.mem_of_getElem? (i := 94) rfl)) rfl, rfl, nm_X7_init⟩
theorem wc_L_12 : mv_wI RL 12 yX7_init cX7_init 1 0 := ⟨Or.inl (mv_wA_of (mv_t3 (List.mem_of_getElem? (i := 92) rfl)) rfl), wy_X7_init⟩
set_option maxHeartbeats 4000000 in
set_option maxRecDepth 100000 in
theorem mv_start (Inv : Nat → mv_Hp → Prop) (hAg : mv_Ag Inv) (hK : ∀ j h, Inv j h → h.1 = mv_K0 ∧ h.2.1 = mv_S0) (hSt : ∀ j h, Inv j h → Inv (j + 1) h) (hIni : mv_Ini Inv) {p : Program} {e : Env} {s : State} {m : MethodId} {below : List Frame} {meth : Method} {c : Code} (l : Launch) {b L : Nat} {xs : Nat → Int32} (hL : L ≤ 2048) (C0 : lw_At p s m meth c b L xs) : W p l e room_1 s m #[Value.ref b] below meth c s.heap [] 0 0 (lw_Z below #[Value.ref b] s) (entryFrame m ([Value.ref b] : List Value).toArray 8) := by
  obtain ⟨hx, hb, hr, hml, hown, hts0, hX, hbl, hlocks, hgv⟩ := C0
  have hts : ∀ w ∈ mv_wA, w.before #[Value.ref b] s = true := fun w hw => hts0 w (List.mem_filter.mp hw).1
  obtain ⟨c0, i0, n0⟩ := u_known (C := RX0) (T := TX0) (N := 8) hts uw_X0 (hts _ wi_X0)
  obtain ⟨c1, i1, n1⟩ := u_known (C := RX1) (T := TX1) (N := 6) hts uw_X1 (hts _ wi_X1)
  obtain ⟨c2, i2, n2⟩ := u_known (C := RX2) (T := TX2) (N := 4) hts uw_X2 (hts _ wi_X2)
  obtain ⟨c3, i3, n3⟩ := u_known (C := RX3) (T := TX3) (N := 2) hts uw_X3 (hts _ wi_X3)
  obtain ⟨c4, i4, n4⟩ := u_known (C := RX4) (T := TX4) (N := 2) hts uw_X4 (hts _ wi_X4)
  obtain ⟨c5, i5, n5⟩ := u_known (C := RX5) (T := TX5) (N := 12) hts uw_X5 (hts _ wi_X5)
  obtain ⟨c6, i6, n6⟩ := u_known (C := RX6) (T := TX6) (N := 7) hts uw_X6 (hts _ wi_X6)
  obtain ⟨c7, i7, n7⟩ := u_known (C := RX7) (T := TX7) (N := 12) hts uw_X7 (hts _ wi_X7)
  obtain ⟨dC, dI, hKc⟩ : ∃ (dC : Nat → ClassId) (dI : Nat → Nat → Nat), ∀ (k : Nat) (q : vw_C), vwCl[k]? = some q → u_Kn s q.1 q.2.1 q.2.2 (dC k) (dI k) := by
    refine ⟨fun k => [c0, c1, c2, c3, c4, c5, c6, c7].getD k 0, fun k => [i0, i1, i2, i3, i4, i5, i6, i7].getD k (fun _ => 0), ?_⟩
    intro k q hq
    match k, hq with
    | 0, hq => cases hq; exact n0
    | 1, hq => cases hq; exact n1
    | 2, hq => cases hq; exact n2
    | 3, hq => cases hq; exact n3
    | 4, hq => cases hq; exact n4
    | 5, hq => cases hq; exact n5
    | 6, hq => cases hq; exact n6
    | 7, hq => cases hq; exact n7
    | k + 8, hq => simp [vwCl] at hq
  obtain ⟨a0, kA0, cm0, f0, g0, q0⟩ := Cond.arrayClass_spec (hts (.arrayClass .int) (mv_wA_of (mv_t1 (List.mem_of_getElem? (i := 64) rfl)) rfl))
  obtain ⟨cm1, a1, kA1, f1, -, g1, q1, r1⟩ := Cond.arrayOver_spec (hts0 (.arrayOver (.object RX5)) (mv_t1 (List.mem_of_getElem? (i := 168) rfl)))
  obtain ⟨cm2, a2, kA2, f2, -, g2, q2, r2⟩ := Cond.arrayOver_spec (hts0 (.arrayOver (.object RX1)) (mv_t1 (List.mem_of_getElem? (i := 26) rfl)))
  obtain ⟨cm3, a3, kA3, f3, -, g3, q3, r3⟩ := Cond.arrayOver_spec (hts0 (.arrayOver (.object RX0)) (mv_t1 (List.mem_of_getElem? (i := 28) rfl)))
  have hK2 : va_K (dC, dI) vwCl (mv_ty (fun k => [a0, a1, a2, a3].getD k 0)) s := by
    refine ⟨hKc, fun k q hq => ?_⟩
    match k, hq with
    | 0, hq => cases hq; exact ⟨fun n z => ⟨(fun k h => by cases h), kA0, g0, cm0, q0⟩, f0⟩
    | 1, hq => cases hq; exact ⟨fun n z => ⟨(fun k h => by cases h), kA1, g1, cm1, q1⟩, kA1, cm1, g1, q1, f1, r1⟩
    | 2, hq => cases hq; exact ⟨fun n z => ⟨(fun k h => by cases h), kA2, g2, cm2, q2⟩, kA2, cm2, g2, q2, f2, r2⟩
    | 3, hq => cases hq; exact ⟨fun n z => ⟨(fun k h => by cases h), kA3, g3, cm3, q3⟩, kA3, cm3, g3, q3, f3, r3⟩
    | k + 4, hq => simp [mv_ty] at hq
  have hNW : mv_NW s := ⟨fun w hw => mv_isN_of (List.all_eq_true.mp mv_nest_all w hw) (hts0 w (mv_nest_in w hw)), va_AO.of (hts0 (.arrayOver (.object RX5)) (mv_t1 (List.mem_of_getElem? (i := 168) rfl))), va_AO.of (hts0 (.arrayOver (.object RX1)) (mv_t1 (List.mem_of_getElem? (i := 26) rfl))), va_AO.of (hts0 (.arrayOver (.object RX0)) (mv_t1 (List.mem_of_getElem? (i := 28) rfl)))⟩
  have hC : mv_Lx p s m b meth c s.heap.size (dC, dI) (fun k => [a0, a1, a2, a3].getD k 0) := ⟨hx, hb, hml, hown, hts, hr, hlocks, (fun z => by cases z), hK2, hNW, rfl⟩
  have hXs : mv_Lsc s b s.heap.size L xs := ⟨hX, hbl, hbl, hL⟩
  obtain ⟨h1, h2, e1, l1, s1, e2, hI⟩ := hIni
  have key : mv_Lw p l e s m b below meth c s.heap.size (dC, dI) (fun k => [a0, a1, a2, a3].getD k 0) 0 [(0, .ref b)] [] mv_h0 := by
    refine ml_new hC (T := TX6) (ty := tyX6) rfl (by decide) uw_X6 tyX6_ok df_X6 mw_cl6 (by decide) dL_law_0 rfl ?_
    refine ml_dup hC dL_law_3 rfl rfl ?_
    refine ml_callI (st := [.ref (s.heap.size + 0)]) (i := 0) [] hC (c_X6_init l _ (dC, dI) _ 0) wc_L_9 ⟨by decide, by decide⟩ ⟨by omega, by omega⟩ rfl (mv_cs (Nat.le_of_ble_eq_true rfl) (List.forall_mem_cons.mpr ⟨rfl, fun _ h => absurd h List.not_mem_nil⟩)) dL_law_4 e1 rfl ?_
    refine ml_astore_n hC dL_law_7 rfl (by decide) rfl rfl ?_
    refine ml_new hC (T := TX7) (ty := tyX7) rfl (by decide) uw_X7 tyX7_ok df_X7 mw_cl7 ⟨by omega, by omega⟩ dL_law_8 rfl ?_
    rw [l1]
    refine ml_dup hC dL_law_11 rfl rfl ?_
    have z2 := hK _ _ hI
    refine ml_callI (st := [.ref (s.heap.size + 147)]) (i := 147) [] hC (c_X7_init l _ (dC, dI) _ 147) wc_L_12 ⟨by decide, by decide⟩ (by rw [z2.1, z2.2]; exact ⟨Nat.le_of_ble_eq_true rfl, Nat.le_of_ble_eq_true rfl⟩) rfl (mv_cs (Nat.le_of_ble_eq_true rfl) (List.forall_mem_cons.mpr ⟨rfl, fun _ h => absurd h List.not_mem_nil⟩)) dL_law_12 (by rw [← l1] at e2 ⊢; exact e2) rfl ?_
    refine ml_astore_n hC dL_law_15 rfl (by decide) rfl rfl ?_
    refine ml_iconst (v := nI (4 * 0)) hC dL_law_16 rfl rfl ?_
    refine ml_istore_n hC dL_law_17 rfl (by decide) rfl rfl ?_
    exact ml_sub [3, 2, 1, 0] rfl (mv_loop Inv hAg hK hSt hC hXs rfl 513 0 h2 (by omega) (by omega) hI)
  have hl := lv_entry ([.ref b]) (n := 8) (Nat.le_of_ble_eq_true rfl)
  rw [lg_entry_eq]
  exact key s.heap [] _ (fun k q h => by simp [mv_ws, mv_h0] at h) va_S.rf hl
