theorem mw_cl6 : Cond.classLink RL 14 RX6 ∈ mv_wA ∧ Cond.instantiable RX6 7 ∈ mv_wA ∧ Cond.initialized RX6 ∈ mv_wA := ⟨mv_wA_of (mv_t1 (List.mem_of_getElem? (i := 10) rfl)) rfl, mv_wA_of (mv_t1 (List.mem_of_getElem? (i := 11) rfl)) rfl, mv_wA_of (mv_t1 (List.mem_of_getElem? (i := 1) rfl)) rfl⟩
theorem wi_X0 : Cond.instantiable RX0 8 ∈ mv_wA := mv_wA_of (mv_t1 (List.mem_of_getElem? (i := 64) rfl)) rfl
theorem wi_X1 : Cond.instantiable RX1 6 ∈ mv_wA := mv_wA_of (mv_t1 (List.mem_of_getElem? (i := 28) rfl)) rfl
theorem wi_X2 : Cond.instantiable RX2 4 ∈ mv_wA := mv_wA_of (mv_t1 (List.mem_of_getElem? (i := 192) rfl)) rfl
theorem wi_X3 : Cond.instantiable RX3 2 ∈ mv_wA := mv_wA_of (mv_t1 (List.mem_of_getElem? (i := 161) rfl)) rfl
theorem wi_X4 : Cond.instantiable RX4 2 ∈ mv_wA := mv_wA_of (mv_t1 (List.mem_of_getElem? (i := 178) rfl)) rfl
theorem wi_X5 : Cond.instantiable RX5 12 ∈ mv_wA := mv_wA_of (mv_t1 (List.mem_of_getElem? (i := 19) rfl)) rfl
theorem wi_X6 : Cond.instantiable RX6 7 ∈ mv_wA := mv_wA_of (mv_t1 (List.mem_of_getElem? (i := 11) rfl)) rfl
theorem mv_nest_in : ∀ w ∈ mv_nest, w ∈ lw_tbl := List.forall_mem_cons.mpr ⟨mv_t1 (List.mem_of_getElem? (i := 29) rfl), List.forall_mem_cons.mpr ⟨mv_t1 (List.mem_of_getElem? (i := 34) rfl), List.forall_mem_cons.mpr ⟨mv_t1 (List.mem_of_getElem? (i := 36) rfl), List.forall_mem_cons.mpr ⟨mv_t1 (List.mem_of_getElem? (i := 37) rfl), List.forall_mem_cons.mpr ⟨mv_t1 (List.mem_of_getElem? (i := 39) rfl), List.forall_mem_cons.mpr ⟨mv_t1 (List.mem_of_getElem? (i := 40) rfl), List.forall_mem_cons.mpr ⟨mv_t1 (List.mem_of_getElem? (i := 42) rfl), List.forall_mem_cons.mpr ⟨mv_t1 (List.mem_of_getElem? (i := 43) rfl), List.forall_mem_cons.mpr ⟨mv_t1 (List.mem_of_getElem? (i := 45) rfl), List.forall_mem_cons.mpr ⟨mv_t1 (List.mem_of_getElem? (i := 46) rfl), List.forall_mem_cons.mpr ⟨mv_t1 (List.mem_of_getElem? (i := 48) rfl), List.forall_mem_cons.mpr ⟨mv_t1 (List.mem_of_getElem? (i := 49) rfl), List.forall_mem_cons.mpr ⟨mv_t1 (List.mem_of_getElem? (i := 65) rfl), List.forall_mem_cons.mpr ⟨mv_t1 (List.mem_of_getElem? (i := 70) rfl), List.forall_mem_cons.mpr ⟨mv_t1 (List.mem_of_getElem? (i := 71) rfl), List.forall_mem_cons.mpr ⟨mv_t1 (List.mem_of_getElem? (i := 72) rfl), List.forall_mem_cons.mpr ⟨mv_t1 (List.mem_of_getElem? (i := 74) rfl), List.forall_mem_cons.mpr ⟨mv_t1 (List.mem_of_getElem? (i := 75) rfl), List.forall_mem_cons.mpr ⟨mv_t1 (List.mem_of_getElem? (i := 76) rfl), List.forall_mem_cons.mpr ⟨mv_t1 (List.mem_of_getElem? (i := 78) rfl), List.forall_mem_cons.mpr ⟨mv_t1 (List.mem_of_getElem? (i := 79) rfl), List.forall_mem_cons.mpr ⟨mv_t1 (List.mem_of_getElem? (i := 80) rfl), List.forall_mem_cons.mpr ⟨mv_t1 (List.mem_of_getElem? (i := 82) rfl), List.forall_mem_cons.mpr ⟨mv_t1 (List.mem_of_getElem? (i := 83) rfl), List.forall_mem_cons.mpr ⟨mv_t1 (List.mem_of_getElem? (i := 84) rfl), List.forall_mem_cons.mpr ⟨mv_t1 (List.mem_of_getElem? (i := 86) rfl), List.forall_mem_cons.mpr ⟨mv_t1 (List.mem_of_getElem? (i := 88) rfl), List.forall_mem_cons.mpr ⟨mv_t1 (List.mem_of_getElem? (i := 89) rfl), List.forall_mem_cons.mpr ⟨mv_t1 (List.mem_of_getElem? (i := 91) rfl), List.forall_mem_cons.mpr ⟨mv_t1 (List.mem_of_getElem? (i := 92) rfl), List.forall_mem_cons.mpr ⟨mv_t1 (List.mem_of_getElem? (i := 94) rfl), List.forall_mem_cons.mpr ⟨mv_t1 (List.mem_of_getElem? (i := 116) rfl), List.forall_mem_cons.mpr ⟨mv_t1 (List.mem_of_getElem? (i := 118) rfl), List.forall_mem_cons.mpr ⟨mv_t1 (List.mem_of_getElem? (i := 119) rfl), List.forall_mem_cons.mpr ⟨mv_t1 (List.mem_of_getElem? (i := 121) rfl), List.forall_mem_cons.mpr ⟨mv_t1 (List.mem_of_getElem? (i := 122) rfl), List.forall_mem_cons.mpr ⟨mv_t1 (List.mem_of_getElem? (i := 124) rfl), List.forall_mem_cons.mpr ⟨mv_t1 (List.mem_of_getElem? (i := 126) rfl), List.forall_mem_cons.mpr ⟨mv_t1 (List.mem_of_getElem? (i := 128) rfl), List.forall_mem_cons.mpr ⟨mv_t1 (List.mem_of_getElem? (i := 130) rfl), List.forall_mem_cons.mpr ⟨mv_t1 (List.mem_of_getElem? (i := 132) rfl), List.forall_mem_cons.mpr ⟨mv_t1 (List.mem_of_getElem? (i := 134) rfl), List.forall_mem_cons.mpr ⟨mv_t1 (List.mem_of_getElem? (i := 171) rfl), List.forall_mem_cons.mpr ⟨mv_t1 (List.mem_of_getElem? (i := 179) rfl), List.forall_mem_cons.mpr ⟨mv_t1 (List.mem_of_getElem? (i := 185) rfl), List.forall_mem_cons.mpr ⟨mv_t1 (List.mem_of_getElem? (i := 193) rfl), List.forall_mem_cons.mpr ⟨mv_t1 (List.mem_of_getElem? (i := 200) rfl), List.forall_mem_cons.mpr ⟨mv_t1 (List.mem_of_getElem? (i := 202) rfl), fun _ h => absurd h List.not_mem_nil⟩⟩⟩⟩⟩⟩⟩⟩⟩⟩⟩⟩⟩⟩⟩⟩⟩⟩⟩⟩⟩⟩⟩⟩⟩⟩⟩⟩⟩⟩⟩⟩⟩⟩⟩⟩⟩⟩⟩⟩⟩⟩⟩⟩⟩⟩⟩⟩
theorem mv_isN_of {w : Cond} (hw : mv_isN w = true) {A : Array Value} {U : State} (h : w.before A U = true) : va_Nw w U := by
  cases w <;> first | exact va_Nw.of rfl h | (cases hw; done)
theorem df_X6 : ∀ k, k < 7 → defaultValue (tyX6 k) = if mv_rs 6 k = true then .null else .int 0 := by decide +kernel
theorem nm_X6_init : mv_nm yX6_init 0 := ⟨by decide +kernel, by decide +kernel, by decide +kernel⟩
theorem wy_X6_init : Cond.instanceMethod yX6_init ∈ mv_wA ∧ Cond.initialized yX6_init.cls ∈ mv_wA ∧ Cond.code yX6_init cX6_init 1 none ∈ mv_wA ∧ yX6_init.name = "<init>" ∧ mv_nm yX6_init 0 := ⟨mv_wA_of (mv_t1 (List.mem_of_getElem? (i := 13) rfl)) rfl, mv_wA_of (mv_t1 (List.mem_of_getElem? (i := 1) rfl)) rfl, mv_wA_of (mv_t1 (List.mem_of_getElem? (i := 14) rfl)) rfl, rfl, nm_X6_init⟩
theorem wc_L_107 : mv_wI RL 107 yX6_init cX6_init 1 0 := ⟨Or.inl (mv_wA_of (mv_t1 (List.mem_of_getElem? (i := 12) rfl)) rfl), wy_X6_init⟩
section MVT
variable {p : Program} {l : Launch} {e : Env} {s : State} {m : MethodId} {b : Addr} {below : List Frame} {meth : Method} {c : Code} {N0 : Nat} {D : va_G} {dA : Nat → ClassId} {pc q : Nat} {L : List (Nat × Value)} {st : List Value} {h : mv_Hp}
theorem ml_dup {va : Value} (hC : mv_Lx p s m b meth c N0 D dA) (hdg : decode code pc = .ok (.dup, 1)) (hva : va.category = 1) (hp : pc + 1 = q) (kk : mv_Lw p l e s m b below meth c N0 D dA q L (va :: va :: st) h) : mv_Lw p l e s m b below meth c N0 D dA pc L (va :: st) h := by
  subst hp
  exact fun H locs ls hP hS hl => lv_dup hC.1 hC.2.1 hdg hva (kk H locs ls hP hS hl)
theorem ml_astore_n {k : Fin 4} {i a : Nat} {L' : List (Nat × Value)} (hC : mv_Lx p s m b meth c N0 D dA) (hdg : decode code pc = .ok (.astore_n k, 1)) (hi : (k : Nat) = i) (hn : i < 13) (hL : (i, Value.ref a) :: L.filter (fun q => !(q.1 == i) && !(q.1 + 1 == i && q.2.category == 2)) = L') (hp : pc + 1 = q) (kk : mv_Lw p l e s m b below meth c N0 D dA q L' st h) : mv_Lw p l e s m b below meth c N0 D dA pc L (.ref a :: st) h := by
  subst hp
  exact fun H locs ls hP hS hl => lv_astore_n hC.1 hC.2.1 hdg hi hl hn hL (fun ls hl => kk H locs ls hP hS hl)
theorem ml_sub {L' : List (Nat × Value)} (ks : List Nat) (hL : lv_pick L ks = L') (kk : mv_Lw p l e s m b below meth c N0 D dA pc L' st h) : mv_Lw p l e s m b below meth c N0 D dA pc L st h := fun H locs ls hP hS hl => kk H locs ls hP hS (lv_sub hl ks hL)
theorem ml_callI {bb : Unit} {h1 : mv_Hp} {stk : List Value} {y : MethodName} {cb : ByteArray} {kL fr' lo' idx i : Nat} {gf : mv_M Unit} (As : List Value) (hC : mv_Lx p s m b meth c N0 D dA)
    (hM : mv_SimM l N0 D dA y cb kL none fr' lo' mv_rV (.ref (N0 + i) :: As) gf) (hw : mv_wI RL idx y cb kL As.length) (hR : fr' + 1 ≤ 11 ∧ 8 + (kL + 11) + lo' ≤ 440) (hRc : h1.1.length ≤ 1000 ∧ h1.2.1 ≤ 10000) (hst : stk = As.reverse ++ .ref (N0 + i) :: st) (hcat : (st.map fun v => v.category).sum ≤ 8) (hdg : decode code pc = .ok (.invokespecial idx, 3))
    (hg : gf h = some (bb, h1)) (hp : pc + 3 = q) (kk : mv_Lw p l e s m b below meth c N0 D dA q L st h1) : mv_Lw p l e s m b below meth c N0 D dA pc L stk h := by
  subst hp
  exact fun H locs ls hP hS hl => mv_wcallI As hC hM hw (by show _ ≤ 12 ∧ _ ≤ 512; omega) ⟨by show _ ≤ 600000; omega, by show _ ≤ 7302250; omega⟩ hst hcat hdg (Nat.zero_le _) (Nat.zero_le _) hP hS hl.1 hg (fun H1 locs1 hP1 hS1 => kk H1 locs1 ls hP1 hS1 hl)
theorem ml_new {ci n idx : Nat} {C : String} {T : u_T} {ty : Nat → FieldType} (hC : mv_Lx p s m b meth c N0 D dA) (hc : vwCl[ci]? = some (C, T, n)) (hci : ci < 8) (hin : ∀ w ∈ u_ws C T n, w ∈ mv_wA) (hty : ∀ k, k < n → parseFieldDescriptor (T k).2.2.1 = some (ty k)) (hdf : ∀ k, k < n → defaultValue (ty k) = if mv_rs ci k = true then .null else .int 0) (hw : Cond.classLink RL idx C ∈ mv_wA ∧ Cond.instantiable C n ∈ mv_wA ∧ Cond.initialized C ∈ mv_wA) (hRc : h.1.length + 1 ≤ 1000 ∧ h.2.1 + n ≤ 10000) (hdg : decode code pc = .ok (.new idx, 3)) (hp : pc + 3 = q)
    (kk : mv_Lw p l e s m b below meth c N0 D dA q L (.ref (N0 + h.1.length) :: st) (h.1 ++ [(ci, n)], h.2.1 + n, mv_u1 h.2.2.1 h.1.length 0, mv_u1 h.2.2.2 h.1.length none)) : mv_Lw p l e s m b below meth c N0 D dA pc L st h := by
  subst hp
  intro H locs ls hP hS hl
  have hz := hC.2.2.2.2.2.2.2.2.2.2
  refine va_new (D := D) hC.1 hC.2.1 hC.2.2.2.2.1 hin ty hty hC.2.2.2.1 (hC.2.2.2.2.1 _ hw.1) (hC.2.2.2.2.1 _ hw.2.1) (hC.2.2.2.2.1 _ hw.2.2) hC.2.2.2.2.2.2.2.2.1 hP (mv_ws_D N0 dA h) hS (fun q hq => by rw [hz] at hq; exact Nat.le_trans (Nat.le_add_right _ _) hq) hc (fs := mv_fs N0 (h.1 ++ [(ci, n)], h.2.1 + n, mv_u1 h.2.2.1 h.1.length 0, mv_u1 h.2.2.2 h.1.length none) h.1.length ci n) (fun k hk => ?_) (by show h.1.length - 0 + 1 ≤ 600000; omega) (by show h.2.1 - 0 + n ≤ 7302250; omega) hdg (fun a H1 hP1 hD1 hS1 => ?_)
  · rw [hdf k hk]
    simp only [vp_V, List.getD, mv_fs_get hk, Option.getD_some]
    by_cases hr : mv_rs ci k = true
    · simp [hr, mv_u1, mv_vr, va_rf]
    · simp [hr, mv_u1]
  · refine mv_bound (fun hb => ?_)
    have hlt := (hP1 h.1.length _ (by rw [List.getElem?_append_right (by rw [mv_ws_len]; exact Nat.le_refl _), mv_ws_len]; simp; rfl)).lt
    have ha : a = N0 + h.1.length := mv_fresh hD1 (B := N0 + h.1.length + 1) (by have h5 : a < H1.size := hlt; omega) rfl
    subst ha
    rw [mv_ws_new (mv_cE_o hci)] at hP1
    have e3 : h.1.length - 0 + 1 = (h.1 ++ [(ci, n)]).length - 0 := by simp
    have e4 : h.2.1 - 0 + n = (h.2.1 + n) - 0 := by omega
    rw [e3, e4]
    exact kk H1 locs ls hP1 hS1 hl
end MVT
set_option maxHeartbeats 4000000 in
set_option maxRecDepth 100000 in
theorem p_start {p : Program} {e : Env} {s : State} {m : MethodId} {below : List Frame} {meth : Method} {c : Code} (l : Launch) {b L : Nat} {xs : Nat → Int32} (C0 : lw_At p s m meth c b L xs) : W p l e room_1 s m #[Value.ref b] below meth c s.heap [] 0 0 (lw_Z below #[Value.ref b] s) (entryFrame m ([Value.ref b] : List Value).toArray 13) := by
  obtain ⟨hx, hb, hr, hml, hown, hts0, hX, hbl, hlocks, hgv⟩ := C0
  have hts : ∀ w ∈ mv_wA, w.before #[Value.ref b] s = true := fun w hw => hts0 w (List.mem_filter.mp hw).1
  obtain ⟨c0, i0, n0⟩ := u_known (C := RX0) (T := TX0) (N := 8) hts uw_X0 (hts _ wi_X0)
  obtain ⟨c1, i1, n1⟩ := u_known (C := RX1) (T := TX1) (N := 6) hts uw_X1 (hts _ wi_X1)
  obtain ⟨c2, i2, n2⟩ := u_known (C := RX2) (T := TX2) (N := 4) hts uw_X2 (hts _ wi_X2)
  obtain ⟨c3, i3, n3⟩ := u_known (C := RX3) (T := TX3) (N := 2) hts uw_X3 (hts _ wi_X3)
  obtain ⟨c4, i4, n4⟩ := u_known (C := RX4) (T := TX4) (N := 2) hts uw_X4 (hts _ wi_X4)
  obtain ⟨c5, i5, n5⟩ := u_known (C := RX5) (T := TX5) (N := 12) hts uw_X5 (hts _ wi_X5)
  obtain ⟨c6, i6, n6⟩ := u_known (C := RX6) (T := TX6) (N := 7) hts uw_X6 (hts _ wi_X6)
  obtain ⟨dC, dI, hKc⟩ : ∃ (dC : Nat → ClassId) (dI : Nat → Nat → Nat), ∀ (k : Nat) (q : vw_C), vwCl[k]? = some q → u_Kn s q.1 q.2.1 q.2.2 (dC k) (dI k) := by
    refine ⟨fun k => [c0, c1, c2, c3, c4, c5, c6].getD k 0, fun k => [i0, i1, i2, i3, i4, i5, i6].getD k (fun _ => 0), ?_⟩
    intro k q hq
    match k, hq with
    | 0, hq => cases hq; exact n0
    | 1, hq => cases hq; exact n1
    | 2, hq => cases hq; exact n2
    | 3, hq => cases hq; exact n3
    | 4, hq => cases hq; exact n4
    | 5, hq => cases hq; exact n5
    | 6, hq => cases hq; exact n6
    | k + 7, hq => simp [vwCl] at hq
  obtain ⟨a0, kA0, cm0, f0, g0, q0⟩ := Cond.arrayClass_spec (hts (.arrayClass .int) (mv_wA_of (mv_t1 (List.mem_of_getElem? (i := 63) rfl)) rfl))
  obtain ⟨cm1, a1, kA1, f1, -, g1, q1, r1⟩ := Cond.arrayOver_spec (hts0 (.arrayOver (.object RX5)) (mv_t1 (List.mem_of_getElem? (i := 167) rfl)))
  obtain ⟨cm2, a2, kA2, f2, -, g2, q2, r2⟩ := Cond.arrayOver_spec (hts0 (.arrayOver (.object RX1)) (mv_t1 (List.mem_of_getElem? (i := 25) rfl)))
  obtain ⟨cm3, a3, kA3, f3, -, g3, q3, r3⟩ := Cond.arrayOver_spec (hts0 (.arrayOver (.object RX0)) (mv_t1 (List.mem_of_getElem? (i := 27) rfl)))
  have hK2 : va_K (dC, dI) vwCl (mv_ty (fun k => [a0, a1, a2, a3].getD k 0)) s := by
    refine ⟨hKc, fun k q hq => ?_⟩
    match k, hq with
    | 0, hq => cases hq; exact ⟨fun n z => ⟨(fun k h => by cases h), kA0, g0, cm0, q0⟩, f0⟩
    | 1, hq => cases hq; exact ⟨fun n z => ⟨(fun k h => by cases h), kA1, g1, cm1, q1⟩, kA1, cm1, g1, q1, f1, r1⟩
    | 2, hq => cases hq; exact ⟨fun n z => ⟨(fun k h => by cases h), kA2, g2, cm2, q2⟩, kA2, cm2, g2, q2, f2, r2⟩
    | 3, hq => cases hq; exact ⟨fun n z => ⟨(fun k h => by cases h), kA3, g3, cm3, q3⟩, kA3, cm3, g3, q3, f3, r3⟩
    | k + 4, hq => simp [mv_ty] at hq
  have hNW : mv_NW s := ⟨fun w hw => mv_isN_of (List.all_eq_true.mp mv_nest_all w hw) (hts0 w (mv_nest_in w hw)), va_AO.of (hts0 (.arrayOver (.object RX5)) (mv_t1 (List.mem_of_getElem? (i := 167) rfl))), va_AO.of (hts0 (.arrayOver (.object RX1)) (mv_t1 (List.mem_of_getElem? (i := 25) rfl))), va_AO.of (hts0 (.arrayOver (.object RX0)) (mv_t1 (List.mem_of_getElem? (i := 27) rfl)))⟩
  have hC : mv_Lx p s m b meth c s.heap.size (dC, dI) (fun k => [a0, a1, a2, a3].getD k 0) := ⟨hx, hb, hml, hown, hts, hr, hlocks, (fun z => by cases z), hK2, hNW, rfl⟩
  have hXs : mv_Lsc s b s.heap.size L xs := ⟨hX, hbl, hbl, rfl⟩
  obtain ⟨h1, e1, r1'⟩ := p_ini
  obtain ⟨h2, e2, k1, k2⟩ := p_law (Ls := L) (xs := xs) r1'
  have z1 : h1.1 = mv_K0 ∧ h1.2.1 = mv_S0 := by
    obtain ⟨hs, p, z, ks, pd, hc, -⟩ := r1'
    exact ⟨hc.1.1, hs⟩
  have key : mv_Lw p l e s m b below meth c s.heap.size (dC, dI) (fun k => [a0, a1, a2, a3].getD k 0) 0 [(0, .ref b)] [] mv_h0 := by
    refine ml_new hC (T := TX6) (ty := tyX6) rfl (by decide) uw_X6 tyX6_ok df_X6 mw_cl6 (by decide) dL_law_0 rfl ?_
    refine ml_dup hC dL_law_3 rfl rfl ?_
    refine ml_callI (st := [.ref (s.heap.size + 0)]) (i := 0) [] hC (c_X6_init l _ (dC, dI) _ 0) wc_L_107 ⟨by decide, by decide⟩ (by rw [z1.1, z1.2]; exact ⟨Nat.le_of_ble_eq_true rfl, Nat.le_of_ble_eq_true rfl⟩) rfl (Nat.le_of_ble_eq_true rfl) dL_law_4 e1 rfl ?_
    refine ml_astore_n hC dL_law_7 rfl (by decide) rfl rfl ?_
    exact ml_sub [1, 0] rfl ((c_L_law hC hXs).2 h1 h2 e2 (by rw [k1]; exact Nat.le_of_ble_eq_true rfl) (by rw [k2]; exact Nat.le_of_ble_eq_true rfl))
  have hl := lv_entry ([.ref b]) (n := 13) (Nat.le_of_ble_eq_true rfl)
  rw [lg_entry_eq]
  exact key s.heap [] _ (fun k q h => by simp [mv_ws, mv_h0] at h) va_S.rf hl
