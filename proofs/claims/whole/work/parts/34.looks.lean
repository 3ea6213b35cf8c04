theorem mv_ix (x : Int32) {n : Nat} (hn : n < 2 ^ 31) : (x < 0 ∨ nI n ≤ x) ∨ ∃ j : Nat, j < n ∧ x = nI j := by
  rcases pk_ix x hn with h | h | h
  · exact Or.inl (Or.inl h)
  · exact Or.inl (Or.inr h)
  · exact Or.inr h
theorem mv_z0 : nI 0 = (0 : Int32) := rfl
theorem mv_z1 : ¬ nI 1 = (0 : Int32) := by decide
theorem mo_less' (x : Int32) (h : mv_Hp) {β : Type} {g : Int32 → mv_M β} : mv_bd (F_X7_less x) g h = g (mv_dn x) h := ev_bd (by
  unfold F_X7_less J_X7_less_12 mv_dn
  rw [li4, lin4, li1]
  by_cases q : x = 0
  · rw [ev_t q, if_pos (show x = nI 0 from q)]; rfl
  · rw [ev_f q, if_neg (show ¬ x = nI 0 from q)]; rfl)
theorem ag_12 : mv_Ag_12 mv_Inv := by
  intro a b
  refine mv_A1_of (fun j h0 I hj hI => ?_)
  obtain ⟨D, C, B, hD, hDj, hS, hV, hP, hW⟩ := mv_un hj hI
  have hM := hS.2.1
  have hR := xo_R1 hS
  have hC4 := hV.2.2.2.1
  have e3 := hV.2.1
  rcases mv_ix a (n := C) (by omega) with ha | ⟨c, hc, rfl⟩
  · refine ⟨mv_n1, h0, I, I, ?_, rfl, rfl, ?_, mv_lk0 hI⟩
    · unfold F_X6_where J_X6_where_22
      rw [xo_g0 hS, ro_rc hR, ro_hasNo' hR hW hV ha, ev_t mv_z0]; rfl
    · unfold F_X7_where J_X7_where_28 J_X7_where_29
      rw [mo_rc hM, mo_isC' hM e3, mv_in_no (by omega) ha, ev_t mv_z0]; rfl
  · rcases mv_ix b (n := 9999 + 1) (by omega) with hb | ⟨d, hd, rfl⟩
    · refine ⟨mv_n1, h0, I, I, ?_, rfl, rfl, ?_, mv_lk0 hI⟩
      · unfold F_X6_where J_X6_where_22
        rw [xo_g0 hS, ro_rc hR, ro_has' hR hW hV hc, ev_f mv_z1, li9999]
        by_cases h1 : b < 0
        · rw [ev_t h1]; rfl
        · rw [ev_f h1, ev_f (mv_hi (by omega) (hb.resolve_left h1)).2]; rfl
      · unfold F_X7_where J_X7_where_28 J_X7_where_29
        rw [mo_rc hM, mo_isC' hM e3, mv_in_yes hc (by omega), ev_f mv_z1, li9999, li0, mo_in', mv_in_no2 (by omega) hb, ev_t rfl]; rfl
    · refine ⟨mv_tw (I 148) c d, h0, I, I, ?_, rfl, rfl, ?_, mv_lk0 hI⟩
      · unfold F_X6_where J_X6_where_45
        rw [xo_g0 hS, ro_rc hR, ro_has' hR hW hV hc, ev_f mv_z1, li9999, ev_f (nI_pos (by omega)), ev_t (nI_le (by omega) (by omega)), xo_g0 hS, ro_rc hR, ro_townOf' hR hW hV (by omega) (by omega), li1, lin1, li4, lin4]
        rcases mv_tw_tc hV hc d with ⟨q1, q2⟩ | ⟨t, q0, q1, q2⟩
        · rw [q1, q2, ev_t rfl]; rfl
        · rw [q1, q2, ev_f (mv_n1_ne (by omega))]; rfl
      · unfold F_X7_where J_X7_where_29
        rw [mo_rc hM, mo_isC' hM e3, mv_in_yes hc (by omega), ev_f mv_z1, li9999, li0, mo_in', mv_in_yes2 (by omega) (by omega), ev_f (show ¬ nI 1 = nI 0 by decide), mo_rc hM, mo_townOf' hM hV.2.2.2.2.2.2.1 hC4 hc (by omega)]
        rfl
theorem mv_un2 {j : Nat} {h0 : mv_Hp} {I : Nat → Nat → Int32} (hI : mv_Inv j (mv_hp h0 I)) : ∃ M L, I 143 1 = nI M ∧ I 147 7 = nI M ∧ I 61 1 = nI L ∧ I 147 3 = nI L := by
  obtain ⟨hs, L, M, z, hc, q1, q2, q3⟩ := hI
  obtain ⟨-, -, ⟨a1, -⟩, -, ⟨c1, -⟩⟩ := mv_CI_of hc
  exact ⟨M, L, c1, q3, a1, q1⟩
/-- a delay -/
def mv_dv (v : Nat → Int32) (C b D : Nat) : Int32 := if mv_hD v C b D = nI 0 then nI 2147483647 else mv_AN v C b D - v (64 + 8 * b + 4)
theorem mv_AN_val {v : Nat → Int32} {C B D b : Nat} (hV : mv_VV v C B D) (hD : D < 90000) (hb : b < B) : ∃ n, n ≤ 1000000 ∧ mv_AN v C b D = nI n := by
  obtain ⟨-, ⟨l, w, a, q1, q2, q3, q4, q5, q6, q7⟩, -⟩ := hV.2.2.2.2.2.2.2 b hb
  unfold mv_AN
  rw [q6]
  by_cases h : a = 0
  · subst h
    rw [if_pos (nI_le (Nat.le_refl _) (by omega))]
    exact ⟨_, mv_AB_le hV (by omega), rfl⟩
  · rw [if_neg (nI_ge (by omega) (by omega)), pk_sub (by omega)]
    exact ⟨a - 1, by omega, rfl⟩
theorem mv_dv_ne {v : Nat → Int32} {C B D b : Nat} (hV : mv_VV v C B D) (hP : mv_PV v B) (hD : D < 16000) (hb : b < B) (h : ¬ mv_hD v C b D = nI 0) : ¬ mv_AN v C b D - v (64 + 8 * b + 4) = nI 2147483647 := by
  obtain ⟨n, n1, n2⟩ := mv_AN_val hV (by omega) hb
  rcases hP b hb with p | ⟨x, x1, x2⟩
  · exact absurd (by unfold mv_hD; rw [if_pos p]) h
  · rw [n2, x2]
    intro z
    have t1 := pk_sub_toInt (a := n) (b := x) (by omega) (by omega)
    rw [z, nI_toInt (by omega)] at t1
    omega
theorem xo_delayOf {h0 : mv_Hp} {I : Nat → Nat → Int32} {v : Nat → Int32} {C B D b : Nat} (hS : mv_CS h0) (hW : mv_RV h0 I 1 v C B) (hV : mv_VV v C B D) (hD : D < 16000) (hb : b < B) : ∃ f g, F_X6_delayOf 0 (some (mv_bi h0 1 b)) (mv_hp h0 I) = some (mv_dv v C b D, mv_hp h0 (mv_fo I f g)) := by
  have hR := xo_R1 hS
  have hF := hS.2.2.2.1
  have hC4 := hV.2.2.2.1
  have hB8 := hV.2.2.2.2.1
  obtain ⟨n, n1, n2⟩ := mv_AN_val hV (show D < 90000 by omega) hb
  obtain ⟨f, g, e, -⟩ := fo_arrivalOf hF (by omega) hR hW hV hb (by omega)
  have hB := (hW.2.2.2 b hb).2.2.2.2.1
  have hB2 := ((mv_RV_fo (f := f) (g := g) (by omega) hR hC4 hB8 hW).2.2.2 b hb).2.2.2.2.1
  unfold F_X6_delayOf J_X6_delayOf_13 J_X6_delayOf_46 mv_dv mv_hD
  rw [ev_f (by simp), ro_bI hR (by omega), hB, li4, lin4, li2147483647]
  by_cases q1 : v (64 + 8 * b + 4) = mv_n4
  · rw [ev_t q1, if_pos q1, if_pos rfl]
    exact ⟨I 145, I 146, by rw [mv_fo_self]; rfl⟩
  · refine ⟨f, g, ?_⟩
    rw [ev_f q1, if_neg q1, xo_g5 hS, xo_g0 hS, fo_rc hF, ev_bd e]
    by_cases q2 : mv_AN v C b D = nI 1000000
    · rw [if_pos q2, if_pos rfl, ev_t (by unfold mv_oN; rw [if_pos q2])]; rfl
    · rw [if_neg q2, show mv_oN (mv_AN v C b D) = mv_AN v C b D by unfold mv_oN; rw [if_neg q2], ev_f (show ¬ mv_AN v C b D = mv_n4 by rw [n2]; exact mv_n4_ne (by omega)), ro_bI hR (by omega), hB2, if_neg (show ¬ nI 1 = nI 0 by decide)]; rfl
/-- who is on the way: all but who lies and who has come -/
theorem mv_bb_6 {v : Nat → Int32} {C B D : Nat} (hV : mv_VV v C B D) (hD : D < 90000) : nI B - mv_bb v B 1 - mv_bb v B 3 = mv_bb v B 2 := by
  have hB8 := hV.2.2.2.2.1
  have hC4 := hV.2.2.2.1
  have key : ∀ k, k ≤ B → ∃ x y z, mv_it (fun b n => n + (if v (64 + 8 * b + 1) ≤ nI 0 then nI 0 else nI 1)) k 0 (nI 0) = nI x ∧ mv_it (fun b n => n + (if v (64 + 8 * b + 2) ≤ nI 0 then nI 0 else nI 1)) k 0 (nI 0) = nI y ∧ mv_it (fun b n => n + (if v (64 + 8 * b + 3) ≤ nI 0 then nI 0 else nI 1)) k 0 (nI 0) = nI z ∧ x + y + z = k := by
    intro k
    induction k with
    | zero => intro _; exact ⟨0, 0, 0, rfl, rfl, rfl, rfl⟩
    | succ k ih =>
      intro hk
      obtain ⟨x, y, z, e1, e2, e3, e4⟩ := ih (by omega)
      obtain ⟨-, ⟨l, w, a, q1, q2, q3, q4, q5, q6, q7⟩, -⟩ := hV.2.2.2.2.2.2.2 k (by omega)
      rw [mv_it_last, mv_it_last, mv_it_last, e1, e2, e3, Nat.zero_add]
      rw [q4, q5, q6]
      have p1 : ∀ n : Nat, n < 2 ^ 31 → (if nI n ≤ nI 0 then nI 0 else nI 1) = nI (if n = 0 then 0 else 1) := by
        intro n hn
        by_cases h : n = 0
        · subst h; rfl
        · rw [if_neg (nI_ge (by omega) hn), if_neg h]
      rw [p1 l (by omega), p1 w (by omega), p1 a (by omega), nI_add, nI_add, nI_add]
      refine ⟨_, _, _, rfl, rfl, rfl, ?_⟩
      rcases q7 with ⟨h1, h2, h3⟩ | ⟨h1, h2, h3⟩ | ⟨h1, h2, h3⟩
      · rw [if_neg h1, if_pos h2, if_pos h3]; omega
      · rw [if_pos h1, if_neg h2, if_pos h3]; omega
      · rw [if_pos h1, if_pos h2, if_neg h3]; omega
  obtain ⟨x, y, z, e1, e2, e3, e4⟩ := key B (Nat.le_refl _)
  unfold mv_bb
  rw [e1, e2, e3, pk_sub (by omega), pk_sub (by omega), show B - x - z = y by omega]
theorem ag_13 : mv_Ag_13 mv_Inv := by
  intro a b
  refine mv_A1_of (fun j h0 I hj hI => ?_)
  obtain ⟨D, C, B, hD, hDj, hS, hV, hP, hW⟩ := mv_un hj hI
  have hM := hS.2.1
  have hR := xo_R1 hS
  have hF := hS.2.2.2.1
  have hC4 := hV.2.2.2.1
  have hB8 := hV.2.2.2.2.1
  have e0 := hV.1
  have e3 := hV.2.1
  have e4 := hV.2.2.1
  rcases mv_ix a (n := C) (by omega) with ha | ⟨c, hc, rfl⟩
  · refine ⟨mv_n1, h0, I, I, ?_, rfl, rfl, ?_, mv_lk0 hI⟩
    · unfold F_X6_carrier
      rw [xo_g0 hS, ro_rc hR, ev_bd (ro_carrierNo hR hW hV ha), ev_t rfl]; rfl
    · unfold F_X7_carrier
      rw [mo_rc hM, mo_isC' hM e3, mv_in_no (by omega) ha, ev_t mv_z0]; rfl
  obtain ⟨w1, w2, w3, w4, w5, -⟩ := hW.2.2.1 c hc
  by_cases c0 : b = (0 : Int32)
  · refine ⟨I 148 (16 + 12 * c + 0), h0, I, I, ?_, rfl, rfl, ?_, mv_lk0 hI⟩
    · unfold F_X6_carrier
      rw [xo_g0 hS, ro_rc hR, ev_bd (ro_carrierAt hR hW hV hc), ev_f (by simp), ev_t c0, ro_cI hR (by omega), w1]; rfl
    · unfold F_X7_carrier
      rw [mo_rc hM, mo_isC' hM e3, mv_in_yes hc (by omega), ev_f mv_z1, ev_t c0, mo_rc hM, li0, mo_ofC' hM (by omega)]; rfl
  by_cases c1 : b = (1 : Int32)
  · refine ⟨I 148 (16 + 12 * c + 8), h0, I, I, ?_, rfl, rfl, ?_, mv_lk0 hI⟩
    · unfold F_X6_carrier
      rw [xo_g0 hS, ro_rc hR, ev_bd (ro_carrierAt hR hW hV hc), ev_f (by simp), ev_f c0, ev_t c1, ro_cI hR (by omega), w2]; rfl
    · unfold F_X7_carrier
      rw [mo_rc hM, mo_isC' hM e3, mv_in_yes hc (by omega), ev_f mv_z1, ev_f c0, ev_t c1, mo_rc hM, li8, mo_ofC' hM (by omega)]; rfl
  by_cases c2 : b = (2 : Int32)
  · refine ⟨mv_hs (I 148) B c, h0, I, I, ?_, rfl, rfl, ?_, mv_lk0 hI⟩
    · unfold F_X6_carrier
      rw [xo_g0 hS, ro_rc hR, ev_bd (ro_carrierAt hR hW hV hc), ev_f (by simp), ev_f c0, ev_f c1, ev_t c2, xo_g0 hS, ro_rc hR, ro_bundlesWith' hR hW hV (by omega)]; rfl
    · unfold F_X7_carrier
      rw [mo_rc hM, mo_isC' hM e3, mv_in_yes hc (by omega), ev_f mv_z1, ev_f c0, ev_f c1, ev_t c2, mo_rc hM, mo_has' hM hB8 e4]; rfl
  by_cases c3 : b = (3 : Int32)
  · refine ⟨mv_ful (I 148) B c, h0, I, I, ?_, rfl, rfl, ?_, mv_lk0 hI⟩
    · unfold F_X6_carrier J_X6_carrier_95
      rw [xo_g0 hS, ro_rc hR, ev_bd (ro_carrierAt hR hW hV hc), ev_f (by simp), ev_f c0, ev_f c1, ev_f c2, ev_t c3, xo_g0 hS, ro_rc hR, ro_isFull' hR hW hV (by omega)]
      unfold mv_ful
      by_cases q : mv_hs (I 148) B c < I 148 1
      · rw [if_pos q, ev_t mv_z0]; rfl
      · rw [if_neg q, ev_f mv_z1]; rfl
    · unfold F_X7_carrier J_X7_carrier_92
      rw [mo_rc hM, mo_isC' hM e3, mv_in_yes hc (by omega), ev_f mv_z1, ev_f c0, ev_f c1, ev_f c2, ev_t c3, mo_rc hM, mo_has' hM hB8 e4, mo_g0 hM, li1, mo_r148 hM (by omega)]
      unfold mv_ful
      by_cases q : mv_hs (I 148) B c < I 148 1
      · rw [ev_t q, if_pos q]; rfl
      · rw [ev_f q, if_neg q]; rfl
  by_cases c4 : b = (4 : Int32)
  · refine ⟨I 148 (16 + 12 * c + 9), h0, I, I, ?_, rfl, rfl, ?_, mv_lk0 hI⟩
    · unfold F_X6_carrier
      rw [xo_g0 hS, ro_rc hR, ev_bd (ro_carrierAt hR hW hV hc), ev_f (by simp), ev_f c0, ev_f c1, ev_f c2, ev_f c3, ev_t c4, ro_cI hR (by omega), w3]; rfl
    · unfold F_X7_carrier
      rw [mo_rc hM, mo_isC' hM e3, mv_in_yes hc (by omega), ev_f mv_z1, ev_f c0, ev_f c1, ev_f c2, ev_f c3, ev_t c4, mo_rc hM, li9, mo_ofC' hM (by omega)]; rfl
  by_cases c5 : b = (5 : Int32)
  · refine ⟨I 148 (16 + 12 * c + 10), h0, I, I, ?_, rfl, rfl, ?_, mv_lk0 hI⟩
    · unfold F_X6_carrier
      rw [xo_g0 hS, ro_rc hR, ev_bd (ro_carrierAt hR hW hV hc), ev_f (by simp), ev_f c0, ev_f c1, ev_f c2, ev_f c3, ev_f c4, ev_t c5, ro_cI hR (by omega), w4]; rfl
    · unfold F_X7_carrier
      rw [mo_rc hM, mo_isC' hM e3, mv_in_yes hc (by omega), ev_f mv_z1, ev_f c0, ev_f c1, ev_f c2, ev_f c3, ev_f c4, ev_t c5, mo_rc hM, li10, mo_ofC' hM (by omega)]; rfl
  by_cases c6 : b = (6 : Int32)
  · refine ⟨I 148 (16 + 12 * c + 11), h0, I, I, ?_, rfl, rfl, ?_, mv_lk0 hI⟩
    · unfold F_X6_carrier
      rw [xo_g0 hS, ro_rc hR, ev_bd (ro_carrierAt hR hW hV hc), ev_f (by simp), ev_f c0, ev_f c1, ev_f c2, ev_f c3, ev_f c4, ev_f c5, ev_t c6, ro_cI hR (by omega), w5]; rfl
    · unfold F_X7_carrier
      rw [mo_rc hM, mo_isC' hM e3, mv_in_yes hc (by omega), ev_f mv_z1, ev_f c0, ev_f c1, ev_f c2, ev_f c3, ev_f c4, ev_f c5, ev_t c6, mo_rc hM, li11, mo_ofC' hM (by omega)]; rfl
  refine ⟨mv_n1, h0, I, I, ?_, rfl, rfl, ?_, mv_lk0 hI⟩
  · unfold F_X6_carrier
    rw [xo_g0 hS, ro_rc hR, ev_bd (ro_carrierAt hR hW hV hc), ev_f (by simp), ev_f c0, ev_f c1, ev_f c2, ev_f c3, ev_f c4, ev_f c5, ev_f c6]; rfl
  · unfold F_X7_carrier
    rw [mo_rc hM, mo_isC' hM e3, mv_in_yes hc (by omega), ev_f mv_z1, ev_f c0, ev_f c1, ev_f c2, ev_f c3, ev_f c4, ev_f c5, ev_f c6]; rfl
theorem ag_14 : mv_Ag_14 mv_Inv := by
  intro a b
  refine mv_A1_of (fun j h0 I hj hI => ?_)
  obtain ⟨D, C, B, hD, hDj, hS, hV, hP, hW⟩ := mv_un hj hI
  have hM := hS.2.1
  have hR := xo_R1 hS
  have hF := hS.2.2.2.1
  have hC4 := hV.2.2.2.1
  have hB8 := hV.2.2.2.2.1
  have e0 := hV.1
  have e3 := hV.2.1
  have e4 := hV.2.2.1
  rcases mv_ix a (n := B) (by omega) with ha | ⟨c, hc, rfl⟩
  · refine ⟨mv_n1, h0, I, I, ?_, rfl, rfl, ?_, mv_lk0 hI⟩
    · unfold F_X6_bundle
      rw [xo_g0 hS, ro_rc hR, ev_bd (ro_bundleNo hR hW hV ha), ev_t rfl]; rfl
    · unfold F_X7_bundle
      rw [mo_rc hM, mo_isB' hM e4, mv_in_no (by omega) ha, ev_t mv_z0]; rfl
  obtain ⟨w0, w1, w2, w3, w4, w5, w6, w7⟩ := hW.2.2.2 c hc
  by_cases c0 : b = (0 : Int32)
  · refine ⟨I 148 (64 + 8 * c + 0), h0, I, I, ?_, rfl, rfl, ?_, mv_lk0 hI⟩
    · unfold F_X6_bundle
      rw [xo_g0 hS, ro_rc hR, ev_bd (ro_bundleAt hR hW hV hc), ev_f (by simp), ev_t c0, ro_bI hR (by omega), w0]; rfl
    · unfold F_X7_bundle
      rw [mo_rc hM, mo_isB' hM e4, mv_in_yes hc (by omega), ev_f mv_z1, ev_t c0, mo_rc hM, li0, mo_of' hM (by omega)]; rfl
  by_cases c1 : b = (1 : Int32)
  · refine ⟨mv_dn (I 148 (64 + 8 * c + 1)), h0, I, I, ?_, rfl, rfl, ?_, mv_lk0 hI⟩
    · unfold F_X6_bundle
      rw [xo_g0 hS, ro_rc hR, ev_bd (ro_bundleAt hR hW hV hc), ev_f (by simp), ev_f c0, ev_t c1, ro_bI hR (by omega), w1]; rfl
    · unfold F_X7_bundle
      rw [mo_rc hM, mo_isB' hM e4, mv_in_yes hc (by omega), ev_f mv_z1, ev_f c0, ev_t c1, mo_rc hM, li1, mo_of' hM (by omega), mo_less']; rfl
  by_cases c2 : b = (2 : Int32)
  · refine ⟨mv_dn (I 148 (64 + 8 * c + 2)), h0, I, I, ?_, rfl, rfl, ?_, mv_lk0 hI⟩
    · unfold F_X6_bundle
      rw [xo_g0 hS, ro_rc hR, ev_bd (ro_bundleAt hR hW hV hc), ev_f (by simp), ev_f c0, ev_f c1, ev_t c2, ro_bI hR (by omega), w2]; rfl
    · unfold F_X7_bundle
      rw [mo_rc hM, mo_isB' hM e4, mv_in_yes hc (by omega), ev_f mv_z1, ev_f c0, ev_f c1, ev_t c2, mo_rc hM, li2, mo_of' hM (by omega), mo_less']; rfl
  by_cases c3 : b = (3 : Int32)
  · refine ⟨mv_dn (I 148 (64 + 8 * c + 3)), h0, I, I, ?_, rfl, rfl, ?_, mv_lk0 hI⟩
    · unfold F_X6_bundle
      rw [xo_g0 hS, ro_rc hR, ev_bd (ro_bundleAt hR hW hV hc), ev_f (by simp), ev_f c0, ev_f c1, ev_f c2, ev_t c3, ro_bI hR (by omega), w3]; rfl
    · unfold F_X7_bundle
      rw [mo_rc hM, mo_isB' hM e4, mv_in_yes hc (by omega), ev_f mv_z1, ev_f c0, ev_f c1, ev_f c2, ev_t c3, mo_rc hM, li3, mo_of' hM (by omega), mo_less']; rfl
  by_cases c4 : b = (4 : Int32)
  · refine ⟨I 148 (64 + 8 * c + 4), h0, I, I, ?_, rfl, rfl, ?_, mv_lk0 hI⟩
    · unfold F_X6_bundle
      rw [xo_g0 hS, ro_rc hR, ev_bd (ro_bundleAt hR hW hV hc), ev_f (by simp), ev_f c0, ev_f c1, ev_f c2, ev_f c3, ev_t c4, ro_bI hR (by omega), w4]; rfl
    · unfold F_X7_bundle
      rw [mo_rc hM, mo_isB' hM e4, mv_in_yes hc (by omega), ev_f mv_z1, ev_f c0, ev_f c1, ev_f c2, ev_f c3, ev_t c4, mo_rc hM, li4, mo_of' hM (by omega)]; rfl
  by_cases c5 : b = (5 : Int32)
  · obtain ⟨f, g, ed⟩ := xo_delayOf hS hW hV hD hc
    have hV2 : mv_VV (mv_fo I f g 148) C B D := by rw [mv_fo_ne (by omega) (by omega)]; exact hV
    have e148 : mv_fo I f g 148 = I 148 := mv_fo_ne (by omega) (by omega)
    refine ⟨if mv_hD (I 148) C c D = nI 0 then mv_n4 else mv_AN (I 148) C c D - I 148 (64 + 8 * c + 4) + nI 1000, h0, mv_fo I f g, mv_fo I f g, ?_, rfl, rfl, ?_, mv_lkf hI⟩
    · unfold F_X6_bundle F_X6_shiftedDelayOf J_X6_shiftedDelayOf_22
      rw [xo_g0 hS, ro_rc hR, ev_bd (ro_bundleAt hR hW hV hc), ev_f (by simp), ev_f c0, ev_f c1, ev_f c2, ev_f c3, ev_f c4, ev_t c5, xo_rc hS]
      have es : (mv_bd (mv_rc 6 7 (some 0)) fun i2 => mv_bd (F_X6_delayOf i2 (some (mv_bi h0 1 c))) fun v1 => if v1 = (2147483647 : Int32) then mv_pu (-4 : Int32) else mv_pu (v1 + (1000 : Int32))) (mv_hp h0 I) = some (if mv_hD (I 148) C c D = nI 0 then mv_n4 else mv_AN (I 148) C c D - I 148 (64 + 8 * c + 4) + nI 1000, mv_hp h0 (mv_fo I f g)) := by
        rw [xo_rc hS, ev_bd ed, li2147483647, li1000, li4, lin4]
        by_cases q : mv_hD (I 148) C c D = nI 0
        · rw [if_pos q]; unfold mv_dv; rw [if_pos q, ev_t rfl]; rfl
        · rw [if_neg q]; unfold mv_dv; rw [if_neg q, ev_f (mv_dv_ne hV hP hD hc q)]; rfl
      rw [ev_bd es]; rfl
    · unfold F_X7_bundle J_X7_bundle_126
      rw [mo_rc hM, mo_isB' hM (by rw [e148]; exact e4), mv_in_yes hc (by omega), ev_f mv_z1, ev_f c0, ev_f c1, ev_f c2, ev_f c3, ev_f c4, ev_t c5, mo_rc hM, mo_hD' hM hV2 hc (by omega), e148, li4, lin4, li1000]
      by_cases q : mv_hD (I 148) C c D = nI 0
      · rw [ev_t (show mv_hD (I 148) C c D = 0 from q), if_pos q]; rfl
      · rw [ev_f (show ¬ mv_hD (I 148) C c D = 0 from q), if_neg q, mo_rc hM, mo_dO' hM hV2 hc (by omega), e148, Int32.add_comm]; rfl
  by_cases c6 : b = (6 : Int32)
  · refine ⟨I 148 (64 + 8 * c + 5), h0, I, I, ?_, rfl, rfl, ?_, mv_lk0 hI⟩
    · unfold F_X6_bundle J_X6_bundle_111
      rw [xo_g0 hS, ro_rc hR, ev_bd (ro_bundleAt hR hW hV hc), ev_f (by simp), ev_f c0, ev_f c1, ev_f c2, ev_f c3, ev_f c4, ev_f c5, ev_t c6, ro_bI hR (by omega), w5]
      rcases (hV.2.2.2.2.2.2.2 c hc).2.2 with q | q
      · rw [q, ev_t mv_z0]; rfl
      · rw [q, ev_f mv_z1]; rfl
    · unfold F_X7_bundle
      rw [mo_rc hM, mo_isB' hM e4, mv_in_yes hc (by omega), ev_f mv_z1, ev_f c0, ev_f c1, ev_f c2, ev_f c3, ev_f c4, ev_f c5, ev_t c6, mo_rc hM, li5, mo_of' hM (by omega)]; rfl
  by_cases c7 : b = (7 : Int32)
  · refine ⟨I 148 (64 + 8 * c + 6), h0, I, I, ?_, rfl, rfl, ?_, mv_lk0 hI⟩
    · unfold F_X6_bundle
      rw [xo_g0 hS, ro_rc hR, ev_bd (ro_bundleAt hR hW hV hc), ev_f (by simp), ev_f c0, ev_f c1, ev_f c2, ev_f c3, ev_f c4, ev_f c5, ev_f c6, ev_t c7, ro_bI hR (by omega), w6]; rfl
    · unfold F_X7_bundle
      rw [mo_rc hM, mo_isB' hM e4, mv_in_yes hc (by omega), ev_f mv_z1, ev_f c0, ev_f c1, ev_f c2, ev_f c3, ev_f c4, ev_f c5, ev_f c6, ev_t c7, mo_rc hM, li6, mo_of' hM (by omega)]; rfl
  by_cases c8 : b = (8 : Int32)
  · refine ⟨I 148 (64 + 8 * c + 7), h0, I, I, ?_, rfl, rfl, ?_, mv_lk0 hI⟩
    · unfold F_X6_bundle
      rw [xo_g0 hS, ro_rc hR, ev_bd (ro_bundleAt hR hW hV hc), ev_f (by simp), ev_f c0, ev_f c1, ev_f c2, ev_f c3, ev_f c4, ev_f c5, ev_f c6, ev_f c7, ev_t c8, ro_bI hR (by omega), w7]; rfl
    · unfold F_X7_bundle
      rw [mo_rc hM, mo_isB' hM e4, mv_in_yes hc (by omega), ev_f mv_z1, ev_f c0, ev_f c1, ev_f c2, ev_f c3, ev_f c4, ev_f c5, ev_f c6, ev_f c7, ev_t c8, mo_rc hM, li7, mo_of' hM (by omega)]; rfl
  refine ⟨mv_n1, h0, I, I, ?_, rfl, rfl, ?_, mv_lk0 hI⟩
  · unfold F_X6_bundle
    rw [xo_g0 hS, ro_rc hR, ev_bd (ro_bundleAt hR hW hV hc), ev_f (by simp), ev_f c0, ev_f c1, ev_f c2, ev_f c3, ev_f c4, ev_f c5, ev_f c6, ev_f c7, ev_f c8]; rfl
  · unfold F_X7_bundle
    rw [mo_rc hM, mo_isB' hM e4, mv_in_yes hc (by omega), ev_f mv_z1, ev_f c0, ev_f c1, ev_f c2, ev_f c3, ev_f c4, ev_f c5, ev_f c6, ev_f c7, ev_f c8]; rfl
theorem ag_17 : mv_Ag_17 mv_Inv := by
  intro b
  refine mv_A1_of (fun j h0 I hj hI => ?_)
  obtain ⟨D, C, B, hD, hDj, hS, hV, hP, hW⟩ := mv_un hj hI
  have hM := hS.2.1
  have hR := xo_R1 hS
  have hF := hS.2.2.2.1
  have hC4 := hV.2.2.2.1
  have hB8 := hV.2.2.2.2.1
  have e0 := hV.1
  have e3 := hV.2.1
  have e4 := hV.2.2.1
  obtain ⟨r3, r4, r5, r6, r7, r8, r9, r10, r11⟩ := hW.1
  obtain ⟨M, L, m1, m2, l1, l2⟩ := mv_un2 hI
  by_cases c0 : b = (0 : Int32)
  · refine ⟨I 148 0, h0, I, I, ?_, rfl, rfl, ?_, mv_lk0 hI⟩
    · unfold F_X6_count
      rw [ev_t c0, xo_g0 hS, ro_gI hR, r5]; rfl
    · unfold F_X7_count
      rw [ev_t c0, mo_g0 hM, li0, mo_r148 hM (by omega)]; rfl
  by_cases c1 : b = (1 : Int32)
  · refine ⟨if mv_sw (I 148) D = nI 6 then mv_n4 else mv_sw (I 148) D, h0, I, I, ?_, rfl, rfl, ?_, mv_lk0 hI⟩
    · unfold F_X6_count
      have es : F_X6_stallToday 0 (mv_hp h0 I) = some (if mv_sw (I 148) D = nI 6 then mv_n4 else mv_sw (I 148) D, mv_hp h0 I) := by
        unfold F_X6_stallToday J_X6_stallToday_27
        rw [xo_g0 hS, xo_g0 hS, ro_gI hR, r5, e0, ro_rc hR, ro_stallOn' hR hW (by omega), li6, li4, lin4]
        by_cases q : mv_sw (I 148) D = nI 6
        · rw [ev_t q, if_pos q]; rfl
        · rw [ev_f q, if_neg q]; rfl
      rw [ev_f c0, ev_t c1, xo_rc hS, ev_bd es]; rfl
    · unfold F_X7_count J_X7_count_121
      rw [ev_f c0, ev_t c1, mo_g0 hM, li0, mo_r148 hM (by omega), e0, mo_rc hM, mo_stallOn' hM (by omega), li6, li4, lin4]
      by_cases q : mv_sw (I 148) D = nI 6
      · rw [ev_t q, if_pos q]; rfl
      · rw [ev_f q, if_neg q, mo_g0 hM, mo_r148 hM (by omega), e0, mo_rc hM, mo_stallOn' hM (by omega)]; rfl
  by_cases c2 : b = (2 : Int32)
  · refine ⟨I 148 3, h0, I, I, ?_, rfl, rfl, ?_, mv_lk0 hI⟩
    · unfold F_X6_count
      rw [ev_f c0, ev_f c1, ev_t c2, xo_g0 hS, ro_gI hR, r3]; rfl
    · unfold F_X7_count
      rw [ev_f c0, ev_f c1, ev_t c2, mo_g0 hM, li3, mo_r148 hM (by omega)]; rfl
  by_cases c3 : b = (3 : Int32)
  · refine ⟨mv_io (I 148) C D, h0, I, I, ?_, rfl, rfl, ?_, mv_lk0 hI⟩
    · unfold F_X6_count
      rw [ev_f c0, ev_f c1, ev_f c2, ev_t c3, xo_g0 hS, ro_rc hR, ev_bd (ro_illToday hR hW hV (by omega) (fun c hc => by rcases mv_tw_tc hV hc D with ⟨q1, q2⟩ | ⟨t, q0, q1, q2⟩; exact ⟨fun _ => q2, fun _ => q1⟩; rw [q1, q2]; exact ⟨fun z => absurd z (mv_n1_ne (by omega)), fun z => absurd z (mv_n4_ne (by omega))⟩))]; rfl
    · unfold F_X7_count
      rw [ev_f c0, ev_f c1, ev_f c2, ev_t c3, mo_rc hM, ev_bd (mo_ill hM hV.2.2.2.2.2.2.1 hC4 e3 e0 (by omega))]; rfl
  by_cases c4 : b = (4 : Int32)
  · refine ⟨I 148 4, h0, I, I, ?_, rfl, rfl, ?_, mv_lk0 hI⟩
    · unfold F_X6_count
      rw [ev_f c0, ev_f c1, ev_f c2, ev_f c3, ev_t c4, xo_g0 hS, ro_gI hR, r4]; rfl
    · unfold F_X7_count
      rw [ev_f c0, ev_f c1, ev_f c2, ev_f c3, ev_t c4, mo_g0 hM, li4, mo_r148 hM (by omega)]; rfl
  by_cases c5 : b = (5 : Int32)
  · refine ⟨mv_bb (I 148) B 1, h0, I, I, ?_, rfl, rfl, ?_, mv_lk0 hI⟩
    · unfold F_X6_count
      rw [ev_f c0, ev_f c1, ev_f c2, ev_f c3, ev_f c4, ev_t c5, xo_g0 hS, ro_rc hR, ev_bd (ro_lying hR hW hV)]; rfl
    · unfold F_X7_count
      rw [ev_f c0, ev_f c1, ev_f c2, ev_f c3, ev_f c4, ev_t c5, mo_rc hM, li1, mo_bb' hM hB8 e4 (by omega)]; rfl
  by_cases c6 : b = (6 : Int32)
  · refine ⟨mv_bb (I 148) B 2, h0, I, I, ?_, rfl, rfl, ?_, mv_lk0 hI⟩
    · unfold F_X6_count
      rw [ev_f c0, ev_f c1, ev_f c2, ev_f c3, ev_f c4, ev_f c5, ev_t c6, xo_g0 hS, ro_gI hR, r4, e4, xo_g0 hS, ro_rc hR, ev_bd (ro_lying hR hW hV), xo_g0 hS, ro_rc hR, ev_bd (ro_arrived hR hW hV (by omega)), mv_bb_6 hV (by omega)]; rfl
    · unfold F_X7_count
      rw [ev_f c0, ev_f c1, ev_f c2, ev_f c3, ev_f c4, ev_f c5, ev_t c6, mo_rc hM, li2, mo_bb' hM hB8 e4 (by omega)]; rfl
  by_cases c7 : b = (7 : Int32)
  · refine ⟨mv_bb (I 148) B 3, h0, I, I, ?_, rfl, rfl, ?_, mv_lk0 hI⟩
    · unfold F_X6_count
      rw [ev_f c0, ev_f c1, ev_f c2, ev_f c3, ev_f c4, ev_f c5, ev_f c6, ev_t c7, xo_g0 hS, ro_rc hR, ev_bd (ro_arrived hR hW hV (by omega))]; rfl
    · unfold F_X7_count
      rw [ev_f c0, ev_f c1, ev_f c2, ev_f c3, ev_f c4, ev_f c5, ev_f c6, ev_t c7, mo_rc hM, li3, mo_bb' hM hB8 e4 (by omega)]; rfl
  by_cases c8 : b = (8 : Int32)
  · refine ⟨mv_bb (I 148) B 5, h0, I, I, ?_, rfl, rfl, ?_, mv_lk0 hI⟩
    · unfold F_X6_count
      rw [ev_f c0, ev_f c1, ev_f c2, ev_f c3, ev_f c4, ev_f c5, ev_f c6, ev_f c7, ev_t c8, xo_g0 hS, ro_rc hR, ev_bd (ro_broken hR hW hV)]; rfl
    · unfold F_X7_count
      rw [ev_f c0, ev_f c1, ev_f c2, ev_f c3, ev_f c4, ev_f c5, ev_f c6, ev_f c7, ev_t c8, mo_rc hM, li5, mo_bb' hM hB8 e4 (by omega)]; rfl
  by_cases c9 : b = (9 : Int32)
  · refine ⟨I 148 5, h0, I, I, ?_, rfl, rfl, ?_, mv_lk0 hI⟩
    · unfold F_X6_count
      rw [ev_f c0, ev_f c1, ev_f c2, ev_f c3, ev_f c4, ev_f c5, ev_f c6, ev_f c7, ev_f c8, ev_t c9, xo_g0 hS, ro_gI hR, r8]; rfl
    · unfold F_X7_count J_X7_count_165
      rw [ev_f c0, ev_f c1, ev_f c2, ev_f c3, ev_f c4, ev_f c5, ev_f c6, ev_f c7, ev_f c8, ev_t c9, mo_g0 hM, c9, show (5 : Int32) + (9 : Int32) - (9 : Int32) = nI 5 by decide, mo_r148 hM (by omega)]; rfl
  by_cases c10 : b = (10 : Int32)
  · refine ⟨I 148 6, h0, I, I, ?_, rfl, rfl, ?_, mv_lk0 hI⟩
    · unfold F_X6_count
      rw [ev_f c0, ev_f c1, ev_f c2, ev_f c3, ev_f c4, ev_f c5, ev_f c6, ev_f c7, ev_f c8, ev_f c9, ev_t c10, xo_g0 hS, ro_gI hR, r9]; rfl
    · unfold F_X7_count J_X7_count_165
      rw [ev_f c0, ev_f c1, ev_f c2, ev_f c3, ev_f c4, ev_f c5, ev_f c6, ev_f c7, ev_f c8, ev_f c9, ev_t c10, mo_g0 hM, c10, show (5 : Int32) + (10 : Int32) - (9 : Int32) = nI 6 by decide, mo_r148 hM (by omega)]; rfl
  by_cases c11 : b = (11 : Int32)
  · refine ⟨I 148 7, h0, I, I, ?_, rfl, rfl, ?_, mv_lk0 hI⟩
    · unfold F_X6_count
      rw [ev_f c0, ev_f c1, ev_f c2, ev_f c3, ev_f c4, ev_f c5, ev_f c6, ev_f c7, ev_f c8, ev_f c9, ev_f c10, ev_t c11, xo_g0 hS, ro_gI hR, r10]; rfl
    · unfold F_X7_count J_X7_count_165
      rw [ev_f c0, ev_f c1, ev_f c2, ev_f c3, ev_f c4, ev_f c5, ev_f c6, ev_f c7, ev_f c8, ev_f c9, ev_f c10, ev_t c11, mo_g0 hM, c11, show (5 : Int32) + (11 : Int32) - (9 : Int32) = nI 7 by decide, mo_r148 hM (by omega)]; rfl
  by_cases c12 : b = (12 : Int32)
  · refine ⟨I 148 8, h0, I, I, ?_, rfl, rfl, ?_, mv_lk0 hI⟩
    · unfold F_X6_count
      rw [ev_f c0, ev_f c1, ev_f c2, ev_f c3, ev_f c4, ev_f c5, ev_f c6, ev_f c7, ev_f c8, ev_f c9, ev_f c10, ev_f c11, ev_t c12, xo_g0 hS, ro_gI hR, r11]; rfl
    · unfold F_X7_count J_X7_count_165
      rw [ev_f c0, ev_f c1, ev_f c2, ev_f c3, ev_f c4, ev_f c5, ev_f c6, ev_f c7, ev_f c8, ev_f c9, ev_f c10, ev_f c11, ev_t c12, mo_g0 hM, c12, show (5 : Int32) + (12 : Int32) - (9 : Int32) = nI 8 by decide, mo_r148 hM (by omega)]; rfl
  by_cases c13 : b = (13 : Int32)
  · refine ⟨I 148 1, h0, I, I, ?_, rfl, rfl, ?_, mv_lk0 hI⟩
    · unfold F_X6_count
      rw [ev_f c0, ev_f c1, ev_f c2, ev_f c3, ev_f c4, ev_f c5, ev_f c6, ev_f c7, ev_f c8, ev_f c9, ev_f c10, ev_f c11, ev_f c12, ev_t c13, xo_g0 hS, ro_gI hR, r6]; rfl
    · unfold F_X7_count
      rw [ev_f c0, ev_f c1, ev_f c2, ev_f c3, ev_f c4, ev_f c5, ev_f c6, ev_f c7, ev_f c8, ev_f c9, ev_f c10, ev_f c11, ev_f c12, ev_t c13, mo_g0 hM, li1, mo_r148 hM (by omega)]; rfl
  by_cases c14 : b = (14 : Int32)
  · refine ⟨I 148 2, h0, I, I, ?_, rfl, rfl, ?_, mv_lk0 hI⟩
    · unfold F_X6_count
      rw [ev_f c0, ev_f c1, ev_f c2, ev_f c3, ev_f c4, ev_f c5, ev_f c6, ev_f c7, ev_f c8, ev_f c9, ev_f c10, ev_f c11, ev_f c12, ev_f c13, ev_t c14, xo_g0 hS, ro_gI hR, r7]; rfl
    · unfold F_X7_count
      rw [ev_f c0, ev_f c1, ev_f c2, ev_f c3, ev_f c4, ev_f c5, ev_f c6, ev_f c7, ev_f c8, ev_f c9, ev_f c10, ev_f c11, ev_f c12, ev_f c13, ev_t c14, mo_g0 hM, li2, mo_r148 hM (by omega)]; rfl
  by_cases c15 : b = (15 : Int32)
  · refine ⟨nI M, h0, I, I, ?_, rfl, rfl, ?_, mv_lk0 hI⟩
    · unfold F_X6_count
      rw [ev_f c0, ev_f c1, ev_f c2, ev_f c3, ev_f c4, ev_f c5, ev_f c6, ev_f c7, ev_f c8, ev_f c9, ev_f c10, ev_f c11, ev_f c12, ev_f c13, ev_f c14, ev_t c15, xo_g4 hS, ev_gI (show h0.1[143]? = some (4, 2) by rw [hS.1]; rfl), m1]; rfl
    · unfold F_X7_count
      rw [ev_f c0, ev_f c1, ev_f c2, ev_f c3, ev_f c4, ev_f c5, ev_f c6, ev_f c7, ev_f c8, ev_f c9, ev_f c10, ev_f c11, ev_f c12, ev_f c13, ev_f c14, ev_t c15, mo_gI hM, m2]; rfl
  by_cases c16 : b = (16 : Int32)
  · refine ⟨nI L, h0, I, I, ?_, rfl, rfl, ?_, mv_lk0 hI⟩
    · unfold F_X6_count
      rw [ev_f c0, ev_f c1, ev_f c2, ev_f c3, ev_f c4, ev_f c5, ev_f c6, ev_f c7, ev_f c8, ev_f c9, ev_f c10, ev_f c11, ev_f c12, ev_f c13, ev_f c14, ev_f c15, ev_t c16, xo_g3 hS, hi_gI hS.2.2.2.2.1, l1]; rfl
    · unfold F_X7_count
      rw [ev_f c0, ev_f c1, ev_f c2, ev_f c3, ev_f c4, ev_f c5, ev_f c6, ev_f c7, ev_f c8, ev_f c9, ev_f c10, ev_f c11, ev_f c12, ev_f c13, ev_f c14, ev_f c15, ev_t c16, mo_gI hM, l2]; rfl
  refine ⟨mv_n1, h0, I, I, ?_, rfl, rfl, ?_, mv_lk0 hI⟩
  · unfold F_X6_count
    rw [ev_f c0, ev_f c1, ev_f c2, ev_f c3, ev_f c4, ev_f c5, ev_f c6, ev_f c7, ev_f c8, ev_f c9, ev_f c10, ev_f c11, ev_f c12, ev_f c13, ev_f c14, ev_f c15, ev_f c16]; rfl
  · unfold F_X7_count
    rw [ev_f c0, ev_f c1, ev_f c2, ev_f c3, ev_f c4, ev_f c5, ev_f c6, ev_f c7, ev_f c8, ev_f c9, ev_f c10, ev_f c11, ev_f c12, ev_f c13, ev_f c14, ev_f c15, ev_f c16]; rfl
