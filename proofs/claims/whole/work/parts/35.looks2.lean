theorem mv_fo148 {I : Nat → Nat → Int32} {f g : Nat → Int32} : mv_fo I f g 148 = I 148 := mv_fo_ne (by omega) (by omega)
theorem ag_15 : mv_Ag_15 mv_Inv := by
  intro a b
  refine mv_A1_of (fun j h0 I hj hI => ?_)
  obtain ⟨D, C, B, hD, hDj, hS, hV, hP, hW⟩ := mv_un hj hI
  have hM := hS.2.1
  have hR := xo_R1 hS
  have hF := hS.2.2.2.1
  have hC4 := hV.2.2.2.1
  have hB8 := hV.2.2.2.2.1
  have e4 := hV.2.2.1
  rcases mv_ix a (n := B) (by omega) with ha | ⟨c, hc, rfl⟩
  · refine ⟨mv_n1, h0, I, I, ?_, rfl, rfl, ?_, mv_lk0 hI⟩
    · unfold F_X6_arrival J_X6_arrival_22
      rw [xo_g0 hS, ro_rc hR, ev_bd (ro_bundleNo hR hW hV ha), ev_t rfl]; rfl
    · unfold F_X7_arrival J_X7_arrival_28 J_X7_arrival_29
      rw [mo_rc hM, mo_isB' hM e4, mv_in_no (by omega) ha, ev_t mv_z0]; rfl
  have fin : ∀ J, J 148 = I 148 → mv_Inv (j + 1) (mv_hp h0 J) → (b = nI 0 ∨ b = nI 1) → F_X7_arrival 147 (nI c) b (mv_hp h0 J) = some (mv_oN (mv_AN (I 148) C c D), mv_hp h0 J) := by
    intro J hJ _ hb
    have hb' : (if b < nI 0 then nI 0 else if nI 1 < b then nI 0 else nI 1) = nI 1 := by rcases hb with rfl | rfl <;> decide
    unfold F_X7_arrival J_X7_arrival_29
    rw [mo_rc hM, mo_isB' hM (by rw [hJ]; exact e4), mv_in_yes hc (by omega), ev_f mv_z1, li0, li1, mo_in', hb', ev_f (show ¬ nI 1 = nI 0 by decide), mo_rc hM, mo_AN' hM (by rw [hJ]; exact hV) hc (by omega), mo_orNone', hJ]
    rfl
  by_cases h1 : b = (0 : Int32)
  · obtain ⟨f, g, e, -⟩ := fo_arrivalOf hF (by omega) hR hW hV hc (show D < 90000 by omega)
    refine ⟨mv_oN (mv_AN (I 148) C c D), h0, mv_fo I f g, mv_fo I f g, ?_, rfl, rfl, fin _ mv_fo148 (mv_lkf hI) (Or.inl h1), mv_lkf hI⟩
    unfold F_X6_arrival J_X6_arrival_24 J_X6_arrival_55
    rw [xo_g0 hS, ro_rc hR, ev_bd (ro_bundleAt hR hW hV hc), ev_f (by simp), ev_t h1, ev_t h1, xo_g5 hS, xo_g0 hS, fo_rc hF, ev_bd e]
    rfl
  by_cases h2 : b = (1 : Int32)
  · refine ⟨mv_oN (mv_AN (I 148) C c D), h0, I, I, ?_, rfl, rfl, fin _ rfl (mv_lk0 hI) (Or.inr h2), mv_lk0 hI⟩
    unfold F_X6_arrival J_X6_arrival_24 J_X6_arrival_55
    rw [xo_g0 hS, ro_rc hR, ev_bd (ro_bundleAt hR hW hV hc), ev_f (by simp), ev_f h1, ev_t h2, ev_f h1, xo_g5 hS, xo_g0 hS, fo_rc hF, ev_bd (fo_byHands hR hW hV hc (by omega))]
    rfl
  · refine ⟨mv_n1, h0, I, I, ?_, rfl, rfl, ?_, mv_lk0 hI⟩
    · unfold F_X6_arrival J_X6_arrival_22
      rw [xo_g0 hS, ro_rc hR, ev_bd (ro_bundleAt hR hW hV hc), ev_f (by simp), ev_f h1, ev_f h2]
      rfl
    · have hb' : (if b < nI 0 then nI 0 else if nI 1 < b then nI 0 else nI 1) = nI 0 := by
        refine mv_in_no2 (n := 1) (by omega) ?_
        rcases mv_ix b (n := 1 + 1) (by omega) with h | ⟨k, hk, rfl⟩
        · exact h
        · rcases (show k = 0 ∨ k = 1 by omega) with rfl | rfl
          · exact absurd rfl h1
          · exact absurd rfl h2
      unfold F_X7_arrival J_X7_arrival_28 J_X7_arrival_29
      rw [mo_rc hM, mo_isB' hM e4, mv_in_yes hc (by omega), ev_f mv_z1, li0, li1, mo_in', hb', ev_t rfl]
      rfl
/-- the first day with p, of n from d on -/
def mv_first (p : Nat → Bool) : Nat → Nat → Int32
  | 0, _ => mv_n4
  | n + 1, d => if p d then nI d else mv_first p n (d + 1)
def mv_me (v : Nat → Int32) (a b : Nat) (z : Int32) (d : Nat) : Bool := !decide (mv_tw v a d < nI 0) && (decide (mv_tw v a d = mv_tw v b d) && (decide (z = 0) || decide (mv_tw v a d = mv_sw v d)))
theorem ag_16 : mv_Ag_16 mv_Inv := by
  intro a b z hz
  refine mv_A1_of (fun j h0 I hj hI => ?_)
  obtain ⟨D, C, B, hD, hDj, hS, hV, hP, hW⟩ := mv_un hj hI
  have hM := hS.2.1
  have hR := xo_R1 hS
  have hC4 := hV.2.2.2.1
  have hVC := hV.2.2.2.2.2.2.1
  have e3 := hV.2.1
  have e0 := hV.1
  rcases mv_ix a (n := C) (by omega) with ha | ⟨c, hc, rfl⟩
  · refine ⟨mv_n1, h0, I, I, ?_, rfl, rfl, ?_, mv_lk0 hI⟩
    · unfold F_X6_meeting J_X6_meeting_27
      rw [xo_g0 hS, ro_rc hR, ro_hasNo' hR hW hV ha, ev_t mv_z0]; rfl
    · unfold F_X7_meeting J_X7_meeting_21
      rw [mo_rc hM, mo_isC' hM e3, mv_in_no (by omega) ha, ev_t mv_z0]; rfl
  rcases mv_ix b (n := C) (by omega) with hb | ⟨c', hc', rfl⟩
  · refine ⟨mv_n1, h0, I, I, ?_, rfl, rfl, ?_, mv_lk0 hI⟩
    · unfold F_X6_meeting J_X6_meeting_27
      rw [xo_g0 hS, ro_rc hR, ro_has' hR hW hV hc, ev_f mv_z1, xo_g0 hS, ro_rc hR, ro_hasNo' hR hW hV hb, ev_t mv_z0]; rfl
    · unfold F_X7_meeting J_X7_meeting_21
      rw [mo_rc hM, mo_isC' hM e3, mv_in_yes hc (by omega), ev_f mv_z1, mo_rc hM, mo_isC' hM e3, mv_in_no (by omega) hb, ev_t mv_z0]; rfl
  by_cases hcc : nI c = nI c'
  · refine ⟨mv_n1, h0, I, I, ?_, rfl, rfl, ?_, mv_lk0 hI⟩
    · unfold F_X6_meeting J_X6_meeting_27
      rw [xo_g0 hS, ro_rc hR, ro_has' hR hW hV hc, ev_f mv_z1, xo_g0 hS, ro_rc hR, ro_has' hR hW hV hc', ev_f mv_z1, ev_t hcc]; rfl
    · unfold F_X7_meeting J_X7_meeting_21
      rw [mo_rc hM, mo_isC' hM e3, mv_in_yes hc (by omega), ev_f mv_z1, mo_rc hM, mo_isC' hM e3, mv_in_yes hc' (by omega), ev_f mv_z1, ev_t hcc]; rfl
  have hsw : ∀ d, ∃ t, t ≤ 6 ∧ mv_sw (I 148) d = nI t := fun d => mv_sw_t hV d
  refine ⟨mv_first (mv_me (I 148) c c' z) 30 (D + 1), h0, I, I, ?_, rfl, rfl, ?_, mv_lk0 hI⟩
  · have loop : ∀ (k n q : Nat), q + k = 30 → k < n → Lp_X6_meeting_32 0 (nI c) (nI c') z n (nI (q + 1)) (mv_hp h0 I) = some (mv_first (mv_me (I 148) c c' z) k (D + q + 1), mv_hp h0 I) := by
      intro k
      induction k with
      | zero =>
        intro n q hq hn
        obtain ⟨n, rfl⟩ := Nat.exists_eq_succ_of_ne_zero (show n ≠ 0 by omega)
        have hq' : q = 30 := by omega
        subst hq'
        rw [Lp_X6_meeting_32, ev_t (by decide)]
        rfl
      | succ k ih =>
        intro n q hq hn
        obtain ⟨n, rfl⟩ := Nat.exists_eq_succ_of_ne_zero (show n ≠ 0 by omega)
        have nx := ih n (q + 1) (by omega) (by omega)
        rw [show D + (q + 1) + 1 = D + q + 1 + 1 by omega] at nx
        have no : mv_me (I 148) c c' z (D + q + 1) = false → J_X6_meeting_117 (Lp_X6_meeting_32 0 (nI c) (nI c') z n) 0 (nI c) (nI c') z (nI (q + 1)) (mv_hp h0 I) = some (mv_first (mv_me (I 148) c c' z) (k + 1) (D + q + 1), mv_hp h0 I) := by
          intro h
          unfold J_X6_meeting_117
          rw [mv_first, if_neg (by rw [h]; decide), li1, nI_add]
          exact nx
        have yes : mv_me (I 148) c c' z (D + q + 1) = true → J_X6_meeting_114 0 (nI (D + q + 1)) (mv_hp h0 I) = some (mv_first (mv_me (I 148) c c' z) (k + 1) (D + q + 1), mv_hp h0 I) := by
          intro h
          unfold J_X6_meeting_114
          rw [mv_first, if_pos h]
          rfl
        have hn0 : ∀ t : Nat, t ≤ 6 → ¬ nI t < nI 0 := fun t ht => nI_nlt (Nat.zero_le _) (by omega)
        rw [Lp_X6_meeting_32, li30, ev_f (nI_nlt (by omega) (by omega)), xo_g0 hS, ro_gI hR, hW.1.2.2.1, e0, nI_add, ev_bpu, show D + (q + 1) = D + q + 1 by omega, xo_g0 hS, ro_rc hR, ro_townOf' hR hW hV (by omega) (by omega), li1, lin1]
        rcases mv_tw_tc hV hc (D + q + 1) with ⟨q1, q2⟩ | ⟨t, t0, q1, q2⟩
        · rw [q1, ev_t rfl]
          unfold J_X6_meeting_88 J_X6_meeting_89
          rw [ev_t rfl]
          exact no (by unfold mv_me; rw [q2]; rfl)
        · rw [q1, ev_f (mv_n1_ne (by omega)), xo_g0 hS, ro_rc hR, ro_townOf' hR hW hV (by omega) (by omega)]
          have hiff : nI t = mv_tc (I 148) C c' (D + q + 1) ↔ nI t = mv_tw (I 148) c' (D + q + 1) := by
            rcases mv_tw_tc hV hc' (D + q + 1) with ⟨p1, p2⟩ | ⟨t', t1, p1, p2⟩
            · rw [p1, p2]; exact ⟨fun x => absurd x (mv_n1_ne (by omega)), fun x => absurd x (mv_n4_ne (by omega))⟩
            · rw [p1, p2]
          unfold J_X6_meeting_88 J_X6_meeting_89
          by_cases q3 : nI t = mv_tc (I 148) C c' (D + q + 1)
          · rw [ev_t q3, ev_f (by decide)]
            have q3' := hiff.mp q3
            by_cases q4 : z = 0
            · rw [ev_t q4]
              exact yes (by unfold mv_me; rw [q2]; simp [hn0 t (by omega), ← q3', q4])
            · rw [ev_f q4, xo_g0 hS, ro_rc hR, ro_stallOn' hR hW (by omega)]
              by_cases q5 : nI t = mv_sw (I 148) (D + q + 1)
              · rw [ev_t q5]
                exact yes (by unfold mv_me; rw [q2]; simp [hn0 t (by omega), ← q3', ← q5])
              · rw [ev_f q5]
                exact no (by unfold mv_me; rw [q2]; simp [q4, q5])
          · rw [ev_f q3, ev_t rfl]
            have q6 : ¬ nI t = mv_tw (I 148) c' (D + q + 1) := fun x => q3 (hiff.mpr x)
            exact no (by unfold mv_me; rw [q2]; simp [q6])
    unfold F_X6_meeting
    rw [xo_g0 hS, ro_rc hR, ro_has' hR hW hV hc, ev_f mv_z1, xo_g0 hS, ro_rc hR, ro_has' hR hW hV hc', ev_f mv_z1, ev_f hcc]
    exact loop 30 mv_FU 0 (by omega) (by decide)
  · have loop : ∀ (k n : Nat), k ≤ 30 → k < n → Lp_X7_meeting_38 147 (nI c) (nI c') z n (mv_first (mv_me (I 148) c c' z) (30 - k) (D + k + 1)) (nI (D + k)) (mv_hp h0 I) = some (mv_first (mv_me (I 148) c c' z) 30 (D + 1), mv_hp h0 I) := by
      intro k
      induction k with
      | zero =>
        intro n hk hn
        obtain ⟨n, rfl⟩ := Nat.exists_eq_succ_of_ne_zero (show n ≠ 0 by omega)
        rw [Lp_X7_meeting_38, mo_g0 hM, li0, mo_r148 hM (by omega), e0, ev_t (nI_le (by omega) (by omega))]
        rfl
      | succ k ih =>
        intro n hk hn
        obtain ⟨n, rfl⟩ := Nat.exists_eq_succ_of_ne_zero (show n ≠ 0 by omega)
        have nx := ih n (by omega) (by omega)
        have hdec : nI (D + (k + 1)) + (-1 : Int32) = nI (D + k) := mv_dec (a := D + k)
        have h30 : 30 - k = (30 - (k + 1)) + 1 := by omega
        rw [h30, mv_first] at nx
        have no : mv_me (I 148) c c' z (D + k + 1) = false → J_X7_meeting_94 (Lp_X7_meeting_38 147 (nI c) (nI c') z n) 147 (nI c) (nI c') z (mv_first (mv_me (I 148) c c' z) (30 - (k + 1)) (D + k + 1 + 1)) (nI (D + (k + 1))) (mv_hp h0 I) = some (mv_first (mv_me (I 148) c c' z) 30 (D + 1), mv_hp h0 I) := by
          intro h
          rw [h] at nx
          unfold J_X7_meeting_94 J_X7_meeting_95 J_X7_meeting_109
          rw [ev_t rfl, hdec]
          exact nx
        have yes : mv_me (I 148) c c' z (D + k + 1) = true → J_X7_meeting_90 (Lp_X7_meeting_38 147 (nI c) (nI c') z n) 147 (nI c) (nI c') z (mv_first (mv_me (I 148) c c' z) (30 - (k + 1)) (D + k + 1 + 1)) (nI (D + (k + 1))) (mv_hp h0 I) = some (mv_first (mv_me (I 148) c c' z) 30 (D + 1), mv_hp h0 I) := by
          intro h
          rw [h] at nx
          unfold J_X7_meeting_90 J_X7_meeting_95 J_X7_meeting_109
          rw [ev_f (by decide), hdec]
          exact nx
        have hn0 : ∀ t : Nat, t ≤ 6 → ¬ nI t < nI 0 := fun t ht => nI_nlt (Nat.zero_le _) (by omega)
        rw [show D + (k + 1) + 1 = D + k + 1 + 1 by omega, Lp_X7_meeting_38, mo_g0 hM, li0, mo_r148 hM (by omega), e0, ev_f (nI_ge (by omega) (by omega)), mo_rc hM, mo_townOf' hM hVC hC4 hc (by omega)]
        rw [show mv_tw (I 148) c (D + (k + 1)) = mv_tw (I 148) c (D + k + 1) from rfl]
        by_cases q1 : mv_tw (I 148) c (D + k + 1) < nI 0
        · rw [ev_t q1]
          exact no (by unfold mv_me; simp [q1])
        · rw [ev_f q1, mo_rc hM, mo_townOf' hM hVC hC4 hc' (by omega), show mv_tw (I 148) c' (D + (k + 1)) = mv_tw (I 148) c' (D + k + 1) from rfl]
          by_cases q2 : mv_tw (I 148) c (D + k + 1) = mv_tw (I 148) c' (D + k + 1)
          · rw [ev_t q2]
            by_cases q3 : z = nI 0
            · rw [ev_t q3]
              exact yes (by unfold mv_me; simp [← q2, show z = 0 from q3]; exact Int32.not_lt.mp q1)
            · rw [ev_f q3, mo_rc hM, mo_stallOn' hM (by omega), show mv_sw (I 148) (D + (k + 1)) = mv_sw (I 148) (D + k + 1) from rfl]
              by_cases q4 : mv_tw (I 148) c (D + k + 1) = mv_sw (I 148) (D + k + 1)
              · rw [ev_t q4]
                exact yes (by unfold mv_me; rw [← q2, ← q4]; simp [q1])
              · rw [ev_f q4]
                exact no (by unfold mv_me; simp [show ¬ z = 0 from q3, q4])
          · rw [ev_f q2]
            exact no (by unfold mv_me; simp [q2])
    unfold F_X7_meeting
    rw [mo_rc hM, mo_isC' hM e3, mv_in_yes hc (by omega), ev_f mv_z1, mo_rc hM, mo_isC' hM e3, mv_in_yes hc' (by omega), ev_f mv_z1, ev_f hcc, mo_g0 hM, li0, mo_r148 hM (by omega), e0, li30, nI_add, ev_bpu, li4, lin4]
    exact loop 30 mv_FU (by omega) (by decide)
