def mv_cl (S c : Nat) : Nat := S &&& (15 - 2 ^ c)
theorem mv_clr {S c : Nat} (hS : S < 16) (hc : c < 4) : nI S &&& (((1 : Int32) <<< (nI c &&& 31)) ^^^ (-1 : Int32)) = nI (mv_cl S c) := by
  have h : ∀ (S : Fin 16) (c : Fin 4), nI S.1 &&& (((1 : Int32) <<< (nI c.1 &&& 31)) ^^^ (-1 : Int32)) = nI (mv_cl S.1 c.1) := by decide +kernel
  exact h ⟨S, hS⟩ ⟨c, hc⟩
theorem mv_cl_lt {S c : Nat} (hS : S < 16) : mv_cl S c < 16 := Nat.lt_of_le_of_lt Nat.and_le_left hS
theorem mv_cl_bit {S c : Nat} (hS : S < 16) (hc : c < 4) (k : Nat) : (mv_cl S c).testBit k = true ↔ (S.testBit k = true ∧ k ≠ c) := by
  have h : ∀ (S : Fin 16) (c k : Fin 4), ((mv_cl S.1 c.1).testBit k.1 = true ↔ (S.1.testBit k.1 = true ∧ k.1 ≠ c.1)) := by decide +kernel
  by_cases hk : k < 4
  · exact h ⟨S, hS⟩ ⟨c, hc⟩ ⟨k, hk⟩
  · constructor
    · intro z; exact absurd (mv_bit4 (mv_cl_lt hS) z) hk
    · rintro ⟨z, -⟩; exact absurd (mv_bit4 hS z) hk
section T1
variable {β : Type} {h0 : mv_Hp} {I : Nat → Nat → Int32} {r C B D : Nat} {v : Nat → Int32}
theorem ro_takLoop (hR : mv_RS h0 r) (hW : mv_RV h0 I r v C B) (hV : mv_VV v C B D) {b S : Nat} (hb : b < B) (hS : S < 16) : ∃ T, Lp_X5_takersOf_65 r (some (mv_bi h0 r b)) mv_FU (nI S) (nI 0) (mv_hp h0 I) = some (nI T, mv_hp h0 I) ∧ T < 16 ∧ ∀ k, T.testBit k = true ↔ (S.testBit k = true ∧ ¬ (k < C ∧ (nI k = mv_dn (v (64 + 8 * b + 2)) ∨ v 1 ≤ mv_hs v B k))) := by
  have hB8 := hV.2.2.2.2.1
  have hC4 := hV.2.2.2.1
  have hW' := hW.2.2.2 b hb
  obtain ⟨n, T, e1, hT, h2⟩ := mv_lp (L := fun n c (s : Nat) => Lp_X5_takersOf_65 r (some (mv_bi h0 r b)) n (nI s) (nI c) (mv_hp h0 I)) (fun c T => T < 16 ∧ ∀ k, T.testBit k = true ↔ (S.testBit k = true ∧ ¬ (k < c ∧ (nI k = mv_dn (v (64 + 8 * b + 2)) ∨ v 1 ≤ mv_hs v B k)))) C (by omega)
    (fun n c T hc hP => by
      obtain ⟨p1, p2⟩ := hP
      have stay : ¬ (nI c = mv_dn (v (64 + 8 * b + 2)) ∨ v 1 ≤ mv_hs v B c) → ∀ k, T.testBit k = true ↔ (S.testBit k = true ∧ ¬ (k < c + 1 ∧ (nI k = mv_dn (v (64 + 8 * b + 2)) ∨ v 1 ≤ mv_hs v B k))) := by
        intro no k
        rw [p2 k]
        constructor
        · rintro ⟨z1, z2⟩
          refine ⟨z1, fun z3 => ?_⟩
          by_cases e : k = c
          · subst e; exact no z3.2
          · exact z2 ⟨by omega, z3.2⟩
        · rintro ⟨z1, z2⟩
          exact ⟨z1, fun z3 => z2 ⟨by omega, z3.2⟩⟩
      have clear : (nI c = mv_dn (v (64 + 8 * b + 2)) ∨ v 1 ≤ mv_hs v B c) → ∀ k, (mv_cl T c).testBit k = true ↔ (S.testBit k = true ∧ ¬ (k < c + 1 ∧ (nI k = mv_dn (v (64 + 8 * b + 2)) ∨ v 1 ≤ mv_hs v B k))) := by
        intro yes k
        rw [mv_cl_bit p1 (by omega), p2 k]
        constructor
        · rintro ⟨⟨z1, z2⟩, z4⟩
          exact ⟨z1, fun z3 => z2 ⟨by omega, z3.2⟩⟩
        · rintro ⟨z1, z2⟩
          refine ⟨⟨z1, fun z3 => z2 ⟨by omega, z3.2⟩⟩, fun e => ?_⟩
          subst e
          exact z2 ⟨by omega, yes⟩
      rw [Lp_X5_takersOf_65]
      unfold J_X5_takersOf_92 J_X5_takersOf_101
      rw [ro_gI hR, hW.1.1, hV.2.1, ev_f (nI_ge hc (by omega)), ro_bI hR (by omega), hW'.2.2.1, mv_clr p1 (by omega)]
      by_cases q1 : nI c = mv_dn (v (64 + 8 * b + 2))
      · rw [ev_t q1, ev_bpu, li1, nI_add]
        exact ⟨mv_cl T c, rfl, mv_cl_lt p1, clear (Or.inl q1)⟩
      · rw [ev_f q1, ro_rc hR, ro_isFull' hR hW hV (by omega)]
        unfold mv_ful
        by_cases q2 : mv_hs v B c < v 1
        · rw [if_pos q2, ev_t (show nI 0 = (0 : Int32) from rfl), li1, nI_add]
          exact ⟨T, rfl, p1, stay (fun z => z.elim q1 (fun z => Int32.not_le.mpr q2 z))⟩
        · rw [if_neg q2, ev_f (by decide), ev_bpu, li1, nI_add]
          exact ⟨mv_cl T c, rfl, mv_cl_lt p1, clear (Or.inr (Int32.not_lt.mp q2))⟩)
    S ⟨hS, fun k => ⟨fun z => ⟨z, fun y => by omega⟩, fun z => z.1⟩⟩
  refine ⟨T, ?_, hT, h2⟩
  rw [e1, Lp_X5_takersOf_65, ro_gI hR, hW.1.1, hV.2.1, ev_t (nI_le (Nat.le_refl _) (by omega))]
  rfl
theorem ro_takers (hR : mv_RS h0 r) (hW : mv_RV h0 I r v C B) (hV : mv_VV v C B D) (hD : D < 90000) {b : Nat} (hb : b < B) (ha : v (64 + 8 * b + 3) = nI 0) : ∃ T, F_X5_takersOf r (some (mv_bi h0 r b)) (mv_hp h0 I) = some (nI T, mv_hp h0 I) ∧ T < 16 ∧ ∀ c, T.testBit c = true ↔ (c < C ∧ mv_cn v C B b D c = true) := by
  obtain ⟨⟨t, t1, t2⟩, ⟨l, w, a, q1, q2, q3, q4, q5, q6, q7⟩, -⟩ := hV.2.2.2.2.2.2.2 b hb
  have hB8 := hV.2.2.2.2.1
  have hC4 := hV.2.2.2.1
  have hW' := hW.2.2.2 b hb
  have ha0 : a = 0 := (mv_eq (by omega) (by omega)).mp (q6.symm.trans ha)
  have j52 : ∀ p : Int32, mv_ok p → (∀ k, (mv_tb v C p D).testBit k = true ↔ (mv_gs v C b D).testBit k = true) → (∀ k, k < C → (nI k = mv_dn (v (64 + 8 * b + 2)) ↔ nI k = v (64 + 8 * b + 2) - nI 1)) → ∃ T, J_X5_takersOf_52 r (some (mv_bi h0 r b)) p (mv_hp h0 I) = some (nI T, mv_hp h0 I) ∧ T < 16 ∧ ∀ c, T.testBit c = true ↔ (c < C ∧ mv_cn v C B b D c = true) := by
    intro p hp h1 h2
    obtain ⟨T, e1, e2, e3⟩ := ro_takLoop hR hW hV hb (mv_tb_lt (v := v) (D := D) (t := p) hC4)
    refine ⟨T, ?_, e2, fun c => ?_⟩
    · unfold J_X5_takersOf_52
      rw [ro_gI hR, hW.1.2.2.1, hV.1, ro_rc hR, ro_carriersIn' hR hW hV (by omega), mv_tbc_tb hp, li0, e1]
    · rw [e3 c]
      unfold mv_cn
      rw [Bool.and_eq_true, Bool.and_eq_true, Bool.not_eq_true', Bool.not_eq_true', decide_eq_false_iff_not, decide_eq_false_iff_not, ← h1 c]
      constructor
      · rintro ⟨z1, z2⟩
        have hcC : c < C := ((mv_tc_tw hp).mp ((mv_tb_test hp).mp z1)).1
        exact ⟨hcC, z1, fun y => z2 ⟨hcC, Or.inl ((h2 c hcC).mpr y)⟩, fun y => z2 ⟨hcC, Or.inr y⟩⟩
      · rintro ⟨z1, z2, z3, z4⟩
        exact ⟨z2, fun y => y.2.elim (fun y => z3 ((h2 c z1).mp y)) z4⟩
  unfold F_X5_takersOf
  rw [ro_bI hR (by omega), hW'.2.1, q4, li4, lin4]
  by_cases hw : w = 0
  · subst hw
    obtain ⟨l, rfl⟩ := Nat.exists_eq_succ_of_ne_zero (show l ≠ 0 by omega)
    have e6 : v (64 + 8 * b + 2) - nI 1 = mv_n1 := by rw [q5]; decide
    have hg : mv_gs v C b D = mv_tb v C (nI l) D := by
      unfold mv_gs mv_hr
      rw [e6, if_pos (by decide), if_neg (by decide), q4, pk_sub (by omega)]
      rfl
    rw [ev_f (fun z => by have := (mv_dn_n4 (by omega)).mp z; omega), ro_bI hR (by omega), hW'.2.1, q4, mv_dns (by omega)]
    unfold J_X5_takersOf_24
    rw [ro_bI hR (by omega), hW'.2.2.1, q5, li4, lin4, ev_t mv_dn0]
    refine j52 (nI l) (mv_ok_nI (by omega)) (fun k => by rw [hg]) (fun k hk => ?_)
    rw [e6, q5, mv_dn0]
    exact ⟨fun z => absurd z (mv_n4_ne (by omega)), fun z => absurd z (mv_n1_ne (by omega))⟩
  · obtain ⟨w, rfl⟩ := Nat.exists_eq_succ_of_ne_zero hw
    have hl : l = 0 := by omega
    subst hl
    have e6 : v (64 + 8 * b + 2) - nI 1 = nI w := by rw [q5, pk_sub (by omega)]; rfl
    have e7 : (v (64 + 8 * b + 2)).toNatClampNeg - 1 = w := by rw [q5, nI_clamp (by omega)]; rfl
    have n0 : ¬ nI w < nI 0 := nI_nlt (Nat.zero_le _) (by omega)
    have hh : mv_hr v b D = mv_tw v w D := by unfold mv_hr; rw [e6, e7, if_pos (nI_le (Nat.zero_le _) (by omega))]
    obtain ⟨s, hs6, hs⟩ := mv_sw_t hV D
    have hgs : mv_gs v C b D = if mv_tc v C w D = mv_sw v D then mv_tb v C (mv_sw v D) D else 0 := by
      unfold mv_gs
      rw [hh, e6, if_neg n0]
      by_cases z : mv_tc v C w D = mv_sw v D
      · have z2 := ((mv_tc_tw (mv_sw_ok hV D)).mp z).2
        rw [if_pos z, z2, hs, if_neg (nI_nlt (Nat.zero_le _) (by omega)), if_pos rfl]
      · rw [if_neg z]
        by_cases y : mv_tw v w D < nI 0
        · rw [if_pos y]
        · rw [if_neg y, if_neg (fun x => z ((mv_tc_tw (mv_sw_ok hV D)).mpr ⟨by omega, x⟩))]
    rw [ev_t mv_dn0, ro_gI hR, hW.1.2.2.1, hV.1, ro_rc hR, ro_stallOn' hR hW (by omega)]
    unfold J_X5_takersOf_24
    rw [ro_bI hR (by omega), hW'.2.2.1, q5, mv_dns (by omega), li4, lin4, ev_f (mv_n4_ne (by omega)), ro_bI hR (by omega), hW'.2.2.1, q5, mv_dns (by omega), ro_gI hR, hW.1.2.2.1, hV.1, ro_rc hR, ro_townOf' hR hW hV (by omega) (by omega)]
    by_cases z : mv_tc v C w D = mv_sw v D
    · rw [ev_t z]
      refine j52 (mv_sw v D) (mv_sw_ok hV D) (fun k => by rw [hgs, if_pos z]) (fun k hk => ?_)
      rw [e6, q5, mv_dns (by omega)]
    · rw [ev_f z]
      refine ⟨0, rfl, by omega, fun c => ?_⟩
      unfold mv_cn
      rw [hgs, if_neg z]
      simp
theorem mv_chg_eq {b c : Nat} (hc : c < 4) : mv_ch1 v b c = mv_vu (mv_vu (mv_vu (mv_vu (mv_vu (mv_vu v (64 + 8 * b + 1) (nI 0)) (64 + 8 * b + 2) (nI (c + 1))) (64 + 8 * b + 6) (v (64 + 8 * b + 6) + nI 1)) (16 + 12 * c + 10) (v (16 + 12 * c + 10) + nI 1)) 8 (v 8 + nI 1)) 2 (mv_lo v) := by
  unfold mv_ch1
  rw [mv_vu_comm (k := 8) (j := 16 + 12 * c + 10) (by omega)]
theorem st_b (hR : mv_RS h0 r) (hC : C ≤ 4) (hB : B ≤ 8) (hW : mv_RV h0 I r v C B) {b : Nat} (hb : b < B) (k : Nat) (x y : Int32) (hk : k < 8) (hx : x = if 1 ≤ k ∧ k ≤ 3 then mv_dn y else y) : ∃ I1, (∀ (β : Type) (g : Unit → mv_M β), mv_bd (mv_sI 0 8 k (some (mv_bi h0 r b)) x) g (mv_hp h0 I) = g () (mv_hp h0 I1)) ∧ mv_RV h0 I1 r (mv_vu v (64 + 8 * b + k) y) C B ∧ mv_fr r I I1 := by
  obtain ⟨-, z1, z2, -⟩ := hR.2.2.2.2.2.2.2.2.1 b (by omega)
  exact ⟨_, fun β g => ro_bS hR (by omega), mv_RV_b hR hC hB hb hk hx hW, mv_fr_si (by omega) (by omega)⟩
theorem st_bZ (hR : mv_RS h0 r) (hC : C ≤ 4) (hB : B ≤ 8) (hW : mv_RV h0 I r v C B) {b : Nat} (hb : b < B) (x : Int32) (hx : x = 0 ∨ x = 1) : ∃ I1, (∀ (β : Type) (g : Unit → mv_M β), mv_bd (mv_sZ 0 8 5 (some (mv_bi h0 r b)) x) g (mv_hp h0 I) = g () (mv_hp h0 I1)) ∧ mv_RV h0 I1 r (mv_vu v (64 + 8 * b + 5) x) C B ∧ mv_fr r I I1 := by
  obtain ⟨-, z1, z2, -⟩ := hR.2.2.2.2.2.2.2.2.1 b (by omega)
  exact ⟨_, fun β g => ro_bZ hR (by omega) hx, mv_RV_b hR hC hB hb (by omega) (by rw [if_neg (by omega)]) hW, mv_fr_si (by omega) (by omega)⟩
theorem st_c (hR : mv_RS h0 r) (hC : C ≤ 4) (hB : B ≤ 8) (hW : mv_RV h0 I r v C B) {c : Nat} (hc : c < C) (k : Nat) (x : Int32) (hk : 2 ≤ k ∧ k < 6) : ∃ I1, (∀ (β : Type) (g : Unit → mv_M β), mv_bd (mv_sI 1 6 k (some (r + 4 + 2 * c)) x) g (mv_hp h0 I) = g () (mv_hp h0 I1)) ∧ mv_RV h0 I1 r (mv_vu v (16 + 12 * c + (k + 6)) x) C B ∧ mv_fr r I I1 :=
  ⟨_, fun β g => ro_cS hR (by omega), mv_RV_c hR hC hB hc hk hW, mv_fr_si (by omega) (by omega)⟩
theorem st_r (hR : mv_RS h0 r) (hB : B ≤ 8) (hW : mv_RV h0 I r v C B) (k p : Nat) (x : Int32) (hk : (k = 3 ∧ p = 3) ∨ (k = 4 ∧ p = 4) ∨ (k = 5 ∧ p = 0) ∨ (k = 6 ∧ p = 1) ∨ (k = 7 ∧ p = 2) ∨ (k = 8 ∧ p = 5) ∨ (k = 9 ∧ p = 6) ∨ (k = 10 ∧ p = 7) ∨ (k = 11 ∧ p = 8)) : ∃ I1, (∀ (β : Type) (g : Unit → mv_M β), mv_bd (mv_sI 5 12 k (some r) x) g (mv_hp h0 I) = g () (mv_hp h0 I1)) ∧ mv_RV h0 I1 r (mv_vu v p x) C B ∧ mv_fr r I I1 :=
  ⟨_, fun β g => ro_sI hR, mv_RV_r hR hB hk hW, mv_fr_si (by omega) (by omega)⟩
theorem ro_chg (hR : mv_RS h0 r) (hW : mv_RV h0 I r v C B) (hV : mv_VV v C B D) {b c : Nat} (hb : b < B) (hc : c < C) : ∃ I', F_X5_changeHands r (some (mv_bi h0 r b)) (nI c) (mv_hp h0 I) = some ((), mv_hp h0 I') ∧ mv_RV h0 I' r (mv_chg v b c) C B ∧ mv_fr r I I' := by
  have hB8 := hV.2.2.2.2.1
  have hC4 := hV.2.2.2.1
  obtain ⟨I1, e1, W1, F1⟩ := st_b hR hC4 hB8 hW hb 1 mv_n4 (nI 0) (by omega) (by rw [if_pos (by omega)]; rfl)
  obtain ⟨I2, e2, W2, F2⟩ := st_b hR hC4 hB8 W1 hb 2 (nI c) (nI (c + 1)) (by omega) (by rw [if_pos (by omega), mv_dns (by omega)])
  obtain ⟨I3, e3, W3, F3⟩ := st_b hR hC4 hB8 W2 hb 6 (v (64 + 8 * b + 6) + nI 1) _ (by omega) (by rw [if_neg (by omega)])
  obtain ⟨I4, e4, W4, F4⟩ := st_c hR hC4 hB8 W3 hc 4 (v (16 + 12 * c + 10) + nI 1) (by omega)
  obtain ⟨I5, e5, W5, F5⟩ := st_r hR hB8 W4 11 8 (v 8 + nI 1) (by omega)
  obtain ⟨I6, e6, W6, F6⟩ := st_r hR hB8 W5 7 2 (mv_lo v) (by omega)
  rw [← mv_chg_eq (by omega)] at W6
  have F := mv_fr_trans (mv_fr_trans (mv_fr_trans (mv_fr_trans (mv_fr_trans F1 F2) F3) F4) F5) F6
  have r1 : I2 (mv_bi h0 r b) 6 = v (64 + 8 * b + 6) := by rw [(W2.2.2.2 b hb).2.2.2.2.2.2.1, mv_vu_ne (by omega), mv_vu_ne (by omega)]
  have r2 : I3 (r + 4 + 2 * c) 4 = v (16 + 12 * c + 10) := by rw [(W3.2.2.1 c hc).2.2.2.1, mv_vu_ne (by omega), mv_vu_ne (by omega), mv_vu_ne (by omega)]
  have r3 : I4 r 11 = v 8 := by rw [W4.1.2.2.2.2.2.2.2.2, mv_vu_ne (by omega), mv_vu_ne (by omega), mv_vu_ne (by omega), mv_vu_ne (by omega)]
  have r4 : I5 r 7 = v 2 := by rw [W5.1.2.2.2.2.1, mv_vu_ne (by omega), mv_vu_ne (by omega), mv_vu_ne (by omega), mv_vu_ne (by omega), mv_vu_ne (by omega)]
  have r5 : I6 r 7 = mv_lo v := by rw [W6.1.2.2.2.2.1]; unfold mv_ch1; rw [mv_vu_eq]
  have r6 : I6 (r + 4 + 2 * c) 2 = v (16 + 12 * c + 8) := by rw [(W6.2.2.1 c hc).2.1]; unfold mv_ch1; rw [mv_vu_ne (by omega), mv_vu_ne (by omega), mv_vu_ne (by omega), mv_vu_ne (by omega), mv_vu_ne (by omega), mv_vu_ne (by omega)]
  have r7 : I6 (mv_bi h0 r b) 5 = v (64 + 8 * b + 5) := by rw [(W6.2.2.2 b hb).2.2.2.2.2.1]; unfold mv_ch1; rw [mv_vu_ne (by omega), mv_vu_ne (by omega), mv_vu_ne (by omega), mv_vu_ne (by omega), mv_vu_ne (by omega), mv_vu_ne (by omega)]
  unfold F_X5_changeHands J_X5_changeHands_108
  rw [ro_rc hR, ro_carrierAt' hR hW hV hc, ev_f (by simp), li4, lin4, e1, e2, ro_bI hR (by omega), r1, li1, e3, ro_cI hR (by omega), r2, e4, ro_gI hR, r3, e5, ro_gI hR, r4, li421, li1663, li10000, ev_rmc (by omega) (by omega), show mv_rem (nI 421 * v 2 + nI 1663) (nI 10000) = mv_lo v from rfl, e6, ro_gI hR, r5, li10, ev_rmc (by omega) (by omega), ro_cI hR (by omega), r6]
  unfold mv_chg
  by_cases q1 : v (16 + 12 * c + 8) ≤ mv_rem (mv_lo v) (nI 10)
  · rw [ev_t q1, if_pos q1]
    exact ⟨I6, rfl, W6, F⟩
  · rw [ev_f q1, if_neg q1, ro_bI hR (by omega), r7]
    by_cases q2 : v (64 + 8 * b + 5) = nI 0
    · obtain ⟨I7, e7, W7, F7⟩ := st_bZ hR hC4 hB8 W6 hb (nI 1) (Or.inr rfl)
      have r8 : I7 (r + 4 + 2 * c) 5 = mv_ch1 v b c (16 + 12 * c + 11) := by rw [(W7.2.2.1 c hc).2.2.2.2.1, mv_vu_ne (by omega)]
      have r9 : mv_ch1 v b c (16 + 12 * c + 11) = v (16 + 12 * c + 11) := by unfold mv_ch1; rw [mv_vu_ne (by omega), mv_vu_ne (by omega), mv_vu_ne (by omega), mv_vu_ne (by omega), mv_vu_ne (by omega), mv_vu_ne (by omega)]
      obtain ⟨I8, e8, W8, F8⟩ := st_c hR hC4 hB8 W7 hc 5 (v (16 + 12 * c + 11) + nI 1) (by omega)
      rw [ev_t (show v (64 + 8 * b + 5) = 0 from q2), if_pos q2, e7, ro_cI hR (by omega), r8, r9, e8]
      exact ⟨I8, rfl, W8, mv_fr_trans (mv_fr_trans F F7) F8⟩
    · rw [ev_f (show ¬ v (64 + 8 * b + 5) = 0 from q2), if_neg q2]
      exact ⟨I6, rfl, W6, F⟩
/-- one bundle's day in the class -/
def mv_mo (v : Nat → Int32) (C B b D : Nat) : Nat → Int32 := if nI 0 ≤ v (64 + 8 * b + 2) - nI 1 ∧ mv_tw v ((v (64 + 8 * b + 2)).toNatClampNeg - 1) D = v (64 + 8 * b + 0) then mv_vu (mv_vu (mv_vu v (64 + 8 * b + 2) (nI 0)) (64 + 8 * b + 3) (nI (D + 1))) 6 (v 6 + nI 1) else mv_go v C B b D
theorem ro_move (hF : mv_FS h0) (hr : r + 20 ≤ 145) (hR : mv_RS h0 r) (hW : mv_RV h0 I r v C B) (hV : mv_VV v C B D) (hD : D < 90000) {b : Nat} (hb : b < B) (ha : v (64 + 8 * b + 3) = nI 0) : ∃ I', F_X5_moveOn r (some (mv_bi h0 r b)) (some 145) (mv_hp h0 I) = some ((), mv_hp h0 I') ∧ mv_RV h0 I' r (mv_mo v C B b D) C B ∧ mv_fr r I I' := by
  obtain ⟨⟨t, t1, t2⟩, ⟨l, w, a, q1, q2, q3, q4, q5, q6, q7⟩, -⟩ := hV.2.2.2.2.2.2.2 b hb
  have hB8 := hV.2.2.2.2.1
  have hC4 := hV.2.2.2.1
  have hW' := hW.2.2.2 b hb
  obtain ⟨T, eT, hT16, hT⟩ := ro_takers hR hW hV hD hb ha
  have rest : mv_go v C B b D = mv_mo v C B b D → ∃ I', (mv_bd (mv_rc 5 12 (some r)) fun i7 => mv_bd (F_X5_takersOf i7 (some (mv_bi h0 r b))) fun v6 => if v6 = 0 then mv_pu () else mv_bd (mv_rc 2 4 (some 145)) fun i9 => mv_bd (F_X2_bestTaker i9 (some r) (some (mv_bi h0 r b)) v6) fun v8 => if v8 = mv_n4 then J_X5_moveOn_78 r else mv_bd (mv_rc 5 12 (some r)) fun i10 => mv_bd (F_X5_changeHands i10 (some (mv_bi h0 r b)) v8) fun _ => J_X5_moveOn_78 r) (mv_hp h0 I) = some ((), mv_hp h0 I') ∧ mv_RV h0 I' r (mv_mo v C B b D) C B ∧ mv_fr r I I' := by
    intro hgo
    rw [← hgo, ro_rc hR, ev_bd eT]
    by_cases z : T = 0
    · subst z
      have hg : mv_go v C B b D = v := by
        unfold mv_go
        rw [← mv_bk_gl hC4 (by omega) hT]
        have : ∀ k s, mv_it (mv_bk 0 (mv_hd v C b D)) k 0 s = s := by
          intro k s
          induction k with
          | zero => rfl
          | succ k ih => rw [mv_it_last, ih]; unfold mv_bk; rw [if_neg (by simp)]
        rw [this]
      rw [ev_t (show nI 0 = (0 : Int32) from rfl), hg]
      exact ⟨I, rfl, hW, mv_fr_rfl⟩
    · obtain ⟨f, g, e⟩ := fo_best hF hr hR hW hV hb hD ha hT16 hT
      rw [ev_f (fun y => z ((mv_eq0 (by omega)).mp y)), fo_rc hF, ev_bd e]
      unfold mv_go J_X5_moveOn_78
      cases hg : (mv_gl v C B b D).1 with
      | none =>
        rw [show mv_ob none = mv_n4 from rfl, ev_t rfl]
        exact ⟨_, rfl, mv_RV_fo hr hR hC4 hB8 hW, mv_fr_fo⟩
      | some c =>
        have hcC := mv_gl_lt c hg
        obtain ⟨I', e2, W2, F2⟩ := ro_chg hR (mv_RV_fo (f := f) (g := g) hr hR hC4 hB8 hW) hV hb hcC
        rw [show mv_ob (some c) = nI c from rfl, ev_f (mv_n4_ne (by omega)), ro_rc hR, ev_bd e2]
        exact ⟨I', rfl, W2, mv_fr_trans mv_fr_fo F2⟩
  unfold F_X5_moveOn
  rw [ro_bI hR (by omega), hW'.2.2.1, q5, ro_gI hR, hW.1.2.2.1, hV.1, ro_rc hR]
  by_cases hw : w = 0
  · subst hw
    rw [mv_dn0, ro_townN, ro_bI hR (by omega), hW'.1, t2, ev_f (fun z => mv_n1_ne (by omega) z.symm), li4, lin4]
    exact rest (by unfold mv_mo; rw [q5, if_neg (fun z => absurd z.1 (by decide))])
  · obtain ⟨w, rfl⟩ := Nat.exists_eq_succ_of_ne_zero hw
    have e6 : v (64 + 8 * b + 2) - nI 1 = nI w := by rw [q5, pk_sub (by omega)]; rfl
    have e7 : (v (64 + 8 * b + 2)).toNatClampNeg - 1 = w := by rw [q5, nI_clamp (by omega)]; rfl
    have hto : mv_ok (v (64 + 8 * b + 0)) := by rw [t2]; exact mv_ok_nI (by omega)
    rw [mv_dns (by omega), ro_townOf' hR hW hV (by omega) (by omega), ro_bI hR (by omega), hW'.1]
    by_cases z : mv_tc v C w D = v (64 + 8 * b + 0)
    · have hmo : mv_mo v C B b D = mv_vu (mv_vu (mv_vu v (64 + 8 * b + 2) (nI 0)) (64 + 8 * b + 3) (nI (D + 1))) 6 (v 6 + nI 1) := by
        unfold mv_mo; rw [e6, e7, if_pos ⟨nI_le (Nat.zero_le _) (by omega), ((mv_tc_tw hto).mp z).2⟩]
      obtain ⟨I1, e1, W1, F1⟩ := st_b hR hC4 hB8 hW hb 2 mv_n4 (nI 0) (by omega) (by rw [if_pos (by omega)]; rfl)
      obtain ⟨I2, e2, W2, F2⟩ := st_b hR hC4 hB8 W1 hb 3 (nI D) (nI (D + 1)) (by omega) (by rw [if_pos (by omega), mv_dns (by omega)])
      obtain ⟨I3, e3, W3, F3⟩ := st_r hR hB8 W2 9 6 (v 6 + nI 1) (by omega)
      have r1 : I1 r 5 = nI D := by rw [W1.1.2.2.1, mv_vu_ne (by omega)]; exact hV.1
      have r2 : I2 r 9 = v 6 := by rw [W2.1.2.2.2.2.2.2.1, mv_vu_ne (by omega), mv_vu_ne (by omega)]
      rw [ev_t z, li4, lin4, e1, ro_gI hR, r1, e2, ro_gI hR, r2, li1, e3, hmo]
      exact ⟨I3, rfl, W3, mv_fr_trans (mv_fr_trans F1 F2) F3⟩
    · rw [ev_f z, li4, lin4]
      exact rest (by unfold mv_mo; rw [e6, e7, if_neg (fun y => z ((mv_tc_tw hto).mpr ⟨by omega, y.2⟩))])
end T1
