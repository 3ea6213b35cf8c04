theorem mv_look2 {j : Nat} {h0 : mv_Hp} {I J : Nat → Nat → Int32} (hI : mv_Inv j (mv_hp h0 I)) (hF : ∀ i, i < 147 → ¬ (21 ≤ i ∧ i < 41) → i ≠ 145 → i ≠ 146 → J i = I i) (h1 : ∀ k, k < 128 → J 148 k = I 148 k) (h2 : J 150 = I 150) (h3 : J 151 = I 151) (h4 : J 152 = I 152) (h5 : J 147 3 = I 147 3) (h6 : J 147 5 = I 147 5) (h7 : J 147 7 = I 147 7) : mv_Inv (j + 1) (mv_hp h0 J) := by
  obtain ⟨hs, L, M, z, hc, q1, q2, q3⟩ := hI
  refine ⟨hs, L, M, z, ?_, h5.trans q1, h6.trans q2, h7.trans q3⟩
  show mv_CI (j + 1) (mv_hp h0 J) J (J 148) L (J 150) z (J 151) M (J 152)
  rw [h2, h3, h4]
  obtain ⟨a1, a2, a3⟩ := mv_CI_rows (Nat.le_succ j) hF (mv_CI_of hc)
  exact mv_CI_hp ⟨a1, mv_OK_v (Nat.le_refl _) h1 a2, a3⟩
theorem mv_VV_w {v : Nat → Int32} {C B D w t : Nat} (hw : w < 7) (ht : t ≤ 6) (hV : mv_VV v C B D) : mv_VV (mv_vu v (9 + w) (nI t)) C B D := by
  obtain ⟨e0, e3, e4, hC4, hB8, hW, hVC, hVB⟩ := hV
  refine ⟨by rw [mv_vu_ne (by omega)]; exact e0, by rw [mv_vu_ne (by omega)]; exact e3, by rw [mv_vu_ne (by omega)]; exact e4, hC4, hB8, fun w' hw' => ?_, mv_VC_congr hC4 hVC (fun k h1 h2 h3 => mv_vu_ne (by omega)), fun b hb => ?_⟩
  · by_cases e : w' = w
    · subst e; rw [mv_vu_eq]; exact ⟨t, ht, rfl⟩
    · rw [mv_vu_ne (by omega)]; exact hW w' hw'
  · have := hVB b hb
    rw [mv_vu_ne (by omega), mv_vu_ne (by omega), mv_vu_ne (by omega), mv_vu_ne (by omega), mv_vu_ne (by omega)]
    exact this
theorem week_no {a : Int32} (h : a < 0 ∨ nI 7 ≤ a) (k : mv_Hp) : F_X6_isWeekday a k = some (nI 0, k) := by
  unfold F_X6_isWeekday J_X6_isWeekday_14 J_X6_isWeekday_15
  rw [li7, ev_rz (Or.inl rfl : (0 : Int32) = 0 ∨ (0 : Int32) = 1)]
  by_cases h1 : a < 0
  · rw [ev_t h1]; rfl
  · rw [ev_f h1, ev_t (h.resolve_left h1)]; rfl
theorem week_yes {w : Nat} (hw : w < 7) (k : mv_Hp) : F_X6_isWeekday (nI w) k = some (nI 1, k) := by
  unfold F_X6_isWeekday J_X6_isWeekday_15
  rw [li7, ev_f (nI_pos (by omega)), ev_f (nI_ge hw (by omega)), ev_rz (Or.inr rfl)]; rfl
theorem ro_stallMove {h0 : mv_Hp} {I : Nat → Nat → Int32} {r w : Nat} {x : Int32} (hR : mv_RS h0 r) (hw : w < 7) : F_X5_moveStall r (nI w) x (mv_hp h0 I) = some ((), mv_hp h0 (mv_si I (r + 1) (mv_vu (I (r + 1)) w x))) := by
  unfold F_X5_moveStall J_X5_moveStall_20
  rw [ev_f (nI_pos (by omega)), ro_g0 hR, ro_l1 hR, ev_f (nI_ge hw (by omega)), ro_g0 hR, ro_s1 hR hw]
  rfl
/-- the best of the towns so far -/
def mv_bt (v : Nat → Int32) (C B D w : Nat) (t : Nat) (s : Int32 × Int32 × Int32) : Int32 × Int32 × Int32 :=
  if s.2.1 < (mv_au (mv_vu v (9 + w) (nI t)) C B D).1 ∨ ((mv_au (mv_vu v (9 + w) (nI t)) C B D).1 = s.2.1 ∧ ¬ s.2.2 ≤ (mv_au (mv_vu v (9 + w) (nI t)) C B D).2) then (nI t, (mv_au (mv_vu v (9 + w) (nI t)) C B D).1, (mv_au (mv_vu v (9 + w) (nI t)) C B D).2) else s
theorem ag_21 : mv_Ag_21 mv_Inv := by
  intro a
  refine mv_A1_of (fun j h0 I hj hI => ?_)
  obtain ⟨D, C, B, hD, hDj, hS, hV, hP, hW⟩ := mv_un hj hI
  have hM := hS.2.1
  have hR := xo_R1 hS
  have hR21 := xo_R21 hS
  have hF := hS.2.2.2.1
  have hC4 := hV.2.2.2.1
  have hB8 := hV.2.2.2.2.1
  rcases mv_ix a (n := 7) (by omega) with ha | ⟨w, hw, rfl⟩
  · refine ⟨mv_n1, h0, I, I, ?_, rfl, rfl, ?_, mv_lk0 hI⟩
    · unfold F_X6_bestTown
      rw [ev_bd (week_no ha _), ev_t mv_z0]; rfl
    · unfold F_X7_bestTown
      rw [li0, li6, mo_in', mv_in_no2 (n := 6) (by omega) ha, ev_t rfl]; rfl
  have hX : ∃ I', F_X6_bestTown 0 (nI w) (mv_hp h0 I) = some ((mv_it (mv_bt (I 148) C B D w) 7 0 (nI 0, mv_n1, nI 0)).1, mv_hp h0 I') ∧ mv_fr 21 I I' := by
    obtain ⟨I1, e1, W1, F1⟩ := ro_copy hR21 hR (by omega) (by omega) (by omega) hW hV
    unfold F_X6_bestTown
    rw [ev_bd (week_yes hw _), ev_f mv_z1, xo_g1 hS, xo_g0 hS, ro_rc hR21, ev_bd e1, li1, lin1, li0]
    obtain ⟨n, ⟨s, I2⟩, e2, hs, ⟨x, W2⟩, F2⟩ := mv_lp (L := fun n t (s : (Int32 × Int32 × Int32) × (Nat → Nat → Int32)) => Lp_X6_bestTown_30 0 (nI w) n s.1.1 s.1.2.1 s.1.2.2 (nI t) (mv_hp h0 s.2)) (fun t s => s.1 = mv_it (mv_bt (I 148) C B D w) t 0 (nI 0, mv_n1, nI 0) ∧ (∃ x, mv_RV h0 s.2 21 (mv_vu (I 148) (9 + w) x) C B) ∧ mv_fr 21 I s.2) 7 (by omega)
      (fun n t s ht hP => by
        obtain ⟨⟨x, y, z⟩, J⟩ := s
        obtain ⟨p1, ⟨x0, p2⟩, p3⟩ := hP
        dsimp only at p1 p2 p3
        have e9 := mv_it_last (mv_bt (I 148) C B D w) t 0 (nI 0, mv_n1, nI 0)
        rw [Nat.zero_add, ← p1] at e9
        have W3 := mv_RV_w (x := nI t) hR21 hB8 hw p2
        rw [mv_vu_vu] at W3
        have V3 := mv_VV_w hw (show t ≤ 6 by omega) hV
        obtain ⟨f, g, e, z1, z2⟩ := fo_addUp hF (by omega) hR21 W3 V3 (show D < 90000 by omega)
        have W4 := mv_RV_fo (f := f) (g := g) (by omega) hR21 hC4 hB8 W3
        have F4 : mv_fr 21 I (mv_fo (mv_si J (21 + 1) (mv_vu (J (21 + 1)) w (nI t))) f g) := mv_fr_trans p3 (mv_fr_trans (mv_fr_si (by omega) (by omega)) mv_fr_fo)
        dsimp only
        rw [Lp_X6_bestTown_30, li6, ev_f (nI_nlt (by omega) (by omega)), xo_g1 hS, ro_rc hR21, ev_bd (ro_stallMove hR21 hw), xo_g5 hS, xo_g1 hS, fo_rc hF, ev_bd e, xo_g5 hS, fo_gI hF, xo_g5 hS, fo_gI hF, mv_fo_1, z1, z2]
        unfold J_X6_bestTown_95 J_X6_bestTown_105
        by_cases q1 : y < (mv_au (mv_vu (I 148) (9 + w) (nI t)) C B D).1
        · rw [ev_t q1, li1, nI_add]
          exact ⟨((nI t, (mv_au (mv_vu (I 148) (9 + w) (nI t)) C B D).1, (mv_au (mv_vu (I 148) (9 + w) (nI t)) C B D).2), _), rfl, by rw [e9]; unfold mv_bt; rw [if_pos (Or.inl q1)], ⟨nI t, W4⟩, F4⟩
        · rw [ev_f q1]
          by_cases q2 : (mv_au (mv_vu (I 148) (9 + w) (nI t)) C B D).1 = y
          · rw [ev_t q2]
            by_cases q3 : z ≤ (mv_au (mv_vu (I 148) (9 + w) (nI t)) C B D).2
            · rw [ev_t q3, li1, nI_add]
              exact ⟨((x, y, z), _), rfl, by rw [e9]; unfold mv_bt; rw [if_neg (fun h => h.elim q1 (fun h => h.2 q3))], ⟨nI t, W4⟩, F4⟩
            · rw [ev_f q3, li1, nI_add]
              exact ⟨((nI t, (mv_au (mv_vu (I 148) (9 + w) (nI t)) C B D).1, (mv_au (mv_vu (I 148) (9 + w) (nI t)) C B D).2), _), rfl, by rw [e9]; unfold mv_bt; rw [if_pos (Or.inr ⟨q2, q3⟩)], ⟨nI t, W4⟩, F4⟩
          · rw [ev_f q2, li1, nI_add]
            exact ⟨((x, y, z), _), rfl, by rw [e9]; unfold mv_bt; rw [if_neg (fun h => h.elim q1 (fun h => q2 h.1))], ⟨nI t, W4⟩, F4⟩)
      ((nI 0, mv_n1, nI 0), I1) ⟨rfl, ⟨I 148 (9 + w), by rw [mv_vu_self]; exact W1⟩, F1⟩
    dsimp only at e2 hs F2
    rw [e2, Lp_X6_bestTown_30, li6, ev_t (nI_lt (by omega) (by omega)), hs]
    exact ⟨I2, rfl, F2⟩
  obtain ⟨I', eX, FX⟩ := hX
  have f : ∀ i, 147 ≤ i → I' i = I i := fun i hi => FX i (by omega) (by omega) (by omega)
  have f148 := f 148 (by omega)
  refine ⟨_, h0, I', mv_si I' 148 (I 148), eX, rfl, rfl, ?_, mv_look hI (fun i h1 h2 h3 h4 => by rw [mv_si_ne (by omega)]; exact FX i (by omega) h3 h4) mv_si_eq (by rw [mv_si_ne (by omega)]; exact f _ (by omega)) (by rw [mv_si_ne (by omega)]; exact f _ (by omega)) (by rw [mv_si_ne (by omega)]; exact f _ (by omega)) (by rw [mv_si_ne (by omega), f _ (by omega)]) (by rw [mv_si_ne (by omega), f _ (by omega)]) (by rw [mv_si_ne (by omega), f _ (by omega)])⟩
  unfold F_X7_bestTown
  rw [li0, li6, mo_in', mv_in_yes2 (n := 6) (by omega) (by omega), ev_f (show ¬ nI 1 = nI 0 by decide), mo_g0 hM, li9, nI_add, mo_r148 hM (by omega), f148, li1, lin1]
  have self : I' = mv_si I' 148 (mv_vu (I 148) (9 + w) (I 148 (9 + w))) := by rw [mv_vu_self, ← f148, mv_si_self]
  obtain ⟨n, ⟨s, x⟩, e2, hs⟩ := mv_lp (L := fun n t (s : (Int32 × Int32 × Int32) × Int32) => Lp_X7_bestTown_33 147 (nI w) (I 148 (9 + w)) n s.1.1 s.1.2.1 s.1.2.2 (nI t) (mv_hp h0 (mv_si I' 148 (mv_vu (I 148) (9 + w) s.2)))) (fun t s => s.1 = mv_it (mv_bt (I 148) C B D w) t 0 (nI 0, mv_n1, nI 0)) 7 (by omega)
    (fun n t s ht hP => by
      obtain ⟨⟨x, y, z⟩, x0⟩ := s
      dsimp only at hP
      have e9 := mv_it_last (mv_bt (I 148) C B D w) t 0 (nI 0, mv_n1, nI 0)
      rw [Nat.zero_add, ← hP] at e9
      have V3 := mv_VV_w hw (show t ≤ 6 by omega) hV
      dsimp only
      rw [Lp_X7_bestTown_33, li6, ev_f (nI_nlt (by omega) (by omega)), mo_g0 hM, li9, nI_add, mo_w148 hM (by omega), mv_si_eq, mv_si_si, mv_vu_vu, li0]
      have V3' : mv_VV (mv_si I' 148 (mv_vu (I 148) (9 + w) (nI t)) 148) C B D := by rw [mv_si_eq]; exact V3
      obtain ⟨m, ⟨c1, c2⟩, e3, h3⟩ := mv_lp (L := fun m b (s : Int32 × Int32) => Lp_X7_bestTown_60 (Lp_X7_bestTown_33 147 (nI w) (I 148 (9 + w)) n) 147 (nI w) (I 148 (9 + w)) x y z (nI t) m s.1 s.2 (nI b) (mv_hp h0 (mv_si I' 148 (mv_vu (I 148) (9 + w) (nI t))))) (fun b s => s = mv_it (mv_au1 (mv_vu (I 148) (9 + w) (nI t)) C D) b 0 (nI 0, nI 0)) B (by omega)
        (fun m b s hb hs => by
          obtain ⟨c1, c2⟩ := s
          have e8 := mv_it_last (mv_au1 (mv_vu (I 148) (9 + w) (nI t)) C D) b 0 (nI 0, nI 0)
          rw [Nat.zero_add, ← hs] at e8
          dsimp only
          rw [Lp_X7_bestTown_60, mo_g0 hM, li4, mo_r148 hM (by omega), mv_si_eq, V3.2.2.1, ev_f (nI_ge hb (by omega)), mo_rc hM, li3, mo_of' hM (by omega), mv_si_eq]
          unfold J_X7_bestTown_98 J_X7_bestTown_114 J_X7_bestTown_132
          have hz : ∀ q : Int32, q + nI 0 = q := fun q => Int32.add_zero q
          by_cases q1 : mv_vu (I 148) (9 + w) (nI t) (64 + 8 * b + 3) ≤ nI 0
          · rw [ev_t (show mv_vu (I 148) (9 + w) (nI t) (64 + 8 * b + 3) ≤ 0 from q1), mo_g0 hM, li0, mo_r148 hM (by omega), mv_si_eq, V3.1, mo_rc hM, mo_AB' hM V3' hb (by omega), mv_si_eq, li1000000]
            have hle : mv_AB (mv_vu (I 148) (9 + w) (nI t)) C b D ≤ 1000000 := mv_AB_le V3 (by omega)
            by_cases q2 : mv_AB (mv_vu (I 148) (9 + w) (nI t)) C b D = 1000000
            · rw [q2, ev_t rfl, ev_bpu, ev_t rfl, ev_bpu, hz, hz, li1, nI_add]
              refine ⟨(c1, c2), rfl, ?_⟩
              rw [e8]; unfold mv_au1; rw [if_neg (fun h => h.2 q2)]
            · rw [ev_f (fun h => q2 ((mv_eq (by omega) (by omega)).mp h)), ev_bpu, ev_f (fun h => q2 ((mv_eq (by omega) (by omega)).mp h)), ev_bpu, li1, nI_add]
              refine ⟨(c1 + nI 1, c2 + nI (mv_AB (mv_vu (I 148) (9 + w) (nI t)) C b D)), rfl, ?_⟩
              rw [e8]; unfold mv_au1; rw [if_pos ⟨q1, q2⟩]
          · rw [ev_f (show ¬ mv_vu (I 148) (9 + w) (nI t) (64 + 8 * b + 3) ≤ 0 from q1), li1000000, ev_t rfl, ev_bpu, ev_t rfl, ev_bpu, li0, hz, hz, li1, nI_add]
            refine ⟨(c1, c2), rfl, ?_⟩
            rw [e8]; unfold mv_au1; rw [if_neg (fun h => q1 h.1)])
        (nI 0, nI 0) rfl
      have h4 : (c1, c2) = mv_au (mv_vu (I 148) (9 + w) (nI t)) C B D := h3
      have h5 : c1 = (mv_au (mv_vu (I 148) (9 + w) (nI t)) C B D).1 := by rw [← h4]
      have h6 : c2 = (mv_au (mv_vu (I 148) (9 + w) (nI t)) C B D).2 := by rw [← h4]
      have e3' : Lp_X7_bestTown_60 (Lp_X7_bestTown_33 147 (nI w) (I 148 (9 + w)) n) 147 (nI w) (I 148 (9 + w)) x y z (nI t) mv_FU (nI 0) (nI 0) (nI 0) (mv_hp h0 (mv_si I' 148 (mv_vu (I 148) (9 + w) (nI t)))) = Lp_X7_bestTown_60 (Lp_X7_bestTown_33 147 (nI w) (I 148 (9 + w)) n) 147 (nI w) (I 148 (9 + w)) x y z (nI t) (m + 1) c1 c2 (nI B) (mv_hp h0 (mv_si I' 148 (mv_vu (I 148) (9 + w) (nI t)))) := e3
      rw [e3', Lp_X7_bestTown_60, mo_g0 hM, li4, mo_r148 hM (by omega), mv_si_eq, V3.2.2.1, ev_t (nI_le (Nat.le_refl _) (by omega)), h5, h6]
      unfold J_X7_bestTown_162 J_X7_bestTown_166 J_X7_bestTown_167 J_X7_bestTown_180 J_X7_bestTown_193 J_X7_bestTown_207
      have n1 : ¬ (1 : Int32) = 0 := by decide
      by_cases q1 : y < (mv_au (mv_vu (I 148) (9 + w) (nI t)) C B D).1
      · rw [ev_t q1, ev_f n1, ev_f n1, ev_f n1, li1, nI_add]
        exact ⟨((nI t, (mv_au (mv_vu (I 148) (9 + w) (nI t)) C B D).1, (mv_au (mv_vu (I 148) (9 + w) (nI t)) C B D).2), nI t), rfl, by rw [e9]; unfold mv_bt; rw [if_pos (Or.inl q1)]⟩
      · rw [ev_f q1]
        by_cases q2 : (mv_au (mv_vu (I 148) (9 + w) (nI t)) C B D).1 = y
        · rw [ev_t q2]
          by_cases q3 : z ≤ (mv_au (mv_vu (I 148) (9 + w) (nI t)) C B D).2
          · rw [ev_t q3, ev_t rfl, ev_t rfl, ev_t rfl, li1, nI_add]
            exact ⟨((x, y, z), nI t), rfl, by rw [e9]; unfold mv_bt; rw [if_neg (fun h => h.elim q1 (fun h => h.2 q3))]⟩
          · rw [ev_f q3, ev_f n1, ev_f n1, ev_f n1, li1, nI_add]
            exact ⟨((nI t, (mv_au (mv_vu (I 148) (9 + w) (nI t)) C B D).1, (mv_au (mv_vu (I 148) (9 + w) (nI t)) C B D).2), nI t), rfl, by rw [e9]; unfold mv_bt; rw [if_pos (Or.inr ⟨q2, q3⟩)]⟩
        · rw [ev_f q2, ev_t rfl, ev_t rfl, ev_t rfl, li1, nI_add]
          exact ⟨((x, y, z), nI t), rfl, by rw [e9]; unfold mv_bt; rw [if_neg (fun h => h.elim q1 (fun h => q2 h.1))]⟩)
    ((nI 0, mv_n1, nI 0), I 148 (9 + w)) rfl
  dsimp only at e2 hs
  rw [← self] at e2
  rw [e2, Lp_X7_bestTown_33, li6, ev_t (nI_lt (by omega) (by omega)), mo_g0 hM, li9, nI_add, mo_w148 hM (by omega), mv_si_eq, mv_si_si, mv_vu_vu, mv_vu_self, hs]
  rfl
