theorem mv_sub_l {x y : Int32} : x + y - x = y := by rw [Int32.add_comm, Int32.add_sub_cancel]
theorem mv_cp_00 {f g : Nat → Int32} {i : Nat} (hi : i < 128) : mv_cp f g 0 0 128 i = f i := by
  unfold mv_cp
  rw [if_pos (by omega), show 0 + (i - 0) = i by omega]
theorem ag_22 : mv_Ag_22 mv_Inv := by
  intro a b
  refine mv_A1_of (fun j h0 I hj hI => ?_)
  obtain ⟨D, C, B, hD, hDj, hS, hV, hP, hW⟩ := mv_un hj hI
  have hM := hS.2.1
  have hR := xo_R1 hS
  have hR21 := xo_R21 hS
  have hF := hS.2.2.2.1
  have hC4 := hV.2.2.2.1
  have hB8 := hV.2.2.2.2.1
  have e4 := hV.2.2.1
  by_cases ha : ∃ k, 1 ≤ k ∧ k ≤ 30 ∧ a = nI k
  · obtain ⟨N, d1, d2, rfl⟩ := ha
    rcases mv_ix b (n := 2 + 1) (by omega) with hb | ⟨q, hq, rfl⟩
    · refine ⟨mv_n1, h0, I, I, ?_, rfl, rfl, ?_, mv_lk0 hI⟩
      · unfold F_X6_ifPassed J_X6_ifPassed_20
        rw [li1, li30, ev_f (nI_nlt d1 (by omega)), ev_f (nI_nlt d2 (by omega)), li2]
        by_cases h1 : b < 0
        · rw [ev_t h1]; rfl
        · rw [ev_f h1, ev_f (mv_hi (by omega) (hb.resolve_left h1)).2]; rfl
      · unfold F_X7_ifPassed J_X7_ifPassed_19
        rw [li1, li30, mo_in', mv_in1 d1 d2 (by omega), ev_f mv_z1, li0, li2, mo_in', mv_in_no2 (by omega) hb, ev_t rfl]; rfl
    have V2 : mv_VV (mv_ps C B D N (I 148)).2.2 C B (D + N) := mv_VV_ps N 0 (D, 0, I 148) hV
    let R : Int32 := if q = 0 then nI (mv_ps C B D N (I 148)).2.1 else if q = 1 then (mv_ps C B D N (I 148)).2.2 8 - I 148 8 else mv_bb (mv_ps C B D N (I 148)).2.2 B 5 - mv_bb (I 148) B 5
    have hX : ∃ I', F_X6_ifPassed 0 (nI N) (nI q) (mv_hp h0 I) = some (R, mv_hp h0 I') ∧ mv_fr 21 I I' := by
      obtain ⟨I1, e1, W1, F1⟩ := ro_copy hR21 hR (by omega) (by omega) (by omega) hW hV
      obtain ⟨n, I2, e2, W2, F2⟩ := mv_lp (L := fun n k (J : Nat → Nat → Int32) => Lp_X6_ifPassed_35 0 (nI N) (nI q) n (nI k) (mv_hp h0 J)) (fun k J => mv_RV h0 J 21 (mv_it (mv_ds C B) k 0 (D, 0, I 148)).2.2 C B ∧ mv_fr 21 I J) N (by omega)
        (fun n k J hk hP => by
          obtain ⟨p1, p2⟩ := hP
          obtain ⟨J', z1, z2, z3⟩ := ro_passN (I := J) hF (by omega) hR21 hV hD (show k ≤ 30 by omega) p1
          rw [Lp_X6_ifPassed_35, ev_f (nI_ge hk (by omega)), xo_g1 hS, xo_g5 hS, ro_rc hR21, ev_bd z1, li1, nI_add]
          exact ⟨J', rfl, z2, mv_fr_trans p2 z3⟩)
        I1 ⟨W1, F1⟩
      have W2' : mv_RV h0 I2 21 (mv_ps C B D N (I 148)).2.2 C B := W2
      have W0 : mv_RV h0 I2 1 (I 148) C B := mv_RV_congr hR hC4 hB8 (fun _ _ => rfl) (fun i h1 h2 => F2 i (by omega) (by omega) (by omega)) hW
      refine ⟨I2, ?_, F2⟩
      unfold F_X6_ifPassed
      rw [li1, li30, ev_f (nI_nlt d1 (by omega)), ev_f (nI_nlt d2 (by omega)), li2, ev_f (nI_pos (by omega)), ev_t (nI_le (by omega) (by omega)), xo_g1 hS, xo_g0 hS, ro_rc hR21, ev_bd e1]
      have e2' : Lp_X6_ifPassed_35 0 (nI N) (nI q) mv_FU 0 (mv_hp h0 I1) = Lp_X6_ifPassed_35 0 (nI N) (nI q) (n + 1) (nI N) (mv_hp h0 I2) := e2
      rw [e2', Lp_X6_ifPassed_35, ev_t (nI_le (Nat.le_refl _) (by omega))]
      unfold J_X6_ifPassed_115
      show _ = some ((if q = 0 then nI (mv_ps C B D N (I 148)).2.1 else if q = 1 then (mv_ps C B D N (I 148)).2.2 8 - I 148 8 else mv_bb (mv_ps C B D N (I 148)).2.2 B 5 - mv_bb (I 148) B 5), mv_hp h0 I2)
      rcases (show q = 0 ∨ q = 1 ∨ q = 2 by omega) with rfl | rfl | rfl
      · rw [ev_t mv_z0, xo_g1 hS, ro_gI hR21, W2'.1.2.2.2.2.2.2.1, xo_g0 hS, ro_gI hR, W0.1.2.2.2.2.2.2.1, mv_ps_v6, mv_sub_l]; rfl
      · rw [ev_f (by decide), ev_t (show nI 1 = (1 : Int32) from rfl), xo_g1 hS, ro_gI hR21, W2'.1.2.2.2.2.2.2.2.2, xo_g0 hS, ro_gI hR, W0.1.2.2.2.2.2.2.2.2]; rfl
      · rw [ev_f (by decide), ev_f (by decide), xo_g1 hS, ro_rc hR21, ev_bd (ro_broken hR21 W2' V2), xo_g0 hS, ro_rc hR, ev_bd (ro_broken hR W0 hV)]; rfl
    obtain ⟨I', eX, FX⟩ := hX
    have f : ∀ i, 147 ≤ i → I' i = I i := fun i hi => FX i (by omega) (by omega) (by omega)
    have k148 : h0.1[148]? = some (8, 128) := by rw [hM.1]; rfl
    have k149 : h0.1[149]? = some (8, 128) := by rw [hM.1]; rfl
    have fin : ∀ J, J = mv_si (mv_si I' 149 (mv_cp (I 148) (I 149) 0 0 128)) 148 (mv_ps C B D N (I 148)).2.2 → J_X7_ifPassed_86 147 R (mv_hp h0 J) = some (R, mv_hp h0 (mv_si J 148 (mv_cp (J 149) (J 148) 0 0 128))) := by
      intro J _
      unfold J_X7_ifPassed_86
      rw [mo_g1 hM, mo_g0 hM, li0, mo_copies' k149 k148 (by omega) (by omega) (by omega) (by omega) (by decide)]
      rfl
    have f148 : mv_si I' 149 (mv_cp (I 148) (I 149) 0 0 128) 148 = I 148 := by rw [mv_si_ne (by omega)]; exact f _ (by omega)
    refine ⟨R, h0, I', mv_si (mv_si (mv_si I' 149 (mv_cp (I 148) (I 149) 0 0 128)) 148 (mv_ps C B D N (I 148)).2.2) 148 (mv_cp (mv_si (mv_si I' 149 (mv_cp (I 148) (I 149) 0 0 128)) 148 (mv_ps C B D N (I 148)).2.2 149) (mv_si (mv_si I' 149 (mv_cp (I 148) (I 149) 0 0 128)) 148 (mv_ps C B D N (I 148)).2.2 148) 0 0 128), eX, rfl, rfl, ?_, ?_⟩
    · rw [← fin _ rfl]
      unfold F_X7_ifPassed
      rw [li1, li30, mo_in', mv_in1 d1 d2 (by omega), ev_f mv_z1, li0, li2, mo_in', mv_in_yes2 (by omega) (by omega), ev_f (show ¬ nI 1 = nI 0 by decide), mo_g0 hM, mo_g1 hM, mo_copies' k148 k149 (by omega) (by omega) (by omega) (by omega) (by decide), f 148 (by omega), f 149 (by omega), mo_rc hM, li5, mo_bb' hM hB8 (by rw [f148]; exact e4) (by omega), mo_rc hM, mo_goPass' hM (by rw [f148]; exact hV) d2 (by omega), f148]
      show _ = J_X7_ifPassed_86 147 (if q = 0 then nI (mv_ps C B D N (I 148)).2.1 else if q = 1 then (mv_ps C B D N (I 148)).2.2 8 - I 148 8 else mv_bb (mv_ps C B D N (I 148)).2.2 B 5 - mv_bb (I 148) B 5) _
      rcases (show q = 0 ∨ q = 1 ∨ q = 2 by omega) with rfl | rfl | rfl
      · rw [ev_t rfl]; rfl
      · rw [ev_f (by decide), ev_t rfl, mo_g0 hM, li8, mo_r148 hM (by omega), mv_si_eq, mo_g1 hM, mo_r149 hM (by omega), mv_si_ne (by omega), mv_si_eq, mv_cp_00 (by omega)]; rfl
      · rw [ev_f (by decide), ev_f (by decide), mo_rc hM, mo_bb' hM hB8 (by rw [mv_si_eq]; exact V2.2.2.1) (by omega), mv_si_eq]; rfl
    · refine mv_look2 hI (fun i h1 h2 h3 h4 => by rw [mv_si_ne (by omega), mv_si_ne (by omega), mv_si_ne (by omega)]; exact FX i (by omega) h3 h4) (fun k hk => ?_) (by rw [mv_si_ne (by omega), mv_si_ne (by omega), mv_si_ne (by omega)]; exact f _ (by omega)) (by rw [mv_si_ne (by omega), mv_si_ne (by omega), mv_si_ne (by omega)]; exact f _ (by omega)) (by rw [mv_si_ne (by omega), mv_si_ne (by omega), mv_si_ne (by omega)]; exact f _ (by omega)) (by rw [mv_si_ne (by omega), mv_si_ne (by omega), mv_si_ne (by omega), f _ (by omega)]) (by rw [mv_si_ne (by omega), mv_si_ne (by omega), mv_si_ne (by omega), f _ (by omega)]) (by rw [mv_si_ne (by omega), mv_si_ne (by omega), mv_si_ne (by omega), f _ (by omega)])
      rw [mv_si_eq, mv_cp_00 hk, mv_si_ne (by omega), mv_si_eq, mv_cp_00 hk]
  · obtain ⟨q1, q2⟩ := mv_3079 rfl (by omega) ha
    refine ⟨mv_n1, h0, I, I, ?_, rfl, rfl, ?_, mv_lk0 hI⟩
    · unfold F_X6_ifPassed J_X6_ifPassed_20
      rw [li1, li30]
      rcases q2 with h | ⟨h1, h2, h3⟩
      · rw [ev_t h]; rfl
      · rw [ev_f h1, ev_t h3]; rfl
    · unfold F_X7_ifPassed J_X7_ifPassed_19
      rw [li1, li30, mo_in', q1, ev_t mv_z0]; rfl
theorem ag_23 : mv_Ag_23 mv_Inv := by
  refine mv_A1_of (fun j h0 I hj hI => ?_)
  obtain ⟨D, C, B, hD, hDj, hS, hV, hP, hW⟩ := mv_un hj hI
  have hM := hS.2.1
  have hI0 := hI
  obtain ⟨hs, L, M, z, hc, q1, q2, q3⟩ := hI
  have hc' : mv_CI j h0 I (I 148) L (I 150) z (I 151) M (I 152) := mv_CI_of hc
  have hH := hS.2.2.2.2.1
  have a1 := hc'.2.2.1.1
  have a2 := hc'.2.2.1.2.1
  have q1' : I 147 3 = nI L := q1
  by_cases hL : L = 0
  · subst hL
    refine ⟨mv_n2, h0, I, I, ?_, rfl, rfl, ?_, mv_lk0 hI0⟩
    · unfold F_X6_undo
      rw [xo_g3 hS, hi_gI hH, a1, ev_t mv_z0]; rfl
    · unfold F_X7_undo
      rw [mo_gI hM, q1', ev_t mv_z0]; rfl
  · obtain ⟨I1, e1, F1, g1, hc1⟩ := hi_back (show 1 ≤ L by omega) hc'
    have k148 : h0.1[148]? = some (8, 128) := by rw [hM.1]; rfl
    have k150 : h0.1[150]? = some (8, 512) := by rw [hM.1]; rfl
    refine ⟨nI (L - 1), h0, I1, mv_si (mv_si I1 147 (mv_vu (I 147) 3 (nI (L - 1)))) 148 (mv_cp (I 150) (I 148) (128 * (L - 1)) 0 128), ?_, rfl, rfl, ?_, ?_⟩
    · unfold F_X6_undo
      rw [xo_g3 hS, hi_gI hH, a1, ev_f (fun x => hL ((mv_eq0 (by omega)).mp x)), xo_g3 hS, xo_g0 hS, hi_rc hH, ev_bd e1, xo_g3 hS, hi_gI hH, g1]
      rfl
    · unfold F_X7_undo
      rw [mo_gI hM, F1 147 (by omega), q1', ev_f (fun x => hL ((mv_eq0 (by omega)).mp x)), mo_gI hM, F1 147 (by omega), q1', mo_sI hM, F1 147 (by omega), li1, pk_sub (by omega), mo_g2 hM, mo_gI hM, mv_si_eq, mv_vu_eq, mo_g0 hM, li128, pk_mul, li0, mo_copies' k150 k148 (by omega) (by omega) (by omega) (by omega) (by decide), mo_gI hM, mv_si_ne (by omega), mv_si_eq, mv_vu_eq, mv_si_ne (show 150 ≠ 147 by omega), mv_si_ne (show 148 ≠ 147 by omega), F1 150 (by omega), F1 148 (by omega)]
      rfl
    · refine ⟨hs, L - 1, M, z, ?_, ?_, ?_, ?_⟩
      · show mv_CI (j + 1) (mv_hp h0 _) (mv_si (mv_si I1 147 (mv_vu (I 147) 3 (nI (L - 1)))) 148 (mv_cp (I 150) (I 148) (128 * (L - 1)) 0 128)) (mv_si (mv_si I1 147 (mv_vu (I 147) 3 (nI (L - 1)))) 148 (mv_cp (I 150) (I 148) (128 * (L - 1)) 0 128) 148) _ (mv_si (mv_si I1 147 (mv_vu (I 147) 3 (nI (L - 1)))) 148 (mv_cp (I 150) (I 148) (128 * (L - 1)) 0 128) 150) _ (mv_si (mv_si I1 147 (mv_vu (I 147) 3 (nI (L - 1)))) 148 (mv_cp (I 150) (I 148) (128 * (L - 1)) 0 128) 151) _ (mv_si (mv_si I1 147 (mv_vu (I 147) 3 (nI (L - 1)))) 148 (mv_cp (I 150) (I 148) (128 * (L - 1)) 0 128) 152)
        rw [mv_si_eq, mv_si_ne (show 150 ≠ 148 by omega), mv_si_ne (show 151 ≠ 148 by omega), mv_si_ne (show 152 ≠ 148 by omega), mv_si_ne (show 150 ≠ 147 by omega), mv_si_ne (show 151 ≠ 147 by omega), mv_si_ne (show 152 ≠ 147 by omega), F1 150 (by omega), F1 151 (by omega), F1 152 (by omega)]
        obtain ⟨b1, b2, b3⟩ := mv_CI_rows (Nat.le_succ j) (I := I1) (J := mv_si (mv_si I1 147 (mv_vu (I 147) 3 (nI (L - 1)))) 148 (mv_cp (I 150) (I 148) (128 * (L - 1)) 0 128)) (fun i w1 _ _ _ => by rw [mv_si_ne (by omega), mv_si_ne (by omega)]) hc1
        refine mv_CI_hp ⟨b1, mv_OK_v (Nat.le_refl _) (fun k hk => ?_) b2, b3⟩
        unfold mv_cp mv_at
        rw [if_pos (by omega), show k - 0 = k by omega]
      · show mv_si (mv_si I1 147 (mv_vu (I 147) 3 (nI (L - 1)))) 148 (mv_cp (I 150) (I 148) (128 * (L - 1)) 0 128) 147 3 = _
        rw [mv_si_ne (by omega), mv_si_eq, mv_vu_eq]
      · show mv_si (mv_si I1 147 (mv_vu (I 147) 3 (nI (L - 1)))) 148 (mv_cp (I 150) (I 148) (128 * (L - 1)) 0 128) 147 5 = _
        rw [mv_si_ne (by omega), mv_si_eq, mv_vu_ne (by omega)]; exact q2
      · show mv_si (mv_si I1 147 (mv_vu (I 147) 3 (nI (L - 1)))) 148 (mv_cp (I 150) (I 148) (128 * (L - 1)) 0 128) 147 7 = _
        rw [mv_si_ne (by omega), mv_si_eq, mv_vu_ne (by omega)]; exact q3
theorem ag_24 : mv_Ag_24 mv_Inv := by
  refine mv_A1_of (fun j h0 I hj hI => ?_)
  obtain ⟨D, C, B, hD, hDj, hS, hV, hP, hW⟩ := mv_un hj hI
  have hM := hS.2.1
  obtain ⟨hs, L, M, z, hc, q1, q2, q3⟩ := hI
  have hc' : mv_CI j h0 I (I 148) L (I 150) z (I 151) M (I 152) := mv_CI_of hc
  have hR := xo_R1 hS
  have hR41 := xo_R41 hS
  obtain ⟨I1, e1, W1, F1⟩ := ro_copy hR41 hR (by omega) (by omega) (by omega) hW hV
  have k148 : h0.1[148]? = some (8, 128) := by rw [hM.1]; rfl
  have k151 : h0.1[151]? = some (8, 128) := by rw [hM.1]; rfl
  have f : ∀ i, 61 ≤ i ∨ i < 41 → i ≠ 145 → i ≠ 146 → I1 i = I i := fun i hi h2 h3 => F1 i (by omega) h2 h3
  have r5 : mv_si I1 0 (mv_vu (I1 0) 6 (nI 1)) 1 5 = nI D := by rw [mv_si_ne (by omega), f 1 (by omega) (by omega) (by omega), hW.1.2.2.1]; exact hV.1
  have g : ∀ i, 147 ≤ i → mv_si I1 0 (mv_vu (I1 0) 6 (nI 1)) i = I i := fun i hi => by rw [mv_si_ne (by omega)]; exact f i (by omega) (by omega) (by omega)
  have q147 : ∀ k, mv_si I1 0 (mv_vu (I1 0) 6 (nI 1)) 147 k = I 147 k := fun k => by rw [g 147 (by omega)]
  refine ⟨nI D, h0, mv_si I1 0 (mv_vu (I1 0) 6 (nI 1)), mv_si (mv_si (mv_si I1 0 (mv_vu (I1 0) 6 (nI 1))) 151 (mv_cp (I 148) (I 151) 0 0 128)) 147 (mv_vu (I 147) 5 (nI 1)), ?_, rfl, rfl, ?_, ?_⟩
  · unfold F_X6_save
    rw [xo_g2 hS, xo_g0 hS, ro_rc hR41, ev_bd e1, li1, ev_sZ (xo_k hS) (show nI 1 = 0 ∨ nI 1 = 1 from Or.inr rfl), xo_g0 hS, ro_gI hR, r5]
    rfl
  · unfold F_X7_save
    rw [mo_g0 hM, mo_g4 hM, li0, mo_copies' k148 k151 (by omega) (by omega) (by omega) (by omega) (by decide), g 148 (by omega), g 151 (by omega), li1, mo_sZ hM (show nI 1 = 0 ∨ nI 1 = 1 from Or.inr rfl), mv_si_ne (show 147 ≠ 151 by omega), g 147 (by omega), mo_g0 hM, mo_r148 hM (by omega), mv_si_ne (by omega), mv_si_ne (by omega), g 148 (by omega), hV.1]
    rfl
  · refine ⟨hs, L, M, nI 1, ?_, ?_, ?_, ?_⟩
    · show mv_CI (j + 1) (mv_hp h0 _) (mv_si (mv_si (mv_si I1 0 (mv_vu (I1 0) 6 (nI 1))) 151 (mv_cp (I 148) (I 151) 0 0 128)) 147 (mv_vu (I 147) 5 (nI 1))) (mv_si (mv_si (mv_si I1 0 (mv_vu (I1 0) 6 (nI 1))) 151 (mv_cp (I 148) (I 151) 0 0 128)) 147 (mv_vu (I 147) 5 (nI 1)) 148) _ (mv_si (mv_si (mv_si I1 0 (mv_vu (I1 0) 6 (nI 1))) 151 (mv_cp (I 148) (I 151) 0 0 128)) 147 (mv_vu (I 147) 5 (nI 1)) 150) _ (mv_si (mv_si (mv_si I1 0 (mv_vu (I1 0) 6 (nI 1))) 151 (mv_cp (I 148) (I 151) 0 0 128)) 147 (mv_vu (I 147) 5 (nI 1)) 151) _ (mv_si (mv_si (mv_si I1 0 (mv_vu (I1 0) 6 (nI 1))) 151 (mv_cp (I 148) (I 151) 0 0 128)) 147 (mv_vu (I 147) 5 (nI 1)) 152)
      rw [mv_si_ne (show 148 ≠ 147 by omega), mv_si_ne (show 150 ≠ 147 by omega), mv_si_ne (show 151 ≠ 147 by omega), mv_si_ne (show 152 ≠ 147 by omega), mv_si_ne (show 148 ≠ 151 by omega), mv_si_ne (show 150 ≠ 151 by omega), mv_si_ne (show 152 ≠ 151 by omega), mv_si_eq, g 148 (by omega), g 150 (by omega), g 152 (by omega)]
      refine mv_CI_hp (mv_CI_rows (Nat.le_refl _) (I := mv_si I1 0 (mv_vu (I1 0) 6 (nI 1))) (fun i w1 _ _ _ => by rw [mv_si_ne (by omega), mv_si_ne (by omega)]) ?_)
      obtain ⟨-, hO, ⟨a1, a2, a3⟩, ⟨b1, b2⟩, c1⟩ := hc'
      refine ⟨hS, mv_OK_le (Nat.le_succ j) (mv_OK_congr hR (fun _ => rfl) (fun i w1 w2 => by rw [mv_si_ne (by omega)]; exact f i (by omega) (by omega) (by omega)) hO), ⟨by rw [mv_si_ne (by omega), f 61 (by omega) (by omega) (by omega)]; exact a1, a2, fun k hk => ?_⟩, ⟨by rw [mv_si_eq, mv_vu_eq], Or.inr ⟨rfl, ?_⟩⟩, mv_PD_congr (by rw [mv_si_ne (by omega), f 143 (by omega) (by omega) (by omega)]) (by rw [mv_si_ne (by omega), f 144 (by omega) (by omega) (by omega)]) c1⟩
      · have rg := mv_sr_rng hS (show k < 4 by omega)
        exact mv_OK_le (Nat.le_succ j) (mv_OK_congr (mv_st63 hS (by omega)) (fun _ => rfl) (fun i w1 w2 => by rw [mv_si_ne (by omega)]; exact f i (by omega) (by omega) (by omega)) (a3 k hk))
      · refine mv_OK_v (Nat.le_succ j) (v := I 148) (fun k hk => mv_cp_00 hk) ?_
        exact mv_OK_congr hR41 (fun _ => rfl) (fun i w1 w2 => mv_si_ne (by omega)) ⟨D, C, B, hDj, ⟨hV, hP⟩, W1⟩
    · show mv_si (mv_si (mv_si I1 0 (mv_vu (I1 0) 6 (nI 1))) 151 (mv_cp (I 148) (I 151) 0 0 128)) 147 (mv_vu (I 147) 5 (nI 1)) 147 3 = _
      rw [mv_si_eq, mv_vu_ne (by omega)]; exact q1
    · show mv_si (mv_si (mv_si I1 0 (mv_vu (I1 0) 6 (nI 1))) 151 (mv_cp (I 148) (I 151) 0 0 128)) 147 (mv_vu (I 147) 5 (nI 1)) 147 5 = _
      rw [mv_si_eq, mv_vu_eq]
    · show mv_si (mv_si (mv_si I1 0 (mv_vu (I1 0) 6 (nI 1))) 151 (mv_cp (I 148) (I 151) 0 0 128)) 147 (mv_vu (I 147) 5 (nI 1)) 147 7 = _
      rw [mv_si_eq, mv_vu_ne (by omega)]; exact q3
theorem ag_25 : mv_Ag_25 mv_Inv := by
  refine mv_A1_of (fun j h0 I hj hI => ?_)
  obtain ⟨D, C, B, hD, hDj, hS, hV, hP, hW⟩ := mv_un hj hI
  have hM := hS.2.1
  have hI0 := hI
  obtain ⟨hs, L0, M, z, hc, q1, q2, q3⟩ := hI
  have hc' : mv_CI j h0 I (I 148) L0 (I 150) z (I 151) M (I 152) := mv_CI_of hc
  have q2' : I 147 5 = z := q2
  obtain ⟨-, -, -, ⟨b1, b2⟩, -⟩ := hc'
  have hR := xo_R1 hS
  have hC4 := hV.2.2.2.1
  have hB8 := hV.2.2.2.2.1
  rcases b2 with rfl | ⟨rfl, -⟩
  · refine ⟨mv_n2, h0, I, I, ?_, rfl, rfl, ?_, mv_lk0 hI0⟩
    · unfold F_X6_restore
      rw [xo_gI hS, b1, ev_t rfl]; rfl
    · unfold F_X7_restore
      rw [mo_gI hM, q2', ev_t rfl]; rfl
  · obtain ⟨h0', I1, L, e1, s1, s2, hS', hL, W1, F1, hL1, hPx, fin, M', z', hCI, -⟩ := mv_ck hI0 hC4 hB8 hW
    have hM' := hS'.2.1
    have hR' := xo_R1 hS'
    have hR41 := xo_R41 hS'
    obtain ⟨-, -, -, ⟨c1, c2⟩, -⟩ := hCI
    have one : I1 0 6 = 1 := by rw [F1 0 (by omega) (by omega) (by omega)]; exact b1
    rcases c2 with c2 | ⟨-, hO⟩
    · rw [one] at c1; rw [← c1] at c2; exact absurd c2 (by decide)
    obtain ⟨D2, C2, B2, g1, ⟨g2, g3⟩, g4⟩ := hO
    obtain ⟨I2, e2, W2, F2⟩ := ro_copy hR' hR41 (by omega) (by omega) (by omega) g4 g2
    have f : ∀ i, 147 ≤ i → I2 i = I i := fun i hi => (F2 i (by omega) (by omega) (by omega)).trans (F1 i (by omega) (by omega) (by omega))
    have k148 : h0'.1[148]? = some (8, 128) := by rw [hM'.1]; rfl
    have k151 : h0'.1[151]? = some (8, 128) := by rw [hM'.1]; rfl
    have rd : mv_si (mv_si I2 150 (mv_rp (I2 148) (I2 150) L)) 147 (mv_vu (I2 147) 3 (nI (mv_rk L))) = mv_rd I2 L := rfl
    have rd148 : mv_rd I2 L 148 = I 148 := by rw [mv_rd_ne (by omega) (by omega), f 148 (by omega)]
    have rd151 : mv_rd I2 L 151 = I 151 := by rw [mv_rd_ne (by omega) (by omega), f 151 (by omega)]
    refine ⟨nI D2, h0', I2, mv_si (mv_rd I2 L) 148 (mv_cp (I 151) (I 148) 0 0 128), ?_, s1, s2, ?_, fin _ _ F2 (mv_OK_v (Nat.le_succ j) (v := I 151) (fun k hk => mv_cp_00 hk) ⟨D2, C2, B2, g1, ⟨g2, g3⟩, W2⟩)⟩
    · unfold F_X6_restore
      rw [xo_gI hS, b1, ev_f (by decide), xo_g3 hS, xo_g0 hS, hi_rc hS.2.2.2.2.1, ev_bd e1, xo_g0 hS', xo_g2 hS', ro_rc hR', ev_bd e2, xo_g0 hS', ro_gI hR', W2.1.2.2.1, g2.1]
      rfl
    · unfold F_X7_restore
      rw [mo_gI hM', f 147 (by omega), q2', ev_f (by decide), mo_rc hM', mo_records' hM' hL (by rw [f 147 (by omega)]; exact hL1), rd, mo_g4 hM', mo_g0 hM', li0, mo_copies' k151 k148 (by omega) (by omega) (by omega) (by omega) (by decide), mo_g0 hM', mo_r148 hM' (by omega), mv_si_eq, rd148, rd151, mv_cp_00 (by omega), g2.1]
      rfl
