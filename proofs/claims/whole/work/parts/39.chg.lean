section PP
variable {v : Nat → Int32} {C B D : Nat}
theorem mv_ch1_p {b c b' : Nat} : mv_ch1 v b c (64 + 8 * b' + 4) = v (64 + 8 * b' + 4) := by
  unfold mv_ch1
  rw [mv_vu_ne (by omega), mv_vu_ne (by omega), mv_vu_ne (by omega), mv_vu_ne (by omega), mv_vu_ne (by omega), mv_vu_ne (by omega)]
theorem mv_chg_p {b c b' : Nat} : mv_chg v b c (64 + 8 * b' + 4) = v (64 + 8 * b' + 4) := by
  unfold mv_chg
  split
  · exact mv_ch1_p
  · split
    · rw [mv_vu_ne (by omega), mv_vu_ne (by omega)]; exact mv_ch1_p
    · exact mv_ch1_p
theorem mv_go_p {b b' : Nat} : mv_go v C B b D (64 + 8 * b' + 4) = v (64 + 8 * b' + 4) := by
  unfold mv_go
  cases (mv_gl v C B b D).1 with
  | none => rfl
  | some c => exact mv_chg_p
theorem mv_df_p {b b' : Nat} {s : Nat × (Nat → Int32)} : (mv_df C B D b s).2 (64 + 8 * b' + 4) = s.2 (64 + 8 * b' + 4) := by
  unfold mv_df
  split
  · show mv_vu _ _ _ _ = _
    rw [mv_vu_ne (by omega), mv_vu_ne (by omega)]
  · split
    · exact mv_go_p
    · rfl
theorem mv_dl_p {b' : Nat} : (mv_dl C B D v).2 (64 + 8 * b' + 4) = v (64 + 8 * b' + 4) := by
  have key : ∀ k s, (mv_it (mv_df C B D) k 0 s).2 (64 + 8 * b' + 4) = s.2 (64 + 8 * b' + 4) := by
    intro k s
    induction k with
    | zero => rfl
    | succ k ih => rw [mv_it_last, mv_df_p, ih]
  unfold mv_dl
  rw [key]
  show mv_vu v 0 (nI D) (64 + 8 * b' + 4) = v (64 + 8 * b' + 4)
  exact mv_vu_ne (by omega)
theorem mv_dy_p {b' : Nat} : (mv_dy C B D v).2 (64 + 8 * b' + 4) = v (64 + 8 * b' + 4) := by
  show mv_vu (mv_dl C B D v).2 6 _ _ = _
  rw [mv_vu_ne (by omega), mv_dl_p]
theorem mv_ps_p {n b' : Nat} : (mv_ps C B D n v).2.2 (64 + 8 * b' + 4) = v (64 + 8 * b' + 4) := by
  have key : ∀ k, (mv_it (mv_ds C B) k 0 (D, 0, v)).2.2 (64 + 8 * b' + 4) = v (64 + 8 * b' + 4) := by
    intro k
    induction k with
    | zero => rfl
    | succ k ih =>
      rw [mv_it_last]
      generalize mv_it (mv_ds C B) k 0 (D, 0, v) = s at ih
      show (mv_dy C B (s.1 + 1) s.2.2).2 _ = _
      rw [mv_dy_p, ih]
  exact key n
theorem mv_PV_ps {n : Nat} (h : mv_PV v B) : mv_PV (mv_ps C B D n v).2.2 B := fun b hb => by rw [mv_ps_p]; exact h b hb
theorem mv_PV_v {v' : Nat → Int32} (e : ∀ b, b < B → v' (64 + 8 * b + 4) = v (64 + 8 * b + 4)) (h : mv_PV v B) : mv_PV v' B := fun b hb => by rw [e b hb]; exact h b hb
end PP
theorem mv_3079 {a : Int32} {lo n : Nat} (hlo : lo = 1) (hn : n + 1 < 2 ^ 30) (h : ¬ ∃ k, 1 ≤ k ∧ k ≤ n ∧ a = nI k) : (if a < nI 1 then nI 0 else if nI n < a then nI 0 else nI 1) = nI 0 ∧ (a < nI 1 ∨ (¬ a < nI 1 ∧ ¬ a ≤ nI n ∧ nI n < a)) := by
  by_cases h1 : a < nI 1
  · exact ⟨if_pos h1, Or.inl h1⟩
  · have h0 : ¬ a < 0 := fun z => h1 (Int32.lt_trans z (by decide))
    obtain ⟨k, hk, rfl⟩ := nI_of h0
    have hk1 : ¬ k < 1 := fun z => h1 (nI_lt z (by omega))
    have hkn : n < k := by
      apply Classical.byContradiction
      intro z
      exact h ⟨k, by omega, by omega, rfl⟩
    rw [if_neg h1, if_pos (nI_lt hkn hk)]
    exact ⟨rfl, Or.inr ⟨h1, nI_ge hkn hk, nI_lt hkn hk⟩⟩
theorem mv_in1 {k n : Nat} (h1 : 1 ≤ k) (h2 : k ≤ n) (hn : n < 2 ^ 30) : (if nI k < nI 1 then nI 0 else if nI n < nI k then nI 0 else nI 1) = nI 1 := by
  rw [if_neg (nI_nlt h1 (by omega)), if_neg (nI_nlt h2 (by omega))]
/-- the reference's half of a change: records, then a vector -/
theorem ag_0 : mv_Ag_0 mv_Inv := by
  intro a b
  refine mv_A1_of (fun j h0 I hj hI => ?_)
  obtain ⟨D, C, B, hD, hDj, hS, hV, hP, hW⟩ := mv_un hj hI
  have hM := hS.2.1
  have hR := xo_R1 hS
  have hC4 := hV.2.2.2.1
  have hB8 := hV.2.2.2.2.1
  rcases mv_ix a (n := 7) (by omega) with ha | ⟨w, hw, rfl⟩
  · refine ⟨mv_n1, h0, I, I, ?_, rfl, rfl, ?_, mv_lk0 hI⟩
    · unfold F_X6_stall J_X6_stall_17
      rw [ev_bd (week_no ha _), ev_t mv_z0]; rfl
    · unfold F_X7_stall J_X7_stall_20
      rw [li0, li6, mo_in', mv_in_no2 (n := 6) (by omega) ha, ev_t rfl]; rfl
  rcases mv_ix b (n := 6 + 1) (by omega) with hb | ⟨t, ht, rfl⟩
  · refine ⟨mv_n1, h0, I, I, ?_, rfl, rfl, ?_, mv_lk0 hI⟩
    · unfold F_X6_stall J_X6_stall_17
      rw [ev_bd (week_yes hw _), ev_f mv_z1, li6]
      by_cases h1 : b < 0
      · rw [ev_t h1]; rfl
      · rw [ev_f h1, ev_f (mv_hi (by omega) (hb.resolve_left h1)).2]; rfl
    · unfold F_X7_stall J_X7_stall_20
      rw [li0, li6, mo_in', mv_in_yes2 (n := 6) (by omega) (by omega), ev_f (show ¬ nI 1 = nI 0 by decide), mo_in', mv_in_no2 (n := 6) (by omega) hb, ev_t rfl]; rfl
  obtain ⟨h0', I1, L, e1, s1, s2, hS', hL, W1, F1, hL1, hPx, fin, -⟩ := mv_ck hI hC4 hB8 hW
  have hM' := hS'.2.1
  have hR' := xo_R1 hS'
  have W2 := mv_RV_w (x := nI t) hR' hB8 hw W1
  have F2 : mv_fr 1 I1 (mv_si I1 (1 + 1) (mv_vu (I1 (1 + 1)) w (nI t))) := mv_fr_si (by omega) (by omega)
  have f : ∀ i, 147 ≤ i → mv_si I1 (1 + 1) (mv_vu (I1 (1 + 1)) w (nI t)) i = I i := fun i hi => by rw [mv_si_ne (by omega)]; exact F1 i (by omega) (by omega) (by omega)
  have hsw : mv_sw (I 148) w = I 148 (9 + w) := by unfold mv_sw; rw [Nat.mod_eq_of_lt hw]
  refine ⟨I 148 (9 + w), h0', mv_si I1 (1 + 1) (mv_vu (I1 (1 + 1)) w (nI t)), _, ?_, s1, s2, ?_, fin _ _ F2 ⟨D, C, B, by omega, ⟨mv_VV_w hw (show t ≤ 6 by omega) hV, mv_PV_v (fun b hb => mv_vu_ne (by omega)) hP⟩, W2⟩⟩
  · unfold F_X6_stall
    rw [ev_bd (week_yes hw _), ev_f mv_z1, li6, ev_f (nI_pos (by omega)), ev_t (nI_le (by omega) (by omega)), xo_g0 hS, ro_rc hR, ro_stallOn' hR hW (by omega), hsw, xo_g3 hS, xo_g0 hS, hi_rc hS.2.2.2.2.1, ev_bd e1, xo_g0 hS', ro_rc hR', ev_bd (ro_stallMove hR' hw)]
    rfl
  · unfold F_X7_stall
    rw [li0, li6, mo_in', mv_in_yes2 (n := 6) (by omega) (by omega), ev_f (show ¬ nI 1 = nI 0 by decide), mo_in', mv_in_yes2 (n := 6) (by omega) (by omega), ev_f (show ¬ nI 1 = nI 0 by decide), mo_rc hM', mo_records' hM' hL (by rw [f 147 (by omega)]; exact hL1), mo_g0 hM', li9, nI_add, mo_r148 hM' (by omega), mo_g0 hM', mo_w148 hM' (by omega)]
    show some (mv_rd _ L 148 (9 + w), mv_hp h0' (mv_si (mv_rd _ L) 148 (mv_vu (mv_rd _ L 148) (9 + w) (nI t)))) = _
    rw [mv_rd_ne (by omega) (by omega), f 148 (by omega)]
theorem ag_1 : mv_Ag_1 mv_Inv := by
  intro a b
  refine mv_A1_of (fun j h0 I hj hI => ?_)
  obtain ⟨D, C, B, hD, hDj, hS, hV, hP, hW⟩ := mv_un hj hI
  have hM := hS.2.1
  have hR := xo_R1 hS
  have hC4 := hV.2.2.2.1
  have hB8 := hV.2.2.2.2.1
  have e3 := hV.2.1
  rcases mv_ix a (n := C) (by omega) with ha | ⟨c, hc, rfl⟩
  · refine ⟨mv_n1, h0, I, I, ?_, rfl, rfl, ?_, mv_lk0 hI⟩
    · unfold F_X6_ill J_X6_ill_23
      rw [xo_g0 hS, ro_rc hR, ev_bd (ro_carrierNo hR hW hV ha), ev_t rfl]; rfl
    · unfold F_X7_ill J_X7_ill_18
      rw [mo_rc hM, mo_isC' hM e3, mv_in_no (by omega) ha, ev_t mv_z0]; rfl
  rcases mv_ix b (n := 30 + 1) (by omega) with hb | ⟨d, hd, rfl⟩
  · refine ⟨mv_n1, h0, I, I, ?_, rfl, rfl, ?_, mv_lk0 hI⟩
    · unfold F_X6_ill J_X6_ill_23
      rw [xo_g0 hS, ro_rc hR, ev_bd (ro_carrierAt hR hW hV hc), ev_f (by simp), li30]
      by_cases h1 : b < 0
      · rw [ev_t h1]; rfl
      · rw [ev_f h1, ev_f (mv_hi (by omega) (hb.resolve_left h1)).2]; rfl
    · unfold F_X7_ill J_X7_ill_18
      rw [mo_rc hM, mo_isC' hM e3, mv_in_yes hc (by omega), ev_f mv_z1, li30, li0, mo_in', mv_in_no2 (by omega) hb, ev_t rfl]; rfl
  obtain ⟨h0', I1, L, e1, s1, s2, hS', hL, W1, F1, hL1, hPx, fin, -⟩ := mv_ck hI hC4 hB8 hW
  have hM' := hS'.2.1
  have hR' := xo_R1 hS'
  obtain ⟨I2, e2, W2, F2⟩ := st_c hR' hC4 hB8 W1 hc 3 (nI (if d = 0 then 0 else D + 1 + d)) (by omega)
  have f : ∀ i, 147 ≤ i → I2 i = I i := fun i hi => (F2 i (by omega) (by omega) (by omega)).trans (F1 i (by omega) (by omega) (by omega))
  have V2 : mv_VV (mv_vu (I 148) (16 + 12 * c + (3 + 6)) (nI (if d = 0 then 0 else D + 1 + d))) C B D := mv_VV_of hV (fun k hk => by unfold mv_rel at hk; exact mv_vu_ne (by omega))
  have r1 : I2 (1 + 4 + 2 * c) 3 = nI (if d = 0 then 0 else D + 1 + d) := by rw [(W2.2.2.1 c hc).2.2.1, mv_vu_eq]
  refine ⟨nI (if d = 0 then 0 else D + 1 + d), h0', I2, _, ?_, s1, s2, ?_, fin _ _ F2 ⟨D, C, B, by omega, ⟨V2, mv_PV_v (fun b hb => mv_vu_ne (by omega)) hP⟩, W2⟩⟩
  · unfold F_X6_ill J_X6_ill_56
    rw [xo_g0 hS, ro_rc hR, ev_bd (ro_carrierAt hR hW hV hc), ev_f (by simp), li30, ev_f (nI_pos (by omega)), ev_t (nI_le (by omega) (by omega)), xo_g3 hS, xo_g0 hS, hi_rc hS.2.2.2.2.1, ev_bd e1]
    by_cases hd0 : d = 0
    · subst hd0
      rw [ev_t mv_z0, show (0 : Int32) = nI (if 0 = 0 then 0 else D + 1 + 0) from rfl, e2, ro_cI hR' (by omega), r1]
      rfl
    · rw [ev_f (fun z => hd0 ((mv_eq0 (by omega)).mp z)), xo_g0 hS', ro_gI hR', W1.1.2.2.1, hV.1, li1, nI_add, nI_add, show nI (D + 1 + d) = nI (if d = 0 then 0 else D + 1 + d) by rw [if_neg hd0], e2, ro_cI hR' (by omega), r1]
      rfl
  · unfold F_X7_ill J_X7_ill_56
    rw [mo_rc hM', mo_isC' hM' (by rw [f 148 (by omega)]; exact e3), mv_in_yes hc (by omega), ev_f mv_z1, li30, li0, mo_in', mv_in_yes2 (by omega) (by omega), ev_f (show ¬ nI 1 = nI 0 by decide), mo_rc hM', mo_records' hM' hL (by rw [f 147 (by omega)]; exact hL1), mo_g0 hM', li9, mv_ix16]
    show _ = some (_, mv_hp h0' (mv_si (mv_rd I2 L) 148 (mv_vu (I 148) (16 + 12 * c + 9) (nI (if d = 0 then 0 else D + 1 + d)))))
    have hrd : mv_rd I2 L 148 = I 148 := by rw [mv_rd_ne (by omega) (by omega), f 148 (by omega)]
    have rd : mv_si (mv_si I2 150 (mv_rp (I2 148) (I2 150) L)) 147 (mv_vu (I2 147) 3 (nI (mv_rk L))) = mv_rd I2 L := rfl
    rw [rd]
    by_cases hd0 : d = 0
    · subst hd0
      rw [ev_t rfl, mo_w148 hM' (by omega), mo_rc hM', mo_ofC' hM' (by omega), hrd, mv_si_eq, mv_vu_eq, if_pos rfl]
      rfl
    · rw [ev_f (fun z => hd0 ((mv_eq (by omega) (by omega)).mp z)), mo_g0 hM', mo_r148 hM' (by omega), hrd, hV.1, li1, nI_add, nI_add, mo_w148 hM' (by omega), mo_rc hM', mo_ofC' hM' (by omega), hrd, mv_si_eq, mv_vu_eq, if_neg hd0]
      rfl
theorem ag_2 : mv_Ag_2 mv_Inv := by
  intro a b
  refine mv_A1_of (fun j h0 I hj hI => ?_)
  obtain ⟨D, C, B, hD, hDj, hS, hV, hP, hW⟩ := mv_un hj hI
  have hM := hS.2.1
  have hR := xo_R1 hS
  have hC4 := hV.2.2.2.1
  have hB8 := hV.2.2.2.2.1
  have e3 := hV.2.1
  rcases mv_ix a (n := C) (by omega) with ha | ⟨c, hc, rfl⟩
  · refine ⟨mv_n1, h0, I, I, ?_, rfl, rfl, ?_, mv_lk0 hI⟩
    · unfold F_X6_rough J_X6_rough_23
      rw [xo_g0 hS, ro_rc hR, ev_bd (ro_carrierNo hR hW hV ha), ev_t rfl]; rfl
    · unfold F_X7_rough J_X7_rough_18
      rw [mo_rc hM, mo_isC' hM e3, mv_in_no (by omega) ha, ev_t mv_z0]; rfl
  rcases mv_ix b (n := 9 + 1) (by omega) with hb | ⟨d, hd, rfl⟩
  · refine ⟨mv_n1, h0, I, I, ?_, rfl, rfl, ?_, mv_lk0 hI⟩
    · unfold F_X6_rough J_X6_rough_23
      rw [xo_g0 hS, ro_rc hR, ev_bd (ro_carrierAt hR hW hV hc), ev_f (by simp), li9]
      by_cases h1 : b < 0
      · rw [ev_t h1]; rfl
      · rw [ev_f h1, ev_f (mv_hi (by omega) (hb.resolve_left h1)).2]; rfl
    · unfold F_X7_rough J_X7_rough_18
      rw [mo_rc hM, mo_isC' hM e3, mv_in_yes hc (by omega), ev_f mv_z1, li9, li0, mo_in', mv_in_no2 (by omega) hb, ev_t rfl]; rfl
  obtain ⟨h0', I1, L, e1, s1, s2, hS', hL, W1, F1, hL1, hPx, fin, -⟩ := mv_ck hI hC4 hB8 hW
  have hM' := hS'.2.1
  have hR' := xo_R1 hS'
  obtain ⟨I2, e2, W2, F2⟩ := st_c hR' hC4 hB8 W1 hc 2 (nI d) (by omega)
  have f : ∀ i, 147 ≤ i → I2 i = I i := fun i hi => (F2 i (by omega) (by omega) (by omega)).trans (F1 i (by omega) (by omega) (by omega))
  have V2 : mv_VV (mv_vu (I 148) (16 + 12 * c + (2 + 6)) (nI d)) C B D := mv_VV_of hV (fun k hk => by unfold mv_rel at hk; exact mv_vu_ne (by omega))
  refine ⟨I 148 (16 + 12 * c + 8), h0', I2, _, ?_, s1, s2, ?_, fin _ _ F2 ⟨D, C, B, by omega, ⟨V2, mv_PV_v (fun b hb => mv_vu_ne (by omega)) hP⟩, W2⟩⟩
  · unfold F_X6_rough
    rw [xo_g0 hS, ro_rc hR, ev_bd (ro_carrierAt hR hW hV hc), ev_f (by simp), li9, ev_f (nI_pos (by omega)), ev_t (nI_le (by omega) (by omega)), ro_cI hR (by omega), (hW.2.2.1 c hc).2.1, xo_g3 hS, xo_g0 hS, hi_rc hS.2.2.2.2.1, ev_bd e1, e2]
    rfl
  · unfold F_X7_rough
    rw [mo_rc hM', mo_isC' hM' (by rw [f 148 (by omega)]; exact e3), mv_in_yes hc (by omega), ev_f mv_z1, li9, li0, mo_in', mv_in_yes2 (by omega) (by omega), ev_f (show ¬ nI 1 = nI 0 by decide), mo_rc hM', mo_records' hM' hL (by rw [f 147 (by omega)]; exact hL1), mo_rc hM', li8, mo_ofC' hM' (by omega), mo_g0 hM', mv_ix16, mo_w148 hM' (by omega)]
    show some (mv_rd _ L 148 (16 + 12 * c + 8), mv_hp h0' (mv_si (mv_rd _ L) 148 (mv_vu (mv_rd _ L 148) (16 + 12 * c + 8) (nI d)))) = _
    rw [mv_rd_ne (by omega) (by omega), f 148 (by omega)]
theorem ag_3 : mv_Ag_3 mv_Inv := by
  intro a
  refine mv_A1_of (fun j h0 I hj hI => ?_)
  obtain ⟨D, C, B, hD, hDj, hS, hV, hP, hW⟩ := mv_un hj hI
  have hM := hS.2.1
  have hR := xo_R1 hS
  have hC4 := hV.2.2.2.1
  have hB8 := hV.2.2.2.2.1
  by_cases ha : ∃ k, 1 ≤ k ∧ k ≤ 8 ∧ a = nI k
  · obtain ⟨d, d1, d2, rfl⟩ := ha
    obtain ⟨h0', I1, L, e1, s1, s2, hS', hL, W1, F1, hL1, hPx, fin, -⟩ := mv_ck hI hC4 hB8 hW
    have hM' := hS'.2.1
    have hR' := xo_R1 hS'
    obtain ⟨I2, e2, W2, F2⟩ := st_r hR' hB8 W1 6 1 (nI d) (by omega)
    have f : ∀ i, 147 ≤ i → I2 i = I i := fun i hi => (F2 i (by omega) (by omega) (by omega)).trans (F1 i (by omega) (by omega) (by omega))
    have V2 : mv_VV (mv_vu (I 148) 1 (nI d)) C B D := mv_VV_of hV (fun k hk => by unfold mv_rel at hk; exact mv_vu_ne (by omega))
    refine ⟨I 148 1, h0', I2, _, ?_, s1, s2, ?_, fin _ _ F2 ⟨D, C, B, by omega, ⟨V2, mv_PV_v (fun b hb => mv_vu_ne (by omega)) hP⟩, W2⟩⟩
    · unfold F_X6_load
      rw [li1, li8, ev_f (nI_nlt d1 (by omega)), ev_t (nI_le d2 (by omega)), xo_g0 hS, ro_gI hR, hW.1.2.2.2.1, xo_g3 hS, xo_g0 hS, hi_rc hS.2.2.2.2.1, ev_bd e1, xo_g0 hS', e2]
      rfl
    · unfold F_X7_load
      rw [li1, li8, mo_in', mv_in1 d1 d2 (by omega), ev_f mv_z1, mo_rc hM', mo_records' hM' hL (by rw [f 147 (by omega)]; exact hL1), mo_g0 hM', mo_r148 hM' (by omega), mo_g0 hM', mo_w148 hM' (by omega)]
      show some (mv_rd _ L 148 1, mv_hp h0' (mv_si (mv_rd _ L) 148 (mv_vu (mv_rd _ L 148) 1 (nI d)))) = _
      rw [mv_rd_ne (by omega) (by omega), f 148 (by omega)]
  · obtain ⟨q1, q2⟩ := mv_3079 rfl (by omega) ha
    refine ⟨mv_n1, h0, I, I, ?_, rfl, rfl, ?_, mv_lk0 hI⟩
    · unfold F_X6_load J_X6_load_11
      rw [li1, li8]
      rcases q2 with h | ⟨h1, h2, -⟩
      · rw [ev_t h]; rfl
      · rw [ev_f h1, ev_f h2]; rfl
    · unfold F_X7_load
      rw [li1, li8, mo_in', q1, ev_t mv_z0]; rfl
