theorem ag_4 : mv_Ag_4 mv_Inv := by
  intro a b
  refine mv_A1_of (fun j h0 I hj hI => ?_)
  obtain ⟨D, C, B, hD, hDj, hS, hV, hP, hW⟩ := mv_un hj hI
  have hM := hS.2.1
  have hR := xo_R1 hS
  have hC4 := hV.2.2.2.1
  have hB8 := hV.2.2.2.2.1
  have e4 := hV.2.2.1
  rcases mv_two a b with h | ⟨f, t, hf, ht, ne, rfl, rfl⟩
  · refine ⟨mv_n1, h0, I, I, ?_, rfl, rfl, ?_, mv_lk0 hI⟩
    · unfold F_X6_post
      rw [ev_bd (two_no h _), ev_t mv_z0]; rfl
    · unfold F_X7_post
      rw [ev_bd (way_no h _), ev_t mv_z0]; rfl
  by_cases hB : B < 8
  · obtain ⟨h0', I1, L, e1, s1, s2, hS', hL, W1, F1, hL1, hPx, fin, -⟩ := mv_ck hI hC4 hB8 hW
    have hM' := hS'.2.1
    have hR' := xo_R1 hS'
    have hF' := hS'.2.2.2.1
    obtain ⟨f2, g2, e2⟩ := fo_ifLying hF' (by omega) hR' W1 hV (show D < 100000 by omega) (show f ≤ 5 by omega) (show t ≤ 5 by omega)
    have W2 := mv_RV_fo (f := f2) (g := g2) (by omega) hR' hC4 hB8 W1
    obtain ⟨I3, e3, W3, F3⟩ := ro_addB (f := f) (t := t) (p := mv_pp (I 148) C D f t) hR' W2 hV hB (by omega)
    have F2 : mv_fr 1 I1 I3 := mv_fr_trans mv_fr_fo F3
    have fI : ∀ i, 147 ≤ i → I3 i = I i := fun i hi => (F2 i (by omega) (by omega) (by omega)).trans (F1 i (by omega) (by omega) (by omega))
    refine ⟨mv_pp (I 148) C D f t, h0', I3, _, ?_, s1, s2, ?_, fin _ _ F2 ⟨D, C, B + 1, by omega, ⟨mv_VV_pw hV hB (by omega) (by omega), mv_PV_pw hP (mv_pp_val (by omega))⟩, W3⟩⟩
    · unfold F_X6_post
      rw [ev_bd (two_yes hf ht ne _), ev_f mv_z1, xo_g0 hS, ro_gI hR, hW.1.2.1, e4, li8, ev_t (nI_lt hB (by omega)), xo_g3 hS, xo_g0 hS, hi_rc hS.2.2.2.2.1, ev_bd e1, xo_g5 hS', xo_g0 hS', xo_g0 hS', ro_gI hR', W1.1.2.2.1, hV.1, fo_rc hF', ev_bd e2, xo_g0 hS', ro_rc hR', ev_bd e3]
      rfl
    · have hrd : mv_rd I3 L 148 = I 148 := by rw [mv_rd_ne (by omega) (by omega), fI 148 (by omega)]
      have rd : mv_si (mv_si I3 150 (mv_rp (I3 148) (I3 150) L)) 147 (mv_vu (I3 147) 3 (nI (mv_rk L))) = mv_rd I3 L := rfl
      unfold F_X7_post
      rw [ev_bd (way_yes hf ht ne _), ev_f mv_z1, mo_g0 hM', li4, mo_r148 hM' (by omega), fI 148 (by omega), e4, li8, ev_f (fun z => by have := (mv_eq (by omega) (by omega)).mp z; omega), mo_rc hM', mo_records' hM' hL (by rw [fI 147 (by omega)]; exact hL1), rd, mo_rc hM', mo_goPost' hM' (by rw [hrd]; exact hV) hB (by omega), hrd]
      rfl
  · have hB' : B = 8 := by omega
    refine ⟨mv_n3, h0, I, I, ?_, rfl, rfl, ?_, mv_lk0 hI⟩
    · unfold F_X6_post
      rw [ev_bd (two_yes hf ht ne _), ev_f mv_z1, xo_g0 hS, ro_gI hR, hW.1.2.1, e4, li8, ev_f (nI_nlt (by omega) (by omega))]
      rfl
    · unfold F_X7_post
      rw [ev_bd (way_yes hf ht ne _), ev_f mv_z1, mo_g0 hM, li4, mo_r148 hM (by omega), e4, li8, hB', ev_t rfl]
      rfl
theorem mv_CI_now2 {j j' : Nat} {h0 h1 : mv_Hp} {I I' : Nat → Nat → Int32} {v v' : Nat → Int32} {L : Nat} {p : Nat → Int32} {z : Int32} {ks : Nat → Int32} {M : Nat} {pd : Nat → Int32} (hj : j ≤ j') (k1 : h1.1 = h0.1) (hP : ∀ x, x ≠ 4 → h1.2.2.2 x = h0.2.2.2 x) (hR1 : mv_RS h1 1) (hF : mv_fr 1 I I') (hO : mv_OK j' h1 I' 1 v') (h : mv_CI j h0 I v L p z ks M pd) : mv_CI j' h1 I' v' L p z ks M pd := by
  obtain ⟨hC, -, ⟨a1, a2, a3⟩, ⟨b1, b2⟩, c1⟩ := h
  have sr : ∀ i, mv_sr h1 i = mv_sr h0 i := fun i => by unfold mv_sr; rw [hP 62 (by omega)]
  have hC1 : mv_CS h1 := by
    obtain ⟨q1, q2, q3, q4, q5, q6, q7⟩ := hC
    refine ⟨k1.trans q1, ?_, ?_, ?_, ?_, by rw [hP 143 (by omega)]; exact q6, fun r hr => ?_⟩
    · unfold mv_MS; rw [k1, hP 147 (by omega)]; exact q2
    · rw [hP 0 (by omega)]; exact q3
    · unfold mv_FS; rw [k1, hP 145 (by omega)]; exact q4
    · unfold mv_HS
      rw [k1, hP 61 (by omega), hP 62 (by omega)]
      refine ⟨q5.1, q5.2.1, q5.2.2.1, fun i hi => ?_, fun i i' hi hi' e => q5.2.2.2.2 i i' hi hi' (by rw [← sr, ← sr]; exact e)⟩
      rw [sr]; exact q5.2.2.2.1 i hi
    · by_cases e : r = 1
      · subst e; exact hR1
      · exact mv_RS_congr k1 (fun i w1 w2 => hP i (by unfold mv_blk at hr; omega)) (q7 r hr)
  refine ⟨hC1, hO, ⟨by rw [hF 61 (by omega) (by omega) (by omega)]; exact a1, a2, fun k hk => ?_⟩, ⟨by rw [hF 0 (by omega) (by omega) (by omega)]; exact b1, b2.imp id (fun b => ⟨b.1, ?_⟩)⟩, mv_PD_congr (hF 143 (by omega) (by omega) (by omega)) (hF 144 (by omega) (by omega) (by omega)) c1⟩
  · have rg := mv_sr_rng hC (show k < 4 by omega)
    rw [sr]
    exact mv_OK_le hj (mv_OK_congr (mv_st63 hC (by omega)) (fun b => by rw [hP _ (by omega)]) (fun i q1 q2 => hF i (by omega) (by omega) (by omega)) (a3 k hk))
  · exact mv_OK_le hj (mv_OK_congr (hC.2.2.2.2.2.2 41 (by unfold mv_blk; omega)) (fun b => by rw [hP _ (by omega)]) (fun i q1 q2 => hF i (by omega) (by omega) (by omega)) b.2)
theorem mo_forgetLoop {h0 : mv_Hp} {v : Nat → Int32} {b B : Nat} (hM : mv_MS h0) (hb : b < B) (hB8 : B ≤ 8) : ∀ (k n c : Nat) (J : Nat → Nat → Int32), c + k = 128 → 64 + 8 * b ≤ c → k < n → (∀ i, J 148 i = if i < c then mv_rv v b B i else v i) → ∃ w, Lp_X7_forget_43 147 n (nI c) (mv_hp h0 J) = some (nI (B - 1), mv_hp h0 (mv_si J 148 w)) ∧ ∀ i, i < 128 → w i = mv_rv v b B i := by
  intro k
  induction k with
  | zero =>
    intro n c J hc hbc hn hJ
    obtain ⟨n, rfl⟩ := Nat.exists_eq_succ_of_ne_zero (show n ≠ 0 by omega)
    have hc' : c = 128 := by omega
    subst hc'
    have j4 : J 148 4 = nI (B - 1) := by rw [hJ, if_pos (by omega)]; unfold mv_rv; rw [if_neg (by omega), if_pos rfl]
    rw [Lp_X7_forget_43, li128, ev_t (nI_le (Nat.le_refl _) (by omega)), mo_g0 hM, li4, mo_r148 hM (by omega), j4]
    exact ⟨J 148, by rw [mv_si_self]; rfl, fun i hi => by rw [hJ, if_pos hi]⟩
  | succ k ih =>
    intro n c J hc hbc hn hJ
    obtain ⟨n, rfl⟩ := Nat.exists_eq_succ_of_ne_zero (show n ≠ 0 by omega)
    have step : ∀ x : Int32, x = mv_rv v b B c → ∃ w, J_X7_forget_78 (Lp_X7_forget_43 147 n) 147 (nI c) (some 148) (nI c) x (mv_hp h0 J) = some (nI (B - 1), mv_hp h0 (mv_si J 148 w)) ∧ ∀ i, i < 128 → w i = mv_rv v b B i := by
      intro x hx
      obtain ⟨w, e, hw⟩ := ih n (c + 1) (mv_si J 148 (mv_vu (J 148) c x)) (by omega) (by omega) (by omega) (fun i => by
        rw [mv_si_eq]
        by_cases h : i = c
        · subst h; rw [mv_vu_eq, if_pos (by omega), hx]
        · rw [mv_vu_ne h, hJ]
          by_cases h2 : i < c
          · rw [if_pos h2, if_pos (by omega)]
          · rw [if_neg h2, if_neg (by omega)])
      refine ⟨w, ?_, hw⟩
      unfold J_X7_forget_78
      rw [mo_w148 hM (by omega), li1, nI_add, e, mv_si_si]
    rw [Lp_X7_forget_43, li128, ev_f (nI_ge (by omega) (by omega)), mo_g0 hM, li8, nI_add]
    by_cases h8 : 128 ≤ c + 8
    · rw [ev_t (nI_le h8 (by omega))]
      exact step _ (by unfold mv_rv; rw [if_pos (by omega), if_neg (by omega)]; rfl)
    · rw [ev_f (nI_ge (by omega) (by omega)), mo_g0 hM, mo_r148 hM (by omega), hJ, if_neg (by omega)]
      exact step _ (by unfold mv_rv; rw [if_pos (by omega), if_pos (by omega)])
theorem ag_5 : mv_Ag_5 mv_Inv := by
  intro a
  refine mv_A1_of (fun j h0 I hj hI => ?_)
  obtain ⟨D, C, B, hD, hDj, hS, hV, hP, hW⟩ := mv_un hj hI
  have hM := hS.2.1
  have hR := xo_R1 hS
  have hC4 := hV.2.2.2.1
  have hB8 := hV.2.2.2.2.1
  have e4 := hV.2.2.1
  rcases mv_ix a (n := B) (by omega) with ha | ⟨b, hb, rfl⟩
  · refine ⟨mv_n1, h0, I, I, ?_, rfl, rfl, ?_, mv_lk0 hI⟩
    · unfold F_X6_forget
      rw [xo_g0 hS, ro_rc hR, ev_bd (ro_bundleNo hR hW hV ha), ev_t rfl]; rfl
    · unfold F_X7_forget
      rw [mo_rc hM, mo_isB' hM e4, mv_in_no (by omega) ha, ev_t mv_z0]; rfl
  obtain ⟨h0', I1, L, e1, s1, s2, hS', hL, W1, F1, hL1, hPx, -, M, z, hCI, hz, hMl⟩ := mv_ck hI hC4 hB8 hW
  have hM' := hS'.2.1
  have hR' := xo_R1 hS'
  obtain ⟨I2, e2, W2, F2⟩ := ro_remB hR' W1 hV hb
  have hne : ∀ x, x ≠ 4 → (mv_hq h0' (mv_pq h0'.2.2.2 1 b B)).2.2.2 x = h0'.2.2.2 x := fun x hx => mv_pq_ne (by omega)
  have hRq := mv_RS_pq hR' hb hB8
  have hC2 := mv_CI_now2 (h0 := h0') (h1 := mv_hq h0' (mv_pq h0'.2.2.2 1 b B)) (Nat.le_succ j) rfl hne hRq F2 ⟨D, C, B - 1, by omega, ⟨mv_VV_rv hV hb, mv_PV_rv hP hb hB8⟩, W2⟩ hCI
  have hS2 := hC2.1
  have hM2 := hS2.2.1
  have fI : ∀ i, 147 ≤ i → I2 i = I i := fun i hi => (F2 i (by omega) (by omega) (by omega)).trans (F1 i (by omega) (by omega) (by omega))
  have hrd : mv_rd I2 L 148 = I 148 := by rw [mv_rd_ne (by omega) (by omega), fI 148 (by omega)]
  have rd : mv_si (mv_si I2 150 (mv_rp (I2 148) (I2 150) L)) 147 (mv_vu (I2 147) 3 (nI (mv_rk L))) = mv_rd I2 L := rfl
  obtain ⟨w, ew, hw⟩ := mo_forgetLoop (v := I 148) hM2 hb hB8 (128 - (64 + 8 * b)) mv_FU (64 + 8 * b) (mv_si (mv_rd I2 L) 148 (mv_vu (mv_vu (I 148) 4 (nI (B - 1))) 7 (I 148 7 + nI 1))) (by omega) (Nat.le_refl _) (by show _ < 1000; omega) (fun i => by
    rw [mv_si_eq]
    by_cases h : i < 64 + 8 * b
    · rw [if_pos h]
      unfold mv_rv
      rw [if_neg (by omega)]
      by_cases h4 : i = 4
      · subst h4; rw [mv_vu_ne (by omega), mv_vu_eq, if_pos rfl]
      · rw [if_neg h4]
        by_cases h7 : i = 7
        · subst h7; rw [mv_vu_eq, if_pos rfl]
        · rw [if_neg h7, mv_vu_ne h7, mv_vu_ne h4]
    · rw [if_neg h, mv_vu_ne (by omega), mv_vu_ne (by omega)])
  rw [mv_si_si] at ew
  refine ⟨nI (B - 1), mv_hq h0' (mv_pq h0'.2.2.2 1 b B), I2, mv_si (mv_rd I2 L) 148 w, ?_, s1, s2, ?_, ?_⟩
  · unfold F_X6_forget
    rw [xo_g0 hS, ro_rc hR, ev_bd (ro_bundleAt hR hW hV hb), ev_f (by simp), xo_g3 hS, xo_g0 hS, hi_rc hS.2.2.2.2.1, ev_bd e1, xo_g0 hS', ro_rc hR', ev_bd e2, xo_g0 hS2, ro_gI hRq, W2.1.2.1]
    show mv_pu (mv_rv (I 148) b B 4) _ = _
    rw [show mv_rv (I 148) b B 4 = nI (B - 1) by unfold mv_rv; rw [if_neg (by omega), if_pos rfl]]
    rfl
  · unfold F_X7_forget
    rw [mo_rc hM2, mo_isB' hM2 (by rw [fI 148 (by omega)]; exact e4), mv_in_yes hb (by omega), ev_f mv_z1, mo_rc hM2, mo_records' hM2 hL (by rw [fI 147 (by omega)]; exact hL1), rd, mo_g0 hM2, li4, mo_r148 hM2 (by omega), hrd, e4, li1, pk_sub (by omega), mo_w148 hM2 (by omega), hrd, mo_g0 hM2, li7, mo_r148 hM2 (by omega), mv_si_eq, mv_vu_ne (by omega), mo_w148 hM2 (by omega), mv_si_eq, mv_si_si, li64, li8, pk_mul, nI_add, ev_bpu, ew]
  · refine ⟨s2.trans hI.1, mv_rk L, M, z, ?_, ?_, ?_, ?_⟩
    · show mv_CI (j + 1) (mv_hp (mv_hq h0' (mv_pq h0'.2.2.2 1 b B)) _) (mv_si (mv_rd I2 L) 148 w) (mv_si (mv_rd I2 L) 148 w 148) _ (mv_si (mv_rd I2 L) 148 w 150) _ (mv_si (mv_rd I2 L) 148 w 151) _ (mv_si (mv_rd I2 L) 148 w 152)
      rw [mv_si_eq, mv_si_ne (by omega), mv_si_ne (by omega), mv_si_ne (by omega), mv_rd_ne (show 151 ≠ 150 by omega) (by omega), mv_rd_ne (show 152 ≠ 150 by omega) (by omega), fI 151 (by omega), fI 152 (by omega), show mv_rd I2 L 150 = mv_rp (I 148) (I 150) L by unfold mv_rd; rw [mv_si_ne (by omega), mv_si_eq, fI 148 (by omega), fI 150 (by omega)]]
      obtain ⟨a1, a2, a3⟩ := mv_CI_rows (Nat.le_refl _) (I := I2) (J := mv_si (mv_rd I2 L) 148 w) (fun i w1 _ _ _ => by rw [mv_si_ne (by omega), mv_rd_ne (by omega) (by omega)]) hC2
      exact mv_CI_hp ⟨a1, mv_OK_v (Nat.le_refl _) hw a2, a3⟩
    · show mv_si (mv_rd I2 L) 148 w 147 3 = _
      rw [mv_si_ne (by omega)]; unfold mv_rd; rw [mv_si_eq, mv_vu_eq]
    · show mv_si (mv_rd I2 L) 148 w 147 5 = _
      rw [mv_si_ne (by omega)]; unfold mv_rd; rw [mv_si_eq, mv_vu_ne (by omega), fI 147 (by omega)]; exact hz
    · show mv_si (mv_rd I2 L) 148 w 147 7 = _
      rw [mv_si_ne (by omega)]; unfold mv_rd; rw [mv_si_eq, mv_vu_ne (by omega), fI 147 (by omega)]; exact hMl
theorem ro_passN {h0 : mv_Hp} {I : Nat → Nat → Int32} {r C B D : Nat} {v : Nat → Int32} (hF : mv_FS h0) (hr : r + 20 ≤ 145) (hR : mv_RS h0 r) (hV : mv_VV v C B D) (hD : D < 16000) {k : Nat} (hk : k ≤ 30) {J : Nat → Nat → Int32} (hJ : mv_RV h0 J r (mv_it (mv_ds C B) k 0 (D, 0, v)).2.2 C B) : ∃ J', F_X5_passDay r (some 145) (mv_hp h0 J) = some ((), mv_hp h0 J') ∧ mv_RV h0 J' r (mv_it (mv_ds C B) (k + 1) 0 (D, 0, v)).2.2 C B ∧ mv_fr r J J' := by
  have hV' := mv_VV_ps k 0 (D, 0, v) hV
  have hs := mv_ps_D (C := C) (B := B) k 0 (D, 0, v)
  have e := mv_it_last (mv_ds C B) k 0 (D, 0, v)
  rw [e]
  generalize mv_it (mv_ds C B) k 0 (D, 0, v) = s at hJ hV' hs
  have hs' : s.1 = D + k := hs
  have hV2 : mv_VV s.2.2 C B s.1 := by rw [hs']; exact hV'
  exact ro_passDay hF hr hR hJ hV2 (by omega)
theorem ag_6 : mv_Ag_6 mv_Inv := by
  intro a
  refine mv_A1_of (fun j h0 I hj hI => ?_)
  obtain ⟨D, C, B, hD, hDj, hS, hV, hP, hW⟩ := mv_un hj hI
  have hM := hS.2.1
  have hR := xo_R1 hS
  have hC4 := hV.2.2.2.1
  have hB8 := hV.2.2.2.2.1
  by_cases ha : ∃ k, 1 ≤ k ∧ k ≤ 30 ∧ a = nI k
  · obtain ⟨N, d1, d2, rfl⟩ := ha
    obtain ⟨h0', I1, L, e1, s1, s2, hS', hL, W1, F1, hL1, hPx, fin, -⟩ := mv_ck hI hC4 hB8 hW
    have hM' := hS'.2.1
    have hR' := xo_R1 hS'
    have hF' := hS'.2.2.2.1
    obtain ⟨n, I2, e2, W2, F2⟩ := mv_lp (L := fun n k (J : Nat → Nat → Int32) => Lp_X6_pass_34 0 (nI N) (I 148 6) n (nI k) (mv_hp h0' J)) (fun k J => mv_RV h0' J 1 (mv_it (mv_ds C B) k 0 (D, 0, I 148)).2.2 C B ∧ mv_fr 1 I1 J) N (by omega)
      (fun n k J hk hP => by
        obtain ⟨p1, p2⟩ := hP
        obtain ⟨J', z1, z2, z3⟩ := ro_passN (I := J) hF' (by omega) hR' hV hD (show k ≤ 30 by omega) p1
        rw [Lp_X6_pass_34, ev_f (nI_ge hk (by omega)), xo_g0 hS', xo_g5 hS', ro_rc hR', ev_bd z1, li1, nI_add]
        exact ⟨J', rfl, z2, mv_fr_trans p2 z3⟩)
      I1 ⟨W1, mv_fr_rfl⟩
    have f : ∀ i, 147 ≤ i → I2 i = I i := fun i hi => (F2 i (by omega) (by omega) (by omega)).trans (F1 i (by omega) (by omega) (by omega))
    have hrd : mv_rd I2 L 148 = I 148 := by rw [mv_rd_ne (by omega) (by omega), f 148 (by omega)]
    have rd : mv_si (mv_si I2 150 (mv_rp (I2 148) (I2 150) L)) 147 (mv_vu (I2 147) 3 (nI (mv_rk L))) = mv_rd I2 L := rfl
    have V2 : mv_VV (mv_ps C B D N (I 148)).2.2 C B (D + N) := mv_VV_ps N 0 (D, 0, I 148) hV
    have W2' : mv_RV h0' I2 1 (mv_ps C B D N (I 148)).2.2 C B := W2
    refine ⟨nI (mv_ps C B D N (I 148)).2.1, h0', I2, _, ?_, s1, s2, ?_, fin _ _ F2 ⟨D + N, C, B, by omega, ⟨V2, mv_PV_ps hP⟩, W2'⟩⟩
    · unfold F_X6_pass
      have e2' : Lp_X6_pass_34 0 (nI N) (I 148 6) mv_FU 0 (mv_hp h0' I1) = Lp_X6_pass_34 0 (nI N) (I 148 6) (n + 1) (nI N) (mv_hp h0' I2) := e2
      rw [li1, li30, ev_f (nI_nlt d1 (by omega)), ev_t (nI_le d2 (by omega)), xo_g0 hS, ro_gI hR, hW.1.2.2.2.2.2.2.1, xo_g3 hS, xo_g0 hS, hi_rc hS.2.2.2.2.1, ev_bd e1, e2', Lp_X6_pass_34, ev_t (nI_le (Nat.le_refl _) (by omega)), xo_g0 hS', ro_gI hR', W2'.1.2.2.2.2.2.2.1, mv_ps_v6, Int32.add_comm, Int32.add_sub_cancel]
      rfl
    · unfold F_X7_pass
      rw [li1, li30, mo_in', mv_in1 d1 d2 (by omega), ev_f mv_z1, mo_rc hM', mo_records' hM' hL (by rw [f 147 (by omega)]; exact hL1), rd, mo_rc hM', mo_goPass' hM' (by rw [hrd]; exact hV) d2 (by omega), hrd]
      rfl
  · obtain ⟨q1, q2⟩ := mv_3079 rfl (by omega) ha
    refine ⟨mv_n1, h0, I, I, ?_, rfl, rfl, ?_, mv_lk0 hI⟩
    · unfold F_X6_pass J_X6_pass_11
      rw [li1, li30]
      rcases q2 with h | ⟨h1, h2, -⟩
      · rw [ev_t h]; rfl
      · rw [ev_f h1, ev_f h2]; rfl
    · unfold F_X7_pass
      rw [li1, li30, mo_in', q1, ev_t mv_z0]; rfl
