theorem mv_CI_pad0 {j : Nat} {h0 : mv_Hp} {I J : Nat → Nat → Int32} {v : Nat → Int32} {L : Nat} {p : Nat → Int32} {z : Int32} {ks : Nat → Int32} {M : Nat} {pd pd' : Nat → Int32} (h : mv_CI j h0 I v L p z ks M pd) (hF : ∀ i, i < 147 → i ≠ 143 → i ≠ 145 → i ≠ 146 → J i = I i) (h0' : J 143 1 = nI 0) : mv_CI j h0 J v L p z ks 0 pd' := by
  obtain ⟨hC, hO, ⟨a1, a2, a3⟩, ⟨b1, b2⟩, c1⟩ := h
  refine ⟨hC, mv_OK_congr (xo_R1 hC) (fun _ => rfl) (fun i q1 q2 => hF i (by omega) (by omega) (by omega) (by omega)) hO, ⟨by rw [hF 61 (by omega) (by omega) (by omega) (by omega)]; exact a1, a2, fun k hk => ?_⟩, ⟨by rw [hF 0 (by omega) (by omega) (by omega) (by omega)]; exact b1, b2.imp id (fun b => ⟨b.1, ?_⟩)⟩, ⟨h0', by omega, fun k hk => by omega⟩⟩
  · have := mv_sr_rng hC (show k < 4 by omega)
    exact mv_OK_congr (mv_st63 hC (by omega)) (fun _ => rfl) (fun i q1 q2 => hF i (by omega) (by omega) (by omega) (by omega)) (a3 k hk)
  · exact mv_OK_congr (xo_R41 hC) (fun _ => rfl) (fun i q1 q2 => hF i (by omega) (by omega) (by omega) (by omega)) b.2
/-- the end of a call that has read the pad: now changed, the pad empty -/
theorem mv_fin0 {j : Nat} {h0' : mv_Hp} {I I1 I2 : Nat → Nat → Int32} {f g v' : Nat → Int32} {L M : Nat} {z : Int32} (hS0 : h0'.2.1 = mv_S0) (hCI : mv_CI j h0' I1 (I 148) (mv_rk L) (mv_rp (I 148) (I 150) L) z (I 151) M (I 152)) (hF : mv_fr 1 I1 I2) (hO : mv_OK (j + 1) h0' I2 1 v') (hI : ∀ i, 147 ≤ i → I2 i = I i) (f3 : f 3 = nI L) (f5 : f 5 = z) : mv_Inv (j + 1) (mv_hp h0' (mv_si (mv_si (mv_rd (mv_tI (mv_si I2 143 (mv_vu (I2 143) 1 (nI 0))) f g) L) 147 (mv_vu (mv_rd (mv_tI (mv_si I2 143 (mv_vu (I2 143) 1 (nI 0))) f g) L 147) 7 (nI 0))) 148 v')) := by
  generalize hX : mv_tI (mv_si I2 143 (mv_vu (I2 143) 1 (nI 0))) f g = X
  have x147 : X 147 = f := by rw [← hX]; exact mv_tI_1
  have xne : ∀ i, i ≠ 147 → i ≠ 153 → i ≠ 143 → X i = I2 i := fun i h1 h2 h3 => by rw [← hX, mv_tI_ne h1 h2, mv_si_ne h3]
  have x143 : X 143 = mv_vu (I2 143) 1 (nI 0) := by rw [← hX, mv_tI_ne (by omega) (by omega), mv_si_eq]
  have y147 : mv_rd X L 147 = mv_vu f 3 (nI (mv_rk L)) := by unfold mv_rd; rw [mv_si_eq, x147]
  generalize hJ : mv_si (mv_si (mv_rd X L) 147 (mv_vu (mv_rd X L 147) 7 (nI 0))) 148 v' = J
  have j148 : J 148 = v' := by rw [← hJ, mv_si_eq]
  have j147 : J 147 = mv_vu (mv_vu f 3 (nI (mv_rk L))) 7 (nI 0) := by rw [← hJ, mv_si_ne (by omega), mv_si_eq, y147]
  have jne : ∀ i, i ≠ 147 → i ≠ 148 → i ≠ 150 → i ≠ 153 → i ≠ 143 → J i = I2 i := fun i h1 h2 h3 h4 h5 => by rw [← hJ, mv_si_ne h2, mv_si_ne h1, mv_rd_ne h3 h1, xne i h1 h4 h5]
  have j150 : J 150 = mv_rp (I 148) (I 150) L := by
    rw [← hJ, mv_si_ne (by omega), mv_si_ne (by omega)]
    unfold mv_rd
    rw [mv_si_ne (by omega), mv_si_eq, xne 148 (by omega) (by omega) (by omega), xne 150 (by omega) (by omega) (by omega), hI 148 (by omega), hI 150 (by omega)]
  have j143 : J 143 1 = nI 0 := by rw [← hJ, mv_si_ne (by omega), mv_si_ne (by omega), mv_rd_ne (by omega) (by omega), x143, mv_vu_eq]
  refine ⟨hS0, mv_rk L, 0, z, ?_, ?_, ?_, ?_⟩
  · show mv_CI (j + 1) (mv_hp h0' J) J (J 148) (mv_rk L) (J 150) z (J 151) 0 (J 152)
    rw [j148, j150, jne 151 (by omega) (by omega) (by omega) (by omega) (by omega), hI 151 (by omega)]
    exact mv_CI_hp (mv_CI_pad0 (mv_CI_now (Nat.le_succ j) hF hO hCI) (fun i h1 h2 _ _ => jne i (by omega) (by omega) (by omega) (by omega) h2) j143)
  · show J 147 3 = _
    rw [j147, mv_vu_ne (by omega), mv_vu_eq]
  · show J 147 5 = _
    rw [j147, mv_vu_ne (by omega), mv_vu_ne (by omega)]; exact f5
  · show J 147 7 = _
    rw [j147, mv_vu_eq]
theorem mv_fv_ne {p : Nat} (h : p < 2 ^ 31) : ¬ mv_fv (some p) = mv_n4 := mv_n4_ne h
theorem mv_hskip {sg : Nat → Nat} {M : Nat} (hin : ∀ k, sg k ≠ 0 → k < M) : ∀ i, mv_faT sg i = none → i + 1 ≤ mv_en sg i ∧ mv_en sg i ≤ M ∧ ∀ j, i ≤ j → j < mv_en sg i → ¬ sg j = 59 := by
  intro i h
  obtain ⟨z1, z2, z3, z4⟩ := mv_enT hin h
  refine ⟨z1, z2, fun j w1 w2 => ?_⟩
  by_cases q : j < i + mv_nT sg i
  · have := mv_tn_T sg 7 i (j - i) (show j - i < mv_nT sg i by omega)
    rw [show i + (j - i) = j by omega] at this
    unfold mv_T at this; simp at this; omega
  · unfold mv_en at w2
    by_cases h42 : sg (i + mv_nT sg i) = 42
    · rw [if_pos h42] at w2
      by_cases q2 : j = i + mv_nT sg i
      · rw [q2, h42]; omega
      · have : j = i + mv_nT sg i + 1 := by omega
        rw [this]
        have := z4 h42
        unfold mv_Dg at this; simp at this; omega
    · rw [if_neg h42] at w2; omega
/-- each part of a right text is right -/
theorem mv_gx_all {sg : Nat → Nat} {M s : Nat} {fa : Nat → Option Nat} {en : Nat → Nat} : ∀ f i K, mv_gx fa en s sg M f i = (none, K) → ∀ u, u < K → fa (mv_stt en u i) = none
  | 0, i, K, h => by cases h
  | f + 1, i, K, h => by
    intro u hu
    rw [mv_gx] at h
    cases hfa : fa i with
    | some p => rw [hfa] at h; cases h
    | none =>
      rw [hfa] at h
      dsimp only at h
      cases u with
      | zero => exact hfa
      | succ u =>
        by_cases hE : M ≤ en i
        · rw [if_pos hE] at h; have : 1 = K := (Prod.mk.inj h).2; omega
        · rw [if_neg hE] at h
          by_cases hs : sg (en i) = s
          · rw [if_pos hs] at h
            have hh := Prod.mk.inj h
            exact mv_gx_all f (en i + 1) (K - 1) (Prod.ext hh.1 (by have := hh.2; omega)) u (by omega)
          · rw [if_neg hs] at h; cases h
theorem ag_10 : mv_Ag_10 mv_Inv := by
  refine mv_A1_of (fun j h0 I hj hI => ?_)
  obtain ⟨D, C, B, hD, hDj, hS, hV, hP, hW⟩ := mv_un hj hI
  obtain ⟨M, sg, hs, h152, h7⟩ := mv_un3 hI
  have hM := hS.2.1
  have hp := mv_PS_of hS
  have hR := xo_R1 hS
  have h60 := hs.2.1
  have hC4 := hV.2.2.2.1
  have hB8 := hV.2.2.2.2.1
  have e3 := hV.2.1
  have hsm := mv_SM_of hs h152
  have hin : ∀ k, sg k ≠ 0 → k < M := fun k hk => mv_sg_in hs hk
  cases htx : (mv_tx sg M 100 0).1 with
  | some p =>
    obtain ⟨f', g', ok', e, b1, b2, b3⟩ := re_isT hM hsm h7
    have hpb : p < 2 ^ 31 := by
      rw [mv_tx_gx] at htx
      have := mv_gx_le (fun i p h => by
        unfold mv_faT at h
        have hn7 : mv_nT sg i ≤ 7 := mv_tn_le sg 7 i
        split at h
        · have := Option.some.inj h; omega
        · split at h
          · have := Option.some.inj h; omega
          · cases h) (fun i h => (mv_enT hin h).2.1) 100 0 p (by omega) htx
      omega
    refine ⟨mv_n2, h0, I, mv_tI I f' g', ?_, rfl, rfl, ?_, mv_lkt hI b1⟩
    · unfold F_X6_tours
      rw [xo_g4 hS, pa_rc hp, ev_bd (pa_tours hp hs), htx, li4, lin4, ev_f (mv_fv_ne hpb)]
      rfl
    · unfold F_X7_tours
      obtain ⟨c1, c2⟩ := b3 p htx
      rw [mo_rc hM, li1, ev_bd e, c1, ev_t mv_z0]
      rfl
  | none =>
    have hK : mv_tx sg M 100 0 = (none, (mv_tx sg M 100 0).2) := Prod.ext htx rfl
    generalize (mv_tx sg M 100 0).2 = K at hK
    have hgx : mv_gx (mv_faT sg) (mv_en sg) 59 sg M 100 0 = (none, K) := by rw [← mv_tx_gx]; exact hK
    obtain ⟨hK1, hcnt⟩ := mv_cnt_gx (mv_hskip hin) 100 0 K (by omega) hgx
    have hcnt' : 1 + mv_cnt sg 59 M = K := by
      have : mv_cnt sg 59 0 = 0 := rfl
      omega
    have hKb : K ≤ 61 := by
      have : ∀ k, mv_cnt sg 59 k ≤ k := by
        intro k
        induction k with
        | zero => exact Nat.le_refl _
        | succ k ih => show mv_cnt sg 59 k + _ ≤ _; split <;> omega
      have := this M
      omega
    by_cases hCK : C + K ≤ 4
    · obtain ⟨h0', I1, L, e1, s1, s2, hS', hL, W1, F1, hL1, hPx, -, M', z, hCI, hz, hMl⟩ := mv_ck hI hC4 hB8 hW
      have hM' := hS'.2.1
      have hp' := mv_PS_of hS'
      have hR' := xo_R1 hS'
      have hs1 : mv_SG I1 M sg := mv_SG_congr (F1 143 (by omega) (by omega) (by omega)) (F1 144 (by omega) (by omega) (by omega)) hs
      obtain ⟨I2, e2, W2, F2⟩ := xo_pad hS' W1 hV hs1 hK hK1 hCK
      obtain ⟨V2, P2⟩ := mv_tv_VV (D := D) hin 100 0 K C (I 148) hgx hCK hV hP
      have f : ∀ i, 147 ≤ i → I2 i = I i := fun i hi => (F2 i (by omega) (by omega) (by omega)).trans (F1 i (by omega) (by omega) (by omega))
      have f3 : ∀ i, 147 ≤ i → mv_si I2 143 (mv_vu (I2 143) 1 (nI 0)) i = I i := fun i hi => by rw [mv_si_ne (by omega)]; exact f i hi
      obtain ⟨f', g', ok', e, b1, b2, b3⟩ := re_isT (I := mv_si I2 143 (mv_vu (I2 143) 1 (nI 0))) hM' (mv_SM_of hs (fun k hk => by rw [f3 152 (by omega)]; exact h152 k hk)) (by rw [f3 147 (by omega)]; exact h7)
      obtain ⟨c1, c2, c3⟩ := b2 htx
      have fK : (mv_tx sg M 100 0).2 = K := by rw [hK]
      rw [fK] at c2 c3
      have b1' : ∀ k, k < 8 → f' k = I 147 k := fun k hk => by rw [b1 k hk, f3 147 (by omega)]
      have x148 : mv_tI (mv_si I2 143 (mv_vu (I2 143) 1 (nI 0))) f' g' 148 = I 148 := by rw [mv_tI_ne (by omega) (by omega)]; exact f3 148 (by omega)
      have y148 : mv_rd (mv_tI (mv_si I2 143 (mv_vu (I2 143) 1 (nI 0))) f' g') L 148 = I 148 := by rw [mv_rd_ne (by omega) (by omega)]; exact x148
      have y153 : mv_rd (mv_tI (mv_si I2 143 (mv_vu (I2 143) 1 (nI 0))) f' g') L 153 = g' := by rw [mv_rd_ne (by omega) (by omega), mv_tI_2]
      have y147 : mv_rd (mv_tI (mv_si I2 143 (mv_vu (I2 143) 1 (nI 0))) f' g') L 147 10 = nI K := by unfold mv_rd; rw [mv_si_eq, mv_tI_1, mv_vu_ne (by omega)]; exact c2
      have rd : mv_si (mv_si (mv_tI (mv_si I2 143 (mv_vu (I2 143) 1 (nI 0))) f' g') 150 (mv_rp (mv_tI (mv_si I2 143 (mv_vu (I2 143) 1 (nI 0))) f' g' 148) (mv_tI (mv_si I2 143 (mv_vu (I2 143) 1 (nI 0))) f' g' 150) L)) 147 (mv_vu (mv_tI (mv_si I2 143 (mv_vu (I2 143) 1 (nI 0))) f' g' 147) 3 (nI (mv_rk L))) = mv_rd (mv_tI (mv_si I2 143 (mv_vu (I2 143) 1 (nI 0))) f' g') L := rfl
      have out := re_outer (sg := sg) hM' y147 (fun u hu => ⟨by rw [y153]; exact c3 u hu, (mv_enT hin (mv_gx_all 100 0 K hgx u hu)).2.2.1⟩) (by omega) K 0 mv_FU C (I 148) (by omega) hCK (by show K < 1000; omega) e3
      have self : mv_si (mv_rd (mv_tI (mv_si I2 143 (mv_vu (I2 143) 1 (nI 0))) f' g') L) 148 (I 148) = mv_rd (mv_tI (mv_si I2 143 (mv_vu (I2 143) 1 (nI 0))) f' g') L := by rw [← y148, mv_si_self]
      rw [self] at out
      refine ⟨nI (C + K), h0', mv_si I2 143 (mv_vu (I2 143) 1 (nI 0)), _, ?_, s1, s2, ?_, mv_fin0 (f := f') (g := g') (s2.trans hI.1) hCI F2 ⟨D, C + K, B, by omega, ⟨V2, P2⟩, W2⟩ f (by rw [b1' 3 (by omega)]; exact hL1) (by rw [b1' 5 (by omega)]; exact hz)⟩
      · unfold F_X6_tours
        rw [xo_g4 hS, pa_rc hp, ev_bd (pa_tours hp hs), htx, li4, lin4, ev_t (show mv_fv none = mv_n4 from rfl), xo_g0 hS, ro_gI hR, hW.1.1, e3, xo_g4 hS, pa_rc hp, li59, pa_parts' hp hs (by omega), hcnt', nI_add, ev_t (nI_le hCK (by omega)), xo_g3 hS, xo_g0 hS, hi_rc hS.2.2.2.2.1, ev_bd e1, xo_rc hS', ev_bd e2, xo_g4 hS', pa_sI hp', xo_g0 hS', ro_gI hR', li0, mv_si_ne (by omega), W2.1.1, V2.2.1]
        rfl
      · unfold F_X7_tours
        rw [mo_rc hM', li1, ev_bd e, c1, ev_f mv_z1, mo_g0 hM', li3, mo_r148 hM' (by omega), x148, e3, mo_gI hM', mv_tI_1, c2, nI_add, li4, ev_t (nI_le hCK (by omega)), mo_rc hM', mo_records' hM' hL (by rw [mv_tI_1, b1' 3 (by omega)]; exact hL1), rd, li0, out]
        rfl
    · obtain ⟨f', g', ok', e, b1, b2, b3⟩ := re_isT hM hsm h7
      obtain ⟨c1, c2, c3⟩ := b2 htx
      have fK : (mv_tx sg M 100 0).2 = K := by rw [hK]
      rw [fK] at c2
      refine ⟨mv_n3, h0, I, mv_tI I f' g', ?_, rfl, rfl, ?_, mv_lkt hI b1⟩
      · unfold F_X6_tours
        rw [xo_g4 hS, pa_rc hp, ev_bd (pa_tours hp hs), htx, li4, lin4, ev_t (show mv_fv none = mv_n4 from rfl), xo_g0 hS, ro_gI hR, hW.1.1, e3, xo_g4 hS, pa_rc hp, li59, pa_parts' hp hs (by omega), hcnt', nI_add, ev_f (nI_ge (by omega) (by omega))]
        rfl
      · unfold F_X7_tours
        rw [mo_rc hM, li1, ev_bd e, c1, ev_f mv_z1, mo_g0 hM, li3, mo_r148 hM (by omega), mv_tI_ne (by omega) (by omega), e3, mo_gI hM, mv_tI_1, c2, nI_add, li4, ev_f (nI_ge (by omega) (by omega))]
        rfl
