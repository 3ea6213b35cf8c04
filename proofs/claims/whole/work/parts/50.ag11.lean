def mv_lv (sg : Nat → Nat) (C D : Nat) : Nat → (Nat → Int32) → Nat → Nat → (Nat → Int32)
  | 0, v, _, _ => v
  | K + 1, v, B, i => mv_lv sg C D K (mv_pv v C B D (sg i - 48) (sg (i + 2) - 48)) (B + 1) (i + 3 + 1)
theorem mv_T48 {s : Nat} (h : mv_T s = true) : 48 ≤ s ∧ s ≤ 53 := by unfold mv_T at h; simpa using h
theorem mv_hskipL {sg : Nat → Nat} {M : Nat} (hin : ∀ k, sg k ≠ 0 → k < M) : ∀ i, mv_faL sg i = none → i + 1 ≤ (fun i => i + 3) i ∧ (fun i => i + 3) i ≤ M ∧ ∀ j, i ≤ j → j < (fun i => i + 3) i → ¬ sg j = 44 := by
  intro i h
  obtain ⟨z1, z2, z3, z4, z5⟩ := mv_enL hin h
  refine ⟨by dsimp only; omega, z1, fun j w1 w2 => ?_⟩
  dsimp only at w2
  have t1 := mv_T48 z2
  have t2 := mv_T48 z4
  rcases (show j = i ∨ j = i + 1 ∨ j = i + 2 by omega) with rfl | rfl | rfl <;> omega
section V1
variable {h0 : mv_Hp} {I : Nat → Nat → Int32} {C B D M : Nat} {v : Nat → Int32} {sg : Nat → Nat}
theorem xo_letLoop (hS : mv_CS h0) (hs : mv_SG I M sg) (hD : D < 16000) : ∀ (f i K B n : Nat) (v : Nat → Int32) (J : Nat → Nat → Int32), mv_gx (mv_faL sg) (fun i => i + 3) 44 sg M f i = (none, K) → B + K ≤ 8 → f + 1 < n → i ≤ M → mv_fr 1 I J → mv_RV h0 J 1 v C B → mv_VV v C B D → mv_PV v B → ∃ J', Lp_X6_letters_53 0 n (nI i) (mv_hp h0 J) = some (nI (B + K), mv_hp h0 (mv_si J' 143 (mv_vu (J' 143) 1 (nI 0)))) ∧ mv_RV h0 J' 1 (mv_lv sg C D K v B i) C (B + K) ∧ mv_fr 1 I J' ∧ mv_VV (mv_lv sg C D K v B i) C (B + K) D ∧ mv_PV (mv_lv sg C D K v B i) (B + K) := by
  have hp := mv_PS_of hS
  have hR := xo_R1 hS
  have hF := hS.2.2.2.1
  have h60 := hs.2.1
  have hin : ∀ k, sg k ≠ 0 → k < M := fun k hk => mv_sg_in hs hk
  have hsJ : ∀ J, mv_fr 1 I J → mv_SG J M sg := fun J hJ => mv_SG_congr (hJ 143 (by omega) (by omega) (by omega)) (hJ 144 (by omega) (by omega) (by omega)) hs
  intro f
  induction f with
  | zero => intro i K B n v J h; cases h
  | succ f ih =>
    intro i K B n v J h hBK hn hi hFr hW hV hP
    rw [mv_gx] at h
    cases hfa : mv_faL sg i with
    | some p => rw [hfa] at h; cases h
    | none =>
      rw [hfa] at h
      dsimp only at h
      obtain ⟨z1, z2, z3, z4, z5⟩ := mv_enL hin hfa
      have t1 := mv_T48 z2
      have t2 := mv_T48 z4
      have hB8 := hV.2.2.2.2.1
      have hC4 := hV.2.2.2.1
      have hK1 : 1 ≤ K := by
        by_cases hE : M ≤ i + 3
        · rw [if_pos hE] at h; have : 1 = K := (Prod.mk.inj h).2; omega
        · rw [if_neg hE] at h
          by_cases hs : sg (i + 3) = 44
          · rw [if_pos hs] at h
            have := (Prod.mk.inj h).2
            omega
          · rw [if_neg hs] at h; cases h
      obtain ⟨n, rfl⟩ := Nat.exists_eq_succ_of_ne_zero (show n ≠ 0 by omega)
      obtain ⟨f2, g2, e2⟩ := fo_ifLying hF (by omega) hR hW hV (show D < 100000 by omega) (show sg i - 48 ≤ 5 by omega) (show sg (i + 2) - 48 ≤ 5 by omega)
      have W2 := mv_RV_fo (f := f2) (g := g2) (by omega) hR hC4 hB8 hW
      obtain ⟨J3, e3, W3, F3⟩ := ro_addB (f := sg i - 48) (t := sg (i + 2) - 48) (p := mv_pp v C D (sg i - 48) (sg (i + 2) - 48)) hR W2 hV (by omega) (by omega)
      have F2 : mv_fr 1 I J3 := mv_fr_trans hFr (mv_fr_trans mv_fr_fo F3)
      have V3 := mv_VV_pw (f := sg i - 48) (t := sg (i + 2) - 48) (p := mv_pp v C D (sg i - 48) (sg (i + 2) - 48)) hV (by omega) (by omega) (by omega)
      have P3 := mv_PV_pw (D := D) (f := sg i - 48) (t := sg (i + 2) - 48) hP (mv_pp_val (v := v) (C := C) (f := sg i - 48) (t := sg (i + 2) - 48) (show D < 90000 by omega))
      rw [← mv_pv_pw] at W3 V3 P3
      have step : Lp_X6_letters_53 0 (n + 1) (nI i) (mv_hp h0 J) = Lp_X6_letters_53 0 n (nI (i + 3 + 1)) (mv_hp h0 J3) := by
        rw [Lp_X6_letters_53, xo_g4 hS, pa_gI hp, (hsJ J hFr).1, li2, nI_add, ev_f (nI_ge (by omega) (by omega)), xo_g4 hS, pa_rc hp, pa_signAt' hp (hsJ J hFr) (by omega), li48, pk_sub t1.1, ev_bpu, xo_g4 hS, pa_rc hp, pa_signAt' hp (hsJ J hFr) (by omega), pk_sub t2.1, ev_bpu, xo_g0 hS, xo_g5 hS, xo_g0 hS, xo_g0 hS, ro_gI hR, hW.1.2.2.1, hV.1, fo_rc hF, ev_bd e2, ro_rc hR, ev_bd e3, li4, nI_add]
      rw [Nat.succ_eq_add_one, step]
      by_cases hE : M ≤ i + 3
      · rw [if_pos hE] at h
        have hK : 1 = K := (Prod.mk.inj h).2
        subst hK
        obtain ⟨n, rfl⟩ := Nat.exists_eq_succ_of_ne_zero (show n ≠ 0 by omega)
        refine ⟨J3, ?_, W3, F2, V3, P3⟩
        rw [Nat.succ_eq_add_one, Lp_X6_letters_53, xo_g4 hS, pa_gI hp, (hsJ J3 F2).1, li2, nI_add, ev_t (nI_le (by omega) (by omega)), xo_g4 hS, pa_sI hp, xo_g0 hS, ro_gI hR, mv_si_ne (by omega), W3.1.2.1, V3.2.2.1, li0]
        rfl
      · rw [if_neg hE] at h
        by_cases h44 : sg (i + 3) = 44
        · rw [if_pos h44] at h
          have hh := Prod.mk.inj h
          obtain ⟨K, rfl⟩ := Nat.exists_eq_succ_of_ne_zero (show K ≠ 0 by omega)
          have hK : (mv_gx (mv_faL sg) (fun i => i + 3) 44 sg M f (i + 3 + 1)).2 = K := by omega
          have := ih (i + 3 + 1) K (B + 1) n (mv_pv v C B D (sg i - 48) (sg (i + 2) - 48)) J3 (Prod.ext hh.1 hK) (by omega) (by omega) (by omega) F2 W3 V3 P3
          rw [show B + 1 + K = B + (K + 1) by omega] at this
          exact this
        · rw [if_neg h44] at h; cases h
theorem re_post (hM : mv_MS h0) {J : Nat → Nat → Int32} {K : Nat} (h10 : J 147 10 = nI K) (hT : ∀ u, u < K → mv_LR sg (J 153) u (mv_stt (fun i => i + 3) u 0)) (hK : K ≤ 61) (hD : D < 16000) (hr : ∀ u, u < K → sg (mv_stt (fun i => i + 3) u 0) - 48 ≤ 5 ∧ sg (mv_stt (fun i => i + 3) u 0 + 2) - 48 ≤ 5) : ∀ (r t n B : Nat) (u : Nat → Int32), t + r = K → B + r ≤ 8 → r < n → mv_VV u C B D → Lp_X7_letters_36 147 n (nI t) (mv_hp h0 (mv_si J 148 u)) = some (nI (B + r), mv_hp h0 (mv_si (mv_si J 147 (mv_vu (J 147) 7 (nI 0))) 148 (mv_lv sg C D r u B (mv_stt (fun i => i + 3) t 0)))) := by
  intro r
  induction r with
  | zero =>
    intro t n B u ht hc hn hV
    obtain ⟨n, rfl⟩ := Nat.exists_eq_succ_of_ne_zero (show n ≠ 0 by omega)
    have : t = K := by omega
    subst this
    rw [Nat.succ_eq_add_one, Lp_X7_letters_36, mo_gI hM, mv_si_ne (by omega), h10, ev_t (nI_le (Nat.le_refl _) (by omega)), li0, mo_sI hM, mv_si_ne (show 147 ≠ 148 by omega), mo_g0 hM, li4, mo_r148 hM (by omega), mv_si_ne (by omega), mv_si_eq, hV.2.2.1, mv_si_comm (show 148 ≠ 147 by omega)]
    rfl
  | succ r ih =>
    intro t n B u ht hc hn hV
    obtain ⟨n, rfl⟩ := Nat.exists_eq_succ_of_ne_zero (show n ≠ 0 by omega)
    obtain ⟨t1, t2⟩ := hT t (by omega)
    obtain ⟨r1, r2⟩ := hr t (by omega)
    have V2 : mv_VV (mv_pv u C B D (sg (mv_stt (fun i => i + 3) t 0) - 48) (sg (mv_stt (fun i => i + 3) t 0 + 2) - 48)) C (B + 1) D := mv_VV_pw hV (by omega) r1 r2
    have e := ih (t + 1) n (B + 1) (mv_pv u C B D (sg (mv_stt (fun i => i + 3) t 0) - 48) (sg (mv_stt (fun i => i + 3) t 0 + 2) - 48)) (by omega) (by omega) (by omega) V2
    rw [mv_stt_s, show B + 1 + r = B + (r + 1) by omega] at e
    rw [Nat.succ_eq_add_one, Lp_X7_letters_36, mo_gI hM, mv_si_ne (by omega), h10, ev_f (nI_ge (by omega) (by omega)), mo_g11 hM, li2, pk_mul, mo_r153 hM (by omega), mv_si_ne (by omega), t1, mo_g11 hM, li1, nI_add, mo_r153 hM (by omega), mv_si_ne (by omega), t2, mo_rc hM, mo_goPost' hM (by rw [mv_si_eq]; exact hV) (by omega) (by omega), mv_si_eq, mv_si_si, nI_add, e]
    rfl
end V1
theorem ag_11 : mv_Ag_11 mv_Inv := by
  refine mv_A1_of (fun j h0 I hj hI => ?_)
  obtain ⟨D, C, B, hD, hDj, hS, hV, hP, hW⟩ := mv_un hj hI
  obtain ⟨M, sg, hs, h152, h7⟩ := mv_un3 hI
  have hM := hS.2.1
  have hp := mv_PS_of hS
  have hR := xo_R1 hS
  have h60 := hs.2.1
  have hC4 := hV.2.2.2.1
  have hB8 := hV.2.2.2.2.1
  have e4 := hV.2.2.1
  have hsm := mv_SM_of hs h152
  have hin : ∀ k, sg k ≠ 0 → k < M := fun k hk => mv_sg_in hs hk
  cases htx : (mv_ly sg M 100 0).1 with
  | some p =>
    obtain ⟨f', g', ok', e, b1, b2, b3⟩ := re_isL hM hsm h7
    have hpb : p < 2 ^ 31 := by
      rw [mv_ly_gx] at htx
      have := mv_gx_le (fun i p h => by
        unfold mv_faL at h
        split at h
        · have := Option.some.inj h; omega
        · split at h
          · have := Option.some.inj h; omega
          · split at h
            · have := Option.some.inj h; omega
            · cases h) (fun i h => (mv_enL hin h).1) 100 0 p (by omega) htx
      omega
    refine ⟨mv_n2, h0, I, mv_tI I f' g', ?_, rfl, rfl, ?_, mv_lkt hI b1⟩
    · unfold F_X6_letters
      rw [xo_g4 hS, pa_rc hp, ev_bd (pa_letters hp hs), htx, li4, lin4, ev_f (mv_fv_ne hpb)]
      rfl
    · unfold F_X7_letters
      obtain ⟨c1, c2⟩ := b3 p htx
      rw [mo_rc hM, li0, ev_bd e, c1, ev_t rfl]
      rfl
  | none =>
    have hK : mv_ly sg M 100 0 = (none, (mv_ly sg M 100 0).2) := Prod.ext htx rfl
    generalize (mv_ly sg M 100 0).2 = K at hK
    have hgx : mv_gx (mv_faL sg) (fun i => i + 3) 44 sg M 100 0 = (none, K) := by rw [← mv_ly_gx]; exact hK
    obtain ⟨hK1, hcnt⟩ := mv_cnt_gx (mv_hskipL hin) 100 0 K (by omega) hgx
    have hcnt' : 1 + mv_cnt sg 44 M = K := by
      have : mv_cnt sg 44 0 = 0 := rfl
      omega
    have hKb : K ≤ 61 := by
      have : ∀ k, mv_cnt sg 44 k ≤ k := by
        intro k
        induction k with
        | zero => exact Nat.le_refl _
        | succ k ih => show mv_cnt sg 44 k + _ ≤ _; split <;> omega
      have := this M
      omega
    have fK : (mv_ly sg M 100 0).2 = K := by rw [hK]
    have yes : mv_fv none = mv_n4 := rfl
    by_cases hBK : B + K ≤ 8
    · obtain ⟨h0', I1, L, e1, s1, s2, hS', hL, W1, F1, hL1, hPx, -, M', z, hCI, hz, hMl⟩ := mv_ck hI hC4 hB8 hW
      have hM' := hS'.2.1
      have hp' := mv_PS_of hS'
      have hs1 : mv_SG I1 M sg := mv_SG_congr (F1 143 (by omega) (by omega) (by omega)) (F1 144 (by omega) (by omega) (by omega)) hs
      obtain ⟨I2, e2, W2, F2, V2, P2⟩ := xo_letLoop hS' hs1 hD 100 0 K B mv_FU (I 148) I1 hgx hBK (by decide) (by omega) mv_fr_rfl W1 hV hP
      have f : ∀ i, 147 ≤ i → I2 i = I i := fun i hi => (F2 i (by omega) (by omega) (by omega)).trans (F1 i (by omega) (by omega) (by omega))
      have f3 : ∀ i, 147 ≤ i → mv_si I2 143 (mv_vu (I2 143) 1 (nI 0)) i = I i := fun i hi => by rw [mv_si_ne (by omega)]; exact f i hi
      obtain ⟨f', g', ok', e, b1, b2, b3⟩ := re_isL (I := mv_si I2 143 (mv_vu (I2 143) 1 (nI 0))) hM' (mv_SM_of hs (fun k hk => by rw [f3 152 (by omega)]; exact h152 k hk)) (by rw [f3 147 (by omega)]; exact h7)
      obtain ⟨c1, c2, c3⟩ := b2 htx
      rw [fK] at c2 c3
      have b1' : ∀ k, k < 8 → f' k = I 147 k := fun k hk => by rw [b1 k hk, f3 147 (by omega)]
      have x148 : mv_tI (mv_si I2 143 (mv_vu (I2 143) 1 (nI 0))) f' g' 148 = I 148 := by rw [mv_tI_ne (by omega) (by omega)]; exact f3 148 (by omega)
      have y148 : mv_rd (mv_tI (mv_si I2 143 (mv_vu (I2 143) 1 (nI 0))) f' g') L 148 = I 148 := by rw [mv_rd_ne (by omega) (by omega)]; exact x148
      have y153 : mv_rd (mv_tI (mv_si I2 143 (mv_vu (I2 143) 1 (nI 0))) f' g') L 153 = g' := by rw [mv_rd_ne (by omega) (by omega), mv_tI_2]
      have y147 : mv_rd (mv_tI (mv_si I2 143 (mv_vu (I2 143) 1 (nI 0))) f' g') L 147 10 = nI K := by unfold mv_rd; rw [mv_si_eq, mv_tI_1, mv_vu_ne (by omega)]; exact c2
      have rd : mv_si (mv_si (mv_tI (mv_si I2 143 (mv_vu (I2 143) 1 (nI 0))) f' g') 150 (mv_rp (mv_tI (mv_si I2 143 (mv_vu (I2 143) 1 (nI 0))) f' g' 148) (mv_tI (mv_si I2 143 (mv_vu (I2 143) 1 (nI 0))) f' g' 150) L)) 147 (mv_vu (mv_tI (mv_si I2 143 (mv_vu (I2 143) 1 (nI 0))) f' g' 147) 3 (nI (mv_rk L))) = mv_rd (mv_tI (mv_si I2 143 (mv_vu (I2 143) 1 (nI 0))) f' g') L := rfl
      have out := re_post (sg := sg) (C := C) (D := D) hM' y147 (fun u hu => by rw [y153]; exact c3 u hu) hKb hD (fun u hu => by
        obtain ⟨q1, q2, q3, q4, q5⟩ := mv_enL hin (mv_gx_all 100 0 K hgx u hu)
        have w1 := mv_T48 q2
        have w2 := mv_T48 q4
        exact ⟨by omega, by omega⟩) K 0 mv_FU B (I 148) (by omega) hBK (by show K < 1000; omega) hV
      have self : mv_si (mv_rd (mv_tI (mv_si I2 143 (mv_vu (I2 143) 1 (nI 0))) f' g') L) 148 (I 148) = mv_rd (mv_tI (mv_si I2 143 (mv_vu (I2 143) 1 (nI 0))) f' g') L := by rw [← y148, mv_si_self]
      rw [self] at out
      refine ⟨nI (B + K), h0', mv_si I2 143 (mv_vu (I2 143) 1 (nI 0)), _, ?_, s1, s2, ?_, mv_fin0 (f := f') (g := g') (s2.trans hI.1) hCI F2 ⟨D, C, B + K, by omega, ⟨V2, P2⟩, W2⟩ f (by rw [b1' 3 (by omega)]; exact hL1) (by rw [b1' 5 (by omega)]; exact hz)⟩
      · unfold F_X6_letters
        rw [xo_g4 hS, pa_rc hp, ev_bd (pa_letters hp hs), htx, li4, lin4, ev_t yes, xo_g0 hS, ro_gI hR, hW.1.2.1, e4, xo_g4 hS, pa_rc hp, li44, pa_parts' hp hs (by omega), hcnt', nI_add, li8, ev_t (nI_le hBK (by omega)), xo_g3 hS, xo_g0 hS, hi_rc hS.2.2.2.2.1, ev_bd e1, li0, e2]
      · unfold F_X7_letters
        rw [mo_rc hM', li0, ev_bd e, c1, ev_f (by decide), mo_g0 hM', li4, mo_r148 hM' (by omega), x148, e4, mo_gI hM', mv_tI_1, c2, nI_add, li8, ev_t (nI_le hBK (by omega)), mo_rc hM', mo_records' hM' hL (by rw [mv_tI_1, b1' 3 (by omega)]; exact hL1), rd, out]
        rfl
    · obtain ⟨f', g', ok', e, b1, b2, b3⟩ := re_isL hM hsm h7
      obtain ⟨c1, c2, c3⟩ := b2 htx
      rw [fK] at c2
      refine ⟨mv_n3, h0, I, mv_tI I f' g', ?_, rfl, rfl, ?_, mv_lkt hI b1⟩
      · unfold F_X6_letters
        rw [xo_g4 hS, pa_rc hp, ev_bd (pa_letters hp hs), htx, li4, lin4, ev_t yes, xo_g0 hS, ro_gI hR, hW.1.2.1, e4, xo_g4 hS, pa_rc hp, li44, pa_parts' hp hs (by omega), hcnt', nI_add, li8, ev_f (nI_ge (by omega) (by omega))]
        rfl
      · unfold F_X7_letters
        rw [mo_rc hM, li0, ev_bd e, c1, ev_f (by decide), mo_g0 hM, li4, mo_r148 hM (by omega), mv_tI_ne (by omega) (by omega), e4, mo_gI hM, mv_tI_1, c2, nI_add, li8, ev_f (nI_ge (by omega) (by omega))]
        rfl
