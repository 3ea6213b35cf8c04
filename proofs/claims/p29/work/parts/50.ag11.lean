def mv_lv (sg : Nat → Nat) (C D : Nat) : Nat → (Nat → Int32) → Nat → Nat → (Nat → Int32)
  | 0, v, _, _ => v
  | K + 1, v, B, i => mv_lv sg C D K (mv_pv v C B D (sg i - 48) (sg (i + 2) - 48)) (B + 1) (i + 3 + 1)
theorem mv_T48 {s : Nat} (h : mv_T s = true) : 48 ≤ s ∧ s ≤ 53 := by unfold mv_T at h; simpa using h
theorem mv_hskipL {sg : Nat → Nat} {M : Nat} (hin : ∀ k, sg k ≠ 0 → k < M) : ∀ i, mv_faL sg i = none → i + 1 ≤ (fun i => i + 3) i ∧ (fun i => i + 3) i ≤ M ∧ ∀ j, i ≤ j → j < (fun i => i + 3) i → ¬ sg j = 44 := by
  intro i h
  obtain ⟨z1, z2, z3, z4, z5⟩ := mv_enL hin h
  refine ⟨by dsimp only; omega, z1, fun j w1 w2 => ?_⟩
  dsimp only at w2
  have t1 := mv_T48 z2
  have t2 := mv_T48 z4
  rcases (show j = i ∨ j = i + 1 ∨ j = i + 2 by omega) with rfl | rfl | rfl <;> omega
section V1
variable {h0 : mv_Hp} {I : Nat → Nat → Int32} {C B D M : Nat} {v : Nat → Int32} {sg : Nat → Nat}
theorem xo_letLoop (hS : mv_CS h0) (hs : mv_SG I M sg) (hD : D < 16000) : ∀ (f i K B n : Nat) (v : Nat → Int32) (J : Nat → Nat → Int32), mv_gx (mv_faL sg) (fun i => i + 3) 44 sg M f i = (none, K) → B + K ≤ 8 → f + 1 < n → i ≤ M → mv_fr 1 I J → mv_RV h0 J 1 v C B → mv_VV v C B D → mv_PV v B → ∃ J', Lp_X6_letters_53 0 n (nI i) (mv_hp h0 J) = some (nI (B + K), mv_hp h0 (mv_si J' 143 (mv_vu (J' 143) 1 (nI 0)))) ∧ mv_RV h0 J' 1 (mv_lv sg C D K v B i) C (B + K) ∧ mv_fr 1 I J' ∧ mv_VV (mv_lv sg C D K v B i) C (B + K) D ∧ mv_PV (mv_lv sg C D K v B i) (B + K) := by
  have hp := mv_PS_of hS
  have hR := xo_R1 hS
  have hF := hS.2.2.2.1
  have h60 := hs.2.1
  have hin : ∀ k, sg k ≠ 0 → k < M := fun k hk => mv_sg_in hs hk
  have hsJ : ∀ J, mv_fr 1 I J → mv_SG J M sg := fun J hJ => mv_SG_congr (hJ 143 (by omega) (by omega) (by omega)) (hJ 144 (by omega) (by omega) (by omega)) hs
  intro f
  induction f with
  | zero => intro i K B n v J h; cases h
  | succ f ih =>
    intro i K B n v J h hBK hn hi hFr hW hV hP
    rw [mv_gx] at h
    cases hfa : mv_faL sg i with
    | some p => rw [hfa] at h; cases h
    | none =>
      rw [hfa] at h
      dsimp only at h
      obtain ⟨z1, z2, z3, z4, z5⟩ := mv_enL hin hfa
      have t1 := mv_T48 z2
      have t2 := mv_T48 z4
      have hB8 := hV.2.2.2.2.1
      have hC4 := hV.2.2.2.1
      have hK1 : 1 ≤ K := by
        by_cases hE : M ≤ i + 3
        · rw [if_pos hE] at h; have : 1 = K := (Prod.mk.inj h).2; omega
        · rw [if_neg hE] at h
          by_cases hs : sg (i + 3) = 44
          · rw [if_pos hs] at h
            have := (Prod.mk.inj h).2
            omega
          · rw [if_neg hs] at h; cases h
      obtain ⟨n, rfl⟩ := Nat.exists_eq_succ_of_ne_zero (show n ≠ 0 by omega)
      obtain ⟨f2, g2, e2⟩ := fo_ifLying hF (by omega) hR hW hV (show D < 100000 by omega) (show sg i - 48 ≤ 5 by omega) (show sg (i + 2) - 48 ≤ 5 by omega)
      have W2 := mv_RV_fo (f := f2) (g := g2) (by omega) hR hC4 hB8 hW
      obtain ⟨J3, e3, W3, F3⟩ := ro_addB (f := sg i - 48) (t := sg (i + 2) - 48) (p := mv_pp v C D (sg i - 48) (sg (i + 2) - 48)) hR W2 hV (by omega) (by omega)
      have F2 : mv_fr 1 I J3 := mv_fr_trans hFr (mv_fr_trans mv_fr_fo F3)
      have V3 := mv_VV_pw (f := sg i - 48) (t := sg (i + 2) - 48) (p := mv_pp v C D (sg i - 48) (sg (i + 2) - 48)) hV (by omega) (by omega) (by omega)
      have P3 := mv_PV_pw (D := D) (f := sg i - 48) (t := sg (i + 2) - 48) hP (mv_pp_val (v := v) (C := C) (f := sg i - 48) (t := sg (i + 2) - 48) (show D < 90000 by omega))
      rw [← mv_pv_pw] at W3 V3 P3
      have step : Lp_X6_letters_53 0 (n + 1) (nI i) (mv_hp h0 J) = Lp_X6_letters_53 0 n (nI (i + 3 + 1)) (mv_hp h0 J3) := by
        rw [Lp_X6_letters_53, xo_g4 hS, pa_gI hp, (hsJ J hFr).1, li2, nI_add, ev_f (nI_ge (by omega) (by omega)), xo_g4 hS, pa_rc hp, pa_signAt' hp (hsJ J hFr) (by omega), li48, pk_sub t1.1, ev_bpu, xo_g4 hS, pa_rc hp, pa_signAt' hp (hsJ J hFr) (by omega), pk_sub t2.1, ev_bpu, xo_g0 hS, xo_g5 hS, xo_g0 hS, xo_g0 hS, ro_gI hR, hW.1.2.2.1, hV.1, fo_rc hF, ev_bd e2, ro_rc hR, ev_bd e3, li4, nI_add]
      rw [Nat.succ_eq_add_one, step]
      by_cases hE : M ≤ i + 3
      · rw [if_pos hE] at h
        have hK : 1 = K := (Prod.mk.inj h).2
        subst hK
        obtain ⟨n, rfl⟩ := Nat.exists_eq_succ_of_ne_zero (show n ≠ 0 by omega)
        refine ⟨J3, ?_, W3, F2, V3, P3⟩
        rw [Nat.succ_eq_add_one, Lp_X6_letters_53, xo_g4 hS, pa_gI hp, (hsJ J3 F2).1, li2, nI_add, ev_t (nI_le (by omega) (by omega)), xo_g4 hS, pa_sI hp, xo_g0 hS, ro_gI hR, mv_si_ne (by omega), W3.1.2.1, V3.2.2.1, li0]
        rfl
      · rw [if_neg hE] at h
        by_cases h44 : sg (i + 3) = 44
        · rw [if_pos h44] at h
          have hh := Prod.mk.inj h
          obtain ⟨K, rfl⟩ := Nat.exists_eq_succ_of_ne_zero (show K ≠ 0 by omega)
          have hK : (mv_gx (mv_faL sg) (fun i => i + 3) 44 sg M f (i + 3 + 1)).2 = K := by omega
          have := ih (i + 3 + 1) K (B + 1) n (mv_pv v C B D (sg i - 48) (sg (i + 2) - 48)) J3 (Prod.ext hh.1 hK) (by omega) (by omega) (by omega) F2 W3 V3 P3
          rw [show B + 1 + K = B + (K + 1) by omega] at this
          exact this
        · rw [if_neg h44] at h; cases h
end V1
