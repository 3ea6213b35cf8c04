theorem mv_CI_pad0 {j : Nat} {h0 : mv_Hp} {I J : Nat → Nat → Int32} {v : Nat → Int32} {L : Nat} {p : Nat → Int32} {z : Int32} {ks : Nat → Int32} {M : Nat} {pd pd' : Nat → Int32} (h : mv_CI j h0 I v L p z ks M pd) (hF : ∀ i, i < 147 → i ≠ 143 → i ≠ 145 → i ≠ 146 → J i = I i) (h0' : J 143 1 = nI 0) : mv_CI j h0 J v L p z ks 0 pd' := by
  obtain ⟨hC, hO, ⟨a1, a2, a3⟩, ⟨b1, b2⟩, c1⟩ := h
  refine ⟨hC, mv_OK_congr (xo_R1 hC) (fun _ => rfl) (fun i q1 q2 => hF i (by omega) (by omega) (by omega) (by omega)) hO, ⟨by rw [hF 61 (by omega) (by omega) (by omega) (by omega)]; exact a1, a2, fun k hk => ?_⟩, ⟨by rw [hF 0 (by omega) (by omega) (by omega) (by omega)]; exact b1, b2.imp id (fun b => ⟨b.1, ?_⟩)⟩, ⟨h0', by omega, fun k hk => by omega⟩⟩
  · have := mv_sr_rng hC (show k < 4 by omega)
    exact mv_OK_congr (mv_st63 hC (by omega)) (fun _ => rfl) (fun i q1 q2 => hF i (by omega) (by omega) (by omega) (by omega)) (a3 k hk)
  · exact mv_OK_congr (xo_R41 hC) (fun _ => rfl) (fun i q1 q2 => hF i (by omega) (by omega) (by omega) (by omega)) b.2
theorem mv_fv_ne {p : Nat} (h : p < 2 ^ 31) : ¬ mv_fv (some p) = mv_n4 := mv_n4_ne h
theorem mv_hskip {sg : Nat → Nat} {M : Nat} (hin : ∀ k, sg k ≠ 0 → k < M) : ∀ i, mv_faT sg i = none → i + 1 ≤ mv_en sg i ∧ mv_en sg i ≤ M ∧ ∀ j, i ≤ j → j < mv_en sg i → ¬ sg j = 59 := by
  intro i h
  obtain ⟨z1, z2, z3, z4⟩ := mv_enT hin h
  refine ⟨z1, z2, fun j w1 w2 => ?_⟩
  by_cases q : j < i + mv_nT sg i
  · have := mv_tn_T sg 7 i (j - i) (show j - i < mv_nT sg i by omega)
    rw [show i + (j - i) = j by omega] at this
    unfold mv_T at this; simp at this; omega
  · unfold mv_en at w2
    by_cases h42 : sg (i + mv_nT sg i) = 42
    · rw [if_pos h42] at w2
      by_cases q2 : j = i + mv_nT sg i
      · rw [q2, h42]; omega
      · have : j = i + mv_nT sg i + 1 := by omega
        rw [this]
        have := z4 h42
        unfold mv_Dg at this; simp at this; omega
    · rw [if_neg h42] at w2; omega
/-- each part of a right text is right -/
theorem mv_gx_all {sg : Nat → Nat} {M s : Nat} {fa : Nat → Option Nat} {en : Nat → Nat} : ∀ f i K, mv_gx fa en s sg M f i = (none, K) → ∀ u, u < K → fa (mv_stt en u i) = none
  | 0, i, K, h => by cases h
  | f + 1, i, K, h => by
    intro u hu
    rw [mv_gx] at h
    cases hfa : fa i with
    | some p => rw [hfa] at h; cases h
    | none =>
      rw [hfa] at h
      dsimp only at h
      cases u with
      | zero => exact hfa
      | succ u =>
        by_cases hE : M ≤ en i
        · rw [if_pos hE] at h; have : 1 = K := (Prod.mk.inj h).2; omega
        · rw [if_neg hE] at h
          by_cases hs : sg (en i) = s
          · rw [if_pos hs] at h
            have hh := Prod.mk.inj h
            exact mv_gx_all f (en i + 1) (K - 1) (Prod.ext hh.1 (by have := hh.2; omega)) u (by omega)
          · rw [if_neg hs] at h; cases h
