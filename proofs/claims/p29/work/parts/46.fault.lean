section Q5
variable {h0 : mv_Hp} {I : Nat → Nat → Int32} {M : Nat} {sg : Nat → Nat}
theorem mv_enT (hin : ∀ k, sg k ≠ 0 → k < M) {i : Nat} (h : mv_faT sg i = none) : i + 1 ≤ mv_en sg i ∧ mv_en sg i ≤ M ∧ ¬ mv_nT sg i = 0 ∧ (sg (i + mv_nT sg i) = 42 → mv_Dg (sg (i + mv_nT sg i + 1)) = true) := by
  unfold mv_faT at h
  by_cases h1 : mv_nT sg i = 0
  · rw [if_pos h1] at h; cases h
  · rw [if_neg h1] at h
    by_cases h2 : sg (i + mv_nT sg i) = 42 ∧ ¬ mv_Dg (sg (i + mv_nT sg i + 1)) = true
    · rw [if_pos h2] at h; cases h
    · have hd : sg (i + mv_nT sg i) = 42 → mv_Dg (sg (i + mv_nT sg i + 1)) = true := fun z => by
        apply Classical.byContradiction
        intro w
        exact h2 ⟨z, w⟩
      refine ⟨?_, ?_, h1, hd⟩
      · unfold mv_en; split <;> omega
      · unfold mv_en
        by_cases h42 : sg (i + mv_nT sg i) = 42
        · rw [if_pos h42]
          have := hin (i + mv_nT sg i + 1) (fun z => by have := hd h42; rw [z] at this; exact absurd this (by decide))
          omega
        · rw [if_neg h42]
          have h3 := mv_tn_T sg 7 i (mv_nT sg i - 1) (by show mv_nT sg i - 1 < mv_nT sg i; omega)
          have := hin (i + (mv_nT sg i - 1)) (fun z => by rw [z] at h3; exact absurd h3 (by decide))
          omega
theorem mv_enL (hin : ∀ k, sg k ≠ 0 → k < M) {i : Nat} (h : mv_faL sg i = none) : i + 3 ≤ M ∧ mv_T (sg i) = true ∧ sg (i + 1) = 62 ∧ mv_T (sg (i + 2)) = true ∧ ¬ sg (i + 2) = sg i := by
  unfold mv_faL at h
  by_cases h1 : mv_T (sg i) = true
  · rw [if_neg (fun z => z h1)] at h
    by_cases h2 : sg (i + 1) = 62
    · rw [if_neg (fun z => z h2)] at h
      by_cases h3 : mv_T (sg (i + 2)) = true ∧ ¬ sg (i + 2) = sg i
      · have := hin (i + 2) (fun z => by have h4 := h3.1; rw [z] at h4; exact absurd h4 (by decide))
        exact ⟨by omega, h1, h2, h3.1, h3.2⟩
      · rw [if_pos h3] at h; cases h
    · rw [if_pos h2] at h; cases h
  · rw [if_pos h1] at h; cases h
end Q5
