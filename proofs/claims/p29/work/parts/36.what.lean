theorem two_no {a b : Int32} (h : (a < 0 ∨ nI 6 ≤ a) ∨ (b < 0 ∨ nI 6 ≤ b) ∨ a = b) (k : mv_Hp) : F_X6_areTwoTowns a b k = some (nI 0, k) := by
  unfold F_X6_areTwoTowns J_X6_areTwoTowns_29 J_X6_areTwoTowns_30
  rw [li6, ev_rz (Or.inl rfl : (0 : Int32) = 0 ∨ (0 : Int32) = 1)]
  by_cases a1 : a < 0
  · rw [ev_t a1]; rfl
  by_cases a2 : nI 6 ≤ a
  · rw [ev_f a1, ev_t a2]; rfl
  by_cases b1 : b < 0
  · rw [ev_f a1, ev_f a2, ev_t b1]; rfl
  by_cases b2 : nI 6 ≤ b
  · rw [ev_f a1, ev_f a2, ev_f b1, ev_t b2]; rfl
  have e : a = b := by
    rcases h with (h | h) | (h | h) | h
    · exact absurd h a1
    · exact absurd h a2
    · exact absurd h b1
    · exact absurd h b2
    · exact h
  rw [ev_f a1, ev_f a2, ev_f b1, ev_f b2, ev_t e]; rfl
theorem two_yes {f t : Nat} (hf : f < 6) (ht : t < 6) (ne : f ≠ t) (k : mv_Hp) : F_X6_areTwoTowns (nI f) (nI t) k = some (nI 1, k) := by
  unfold F_X6_areTwoTowns J_X6_areTwoTowns_30
  rw [li6, ev_f (nI_pos (by omega)), ev_f (nI_ge (by omega) (by omega)), ev_f (nI_pos (by omega)), ev_f (nI_ge (by omega) (by omega)), ev_f (fun z => ne ((mv_eq (by omega) (by omega)).mp z)), ev_rz (Or.inr rfl)]
  rfl
theorem mv_two (a b : Int32) : ((a < 0 ∨ nI 6 ≤ a) ∨ (b < 0 ∨ nI 6 ≤ b) ∨ a = b) ∨ ∃ f t : Nat, f < 6 ∧ t < 6 ∧ f ≠ t ∧ a = nI f ∧ b = nI t := by
  rcases mv_ix a (n := 6) (by omega) with h1 | ⟨f, hf, rfl⟩
  · exact Or.inl (Or.inl h1)
  rcases mv_ix b (n := 6) (by omega) with h1 | ⟨t, ht, rfl⟩
  · exact Or.inl (Or.inr (Or.inl h1))
  by_cases e : f = t
  · subst e; exact Or.inl (Or.inr (Or.inr rfl))
  · exact Or.inr ⟨f, t, hf, ht, e, rfl, rfl⟩
theorem mv_AR_rng (v : Nat → Int32) (C : Nat) (to lies : Int32) : ∀ n S D, mv_AR v C to lies n S D = 1000000 ∨ (D + 1 ≤ mv_AR v C to lies n S D ∧ mv_AR v C to lies n S D ≤ D + n)
  | 0, _, _ => Or.inl rfl
  | n + 1, S, D => by
    unfold mv_AR
    by_cases h : S &&& mv_tb v C to (D + 1) = 0
    · rw [if_pos h]
      rcases mv_AR_rng v C to lies n (mv_st1 v C lies S (D + 1)) (D + 1) with h | h
      · exact Or.inl h
      · exact Or.inr (by omega)
    · rw [if_neg h]; exact Or.inr (by omega)
def mv_bd1 (v : Nat → Int32) (C D f t : Nat) (c : Nat) (s : Int32 × Nat) : Int32 × Nat := if mv_AR v C (nI t) (nI f) 30 0 (D + c) - (D + c) < s.2 then (nI c, mv_AR v C (nI t) (nI f) 30 0 (D + c) - (D + c)) else s
