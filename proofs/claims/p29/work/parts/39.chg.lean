section PP
variable {v : Nat → Int32} {C B D : Nat}
theorem mv_ch1_p {b c b' : Nat} : mv_ch1 v b c (64 + 8 * b' + 4) = v (64 + 8 * b' + 4) := by
  unfold mv_ch1
  rw [mv_vu_ne (by omega), mv_vu_ne (by omega), mv_vu_ne (by omega), mv_vu_ne (by omega), mv_vu_ne (by omega), mv_vu_ne (by omega)]
theorem mv_chg_p {b c b' : Nat} : mv_chg v b c (64 + 8 * b' + 4) = v (64 + 8 * b' + 4) := by
  unfold mv_chg
  split
  · exact mv_ch1_p
  · split
    · rw [mv_vu_ne (by omega), mv_vu_ne (by omega)]; exact mv_ch1_p
    · exact mv_ch1_p
theorem mv_go_p {b b' : Nat} : mv_go v C B b D (64 + 8 * b' + 4) = v (64 + 8 * b' + 4) := by
  unfold mv_go
  cases (mv_gl v C B b D).1 with
  | none => rfl
  | some c => exact mv_chg_p
theorem mv_df_p {b b' : Nat} {s : Nat × (Nat → Int32)} : (mv_df C B D b s).2 (64 + 8 * b' + 4) = s.2 (64 + 8 * b' + 4) := by
  unfold mv_df
  split
  · show mv_vu _ _ _ _ = _
    rw [mv_vu_ne (by omega), mv_vu_ne (by omega)]
  · split
    · exact mv_go_p
    · rfl
theorem mv_dl_p {b' : Nat} : (mv_dl C B D v).2 (64 + 8 * b' + 4) = v (64 + 8 * b' + 4) := by
  have key : ∀ k s, (mv_it (mv_df C B D) k 0 s).2 (64 + 8 * b' + 4) = s.2 (64 + 8 * b' + 4) := by
    intro k s
    induction k with
    | zero => rfl
    | succ k ih => rw [mv_it_last, mv_df_p, ih]
  unfold mv_dl
  rw [key]
  show mv_vu v 0 (nI D) (64 + 8 * b' + 4) = v (64 + 8 * b' + 4)
  exact mv_vu_ne (by omega)
theorem mv_dy_p {b' : Nat} : (mv_dy C B D v).2 (64 + 8 * b' + 4) = v (64 + 8 * b' + 4) := by
  show mv_vu (mv_dl C B D v).2 6 _ _ = _
  rw [mv_vu_ne (by omega), mv_dl_p]
theorem mv_ps_p {n b' : Nat} : (mv_ps C B D n v).2.2 (64 + 8 * b' + 4) = v (64 + 8 * b' + 4) := by
  have key : ∀ k, (mv_it (mv_ds C B) k 0 (D, 0, v)).2.2 (64 + 8 * b' + 4) = v (64 + 8 * b' + 4) := by
    intro k
    induction k with
    | zero => rfl
    | succ k ih =>
      rw [mv_it_last]
      generalize mv_it (mv_ds C B) k 0 (D, 0, v) = s at ih
      show (mv_dy C B (s.1 + 1) s.2.2).2 _ = _
      rw [mv_dy_p, ih]
  exact key n
theorem mv_PV_ps {n : Nat} (h : mv_PV v B) : mv_PV (mv_ps C B D n v).2.2 B := fun b hb => by rw [mv_ps_p]; exact h b hb
theorem mv_PV_v {v' : Nat → Int32} (e : ∀ b, b < B → v' (64 + 8 * b + 4) = v (64 + 8 * b + 4)) (h : mv_PV v B) : mv_PV v' B := fun b hb => by rw [e b hb]; exact h b hb
end PP
theorem mv_3079 {a : Int32} {lo n : Nat} (hlo : lo = 1) (hn : n + 1 < 2 ^ 30) (h : ¬ ∃ k, 1 ≤ k ∧ k ≤ n ∧ a = nI k) : (if a < nI 1 then nI 0 else if nI n < a then nI 0 else nI 1) = nI 0 ∧ (a < nI 1 ∨ (¬ a < nI 1 ∧ ¬ a ≤ nI n ∧ nI n < a)) := by
  by_cases h1 : a < nI 1
  · exact ⟨if_pos h1, Or.inl h1⟩
  · have h0 : ¬ a < 0 := fun z => h1 (Int32.lt_trans z (by decide))
    obtain ⟨k, hk, rfl⟩ := nI_of h0
    have hk1 : ¬ k < 1 := fun z => h1 (nI_lt z (by omega))
    have hkn : n < k := by
      apply Classical.byContradiction
      intro z
      exact h ⟨k, by omega, by omega, rfl⟩
    rw [if_neg h1, if_pos (nI_lt hkn hk)]
    exact ⟨rfl, Or.inr ⟨h1, nI_ge hkn hk, nI_lt hkn hk⟩⟩
theorem mv_in1 {k n : Nat} (h1 : 1 ≤ k) (h2 : k ≤ n) (hn : n < 2 ^ 30) : (if nI k < nI 1 then nI 0 else if nI n < nI k then nI 0 else nI 1) = nI 1 := by
  rw [if_neg (nI_nlt h1 (by omega)), if_neg (nI_nlt h2 (by omega))]
