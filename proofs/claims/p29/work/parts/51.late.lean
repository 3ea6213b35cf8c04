def mv_la (v : Nat → Int32) (C D : Nat) (b : Nat) (s : Int32 × Nat) : Int32 × Nat := if mv_hD v C b D = nI 0 then s else (s.1 + (mv_AN v C b D - v (64 + 8 * b + 4)), s.2 + 1)
def mv_lr (s : Int32 × Nat) : UInt64 := if s.2 = 0 then FP.dconst0 else FP.ddiv (FP.i2d s.1) (FP.i2d (nI s.2))
theorem mv_la_le (v : Nat → Int32) (C D : Nat) : ∀ k, (mv_it (mv_la v C D) k 0 (nI 0, 0)).2 ≤ k
  | 0 => Nat.le_refl _
  | k + 1 => by
    have := mv_la_le v C D k
    rw [mv_it_last]
    unfold mv_la
    split
    · exact Nat.le_succ_of_le this
    · exact Nat.succ_le_succ this
theorem mv_lr_ok {s : Int32 × Nat} (h : s.2 ≤ 8) : mv_lr s &&& 0x7fffffffffffffff ≤ 0x7ff0000000000000 := by
  unfold mv_lr
  by_cases h0 : s.2 = 0
  · rw [if_pos h0]; decide
  · rw [if_neg h0]; exact fp_div (by omega) h
theorem ev_dd {h : mv_Hp} {s : Int32 × Nat} {β : Type} {g : UInt64 → mv_M β} (h0 : ¬ s.2 = 0) (h8 : s.2 ≤ 8) : mv_bd (mv_dd (FP.i2d s.1) (FP.i2d (nI s.2))) g h = g (mv_lr s) h := by
  unfold mv_dd
  rw [if_pos (fp_div (by omega) h8), ev_bpu]
  unfold mv_lr
  rw [if_neg h0]
