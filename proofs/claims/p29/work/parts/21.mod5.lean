section M6
variable {h0 : mv_Hp} {I : Nat → Nat → Int32} {C B D : Nat} {β : Type}
/-- copies: 128 places of row a from x on into row t from y on -/
def mv_cp (f g : Nat → Int32) (x y n : Nat) : Nat → Int32 := fun j => if y ≤ j ∧ j < y + n then f (x + (j - y)) else g j
theorem mv_cp_0 {f g : Nat → Int32} {x y : Nat} : mv_cp f g x y 0 = g := by funext j; unfold mv_cp; rw [if_neg (by omega)]
theorem mv_cp_s {f g : Nat → Int32} {x y n : Nat} : mv_vu (mv_cp f g x y n) (y + n) (f (x + n)) = mv_cp f g x y (n + 1) := by
  funext j
  unfold mv_vu mv_cp
  by_cases h : j = y + n
  · subst h; rw [if_pos rfl, if_pos (by omega), show x + (y + n - y) = x + n by omega]
  · rw [if_neg h]
    by_cases h2 : y ≤ j ∧ j < y + n
    · rw [if_pos h2, if_pos (by omega)]
    · rw [if_neg h2, if_neg (by omega)]
/-- records: the row of the past, and how many are known -/
def mv_rp (v p : Nat → Int32) (k : Nat) : Nat → Int32 := if k = 4 then mv_cp v (mv_cp p p 128 0 384) 0 384 128 else mv_cp v p 0 (128 * k) 128
def mv_rk (k : Nat) : Nat := if k = 4 then 4 else k + 1
end M6
