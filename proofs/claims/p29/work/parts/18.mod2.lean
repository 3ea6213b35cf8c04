def mv_hs (v : Nat → Int32) (B c : Nat) : Int32 := mv_it (fun b n => n + (if v (64 + 8 * b + 2) = nI (c + 1) then nI 1 else nI 0)) B 0 (nI 0)
def mv_bb (v : Nat → Int32) (B w : Nat) : Int32 := mv_it (fun b n => n + (if v (64 + 8 * b + w) ≤ nI 0 then nI 0 else nI 1)) B 0 (nI 0)
def mv_io (v : Nat → Int32) (C D : Nat) : Int32 := mv_it (fun c n => n + (if mv_tw v c D = mv_n4 then nI 1 else nI 0)) C 0 (nI 0)
def mv_wm (v : Nat → Int32) (b : Nat) : Nat := if v (64 + 8 * b + 2) = nI 0 then 0 else 2 ^ ((v (64 + 8 * b + 2)).toNatClampNeg - 1)
def mv_AB (v : Nat → Int32) (C b D : Nat) : Nat := mv_AR v C (v (64 + 8 * b + 0)) (v (64 + 8 * b + 1) - nI 1) 30 (mv_wm v b) D
def mv_AN (v : Nat → Int32) (C b D : Nat) : Int32 := if v (64 + 8 * b + 3) ≤ nI 0 then nI (mv_AB v C b D) else v (64 + 8 * b + 3) - nI 1
/-- a bundle lies, is with a carrier, or has come -/
def mv_VB (v : Nat → Int32) (C B D : Nat) : Prop := ∀ b, b < B → (∃ t, t ≤ 5 ∧ v (64 + 8 * b + 0) = nI t) ∧ (∃ l w a, l ≤ 6 ∧ w ≤ C ∧ a ≤ D + 1 ∧ v (64 + 8 * b + 1) = nI l ∧ v (64 + 8 * b + 2) = nI w ∧ v (64 + 8 * b + 3) = nI a ∧ ((l ≠ 0 ∧ w = 0 ∧ a = 0) ∨ (l = 0 ∧ w ≠ 0 ∧ a = 0) ∨ (l = 0 ∧ w = 0 ∧ a ≠ 0))) ∧ (v (64 + 8 * b + 5) = nI 0 ∨ v (64 + 8 * b + 5) = nI 1)
def mv_VV (v : Nat → Int32) (C B D : Nat) : Prop := v 0 = nI D ∧ v 3 = nI C ∧ v 4 = nI B ∧ C ≤ 4 ∧ B ≤ 8 ∧ (∀ w, w < 7 → ∃ t, t ≤ 6 ∧ v (9 + w) = nI t) ∧ mv_VC v C ∧ mv_VB v C B D
section M2
variable {h0 : mv_Hp} {I : Nat → Nat → Int32} {C B D : Nat} {β : Type}
theorem mv_two_lt {w : Nat} (h : w ≤ 4) : (if nI w = nI 0 then 0 else 2 ^ ((nI w).toNatClampNeg - 1)) < 16 := by
  rcases (show w = 0 ∨ w = 1 ∨ w = 2 ∨ w = 3 ∨ w = 4 by omega) with rfl | rfl | rfl | rfl | rfl <;> decide
def mv_oN (x : Int32) : Int32 := if x = nI 1000000 then mv_n4 else x
def mv_hD (v : Nat → Int32) (C b D : Nat) : Int32 := if v (64 + 8 * b + 4) = mv_n4 then nI 0 else if mv_AN v C b D = nI 1000000 then nI 0 else nI 1
end M2
