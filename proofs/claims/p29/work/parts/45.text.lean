def mv_gx (fa : Nat → Option Nat) (en : Nat → Nat) (sep : Nat) (sg : Nat → Nat) (M : Nat) : Nat → Nat → Option Nat × Nat
  | 0, i => (some i, 0)
  | f + 1, i => match fa i with
    | some p => (some p, 0)
    | none => if M ≤ en i then (none, 1) else if sg (en i) = sep then ((mv_gx fa en sep sg M f (en i + 1)).1, (mv_gx fa en sep sg M f (en i + 1)).2 + 1) else (some (en i), 0)
def mv_faT (sg : Nat → Nat) (i : Nat) : Option Nat := if mv_nT sg i = 0 then some i else if sg (i + mv_nT sg i) = 42 ∧ ¬ mv_Dg (sg (i + mv_nT sg i + 1)) = true then some (i + mv_nT sg i + 1) else none
def mv_faL (sg : Nat → Nat) (i : Nat) : Option Nat := if ¬ mv_T (sg i) = true then some i else if ¬ sg (i + 1) = 62 then some (i + 1) else if ¬ (mv_T (sg (i + 2)) = true ∧ ¬ sg (i + 2) = sg i) then some (i + 2) else none
theorem mv_tx_gx (sg : Nat → Nat) (M : Nat) : ∀ f i, mv_tx sg M f i = mv_gx (mv_faT sg) (mv_en sg) 59 sg M f i
  | 0, _ => rfl
  | f + 1, i => by
    rw [mv_tx, mv_gx, mv_tx_gx sg M f]
    unfold mv_faT
    by_cases h1 : mv_nT sg i = 0
    · rw [if_pos h1, if_pos h1]
    · rw [if_neg h1, if_neg h1]
      by_cases h2 : sg (i + mv_nT sg i) = 42 ∧ ¬ mv_Dg (sg (i + mv_nT sg i + 1)) = true
      · rw [if_pos h2, if_pos h2]
      · rw [if_neg h2, if_neg h2]
theorem mv_ly_gx (sg : Nat → Nat) (M : Nat) : ∀ f i, mv_ly sg M f i = mv_gx (mv_faL sg) (fun i => i + 3) 44 sg M f i
  | 0, _ => rfl
  | f + 1, i => by
    rw [mv_ly, mv_gx, mv_ly_gx sg M f]
    unfold mv_faL
    by_cases h1 : ¬ mv_T (sg i) = true
    · rw [if_pos h1, if_pos h1]
    · rw [if_neg h1, if_neg h1]
      by_cases h2 : ¬ sg (i + 1) = 62
      · rw [if_pos h2, if_pos h2]
      · rw [if_neg h2, if_neg h2]
        by_cases h3 : ¬ (mv_T (sg (i + 2)) = true ∧ ¬ sg (i + 2) = sg i)
        · rw [if_pos h3, if_pos h3]
        · rw [if_neg h3, if_neg h3]
def mv_stt (en : Nat → Nat) : Nat → Nat → Nat
  | 0, i => i
  | u + 1, i => mv_stt en u (en i + 1)
section Q4
variable {β : Type} {h0 : mv_Hp} {I : Nat → Nat → Int32} {M : Nat} {sg : Nat → Nat} {f g : Nat → Int32} {i ok t : Nat}
end Q4
