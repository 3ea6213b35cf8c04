def mv_rem (x y : Int32) : Int32 := x - x / y * y
theorem ev_rmc {β : Type} {x : Int32} {y : Nat} {g : Int32 → mv_M β} {h : mv_Hp} (h1 : 0 < y) (h2 : y < 2 ^ 31) : mv_bd (mv_rm x (nI y)) g h = g (mv_rem x (nI y)) h := by
  unfold mv_rm
  rw [if_neg (nI_ne0 h1 h2), ev_bpu]; rfl
theorem mv_AR_le (v : Nat → Int32) (C : Nat) (to lies : Int32) : ∀ (n S D : Nat), D + n ≤ 1000000 → mv_AR v C to lies n S D ≤ 1000000
  | 0, _, _, _ => Nat.le_refl _
  | n + 1, S, D, h => by
    unfold mv_AR
    split
    · exact mv_AR_le v C to lies n _ _ (by omega)
    · omega
/-- a bundle is posted: what the vector is then -/
def mv_pp (v : Nat → Int32) (C D f t : Nat) : Int32 := mv_oN (nI (mv_AR v C (nI t) (nI f) 30 0 D))
def mv_pv (v : Nat → Int32) (C B D f t : Nat) : Nat → Int32 :=
  mv_vu (mv_vu (mv_vu (mv_vu (mv_vu (mv_vu (mv_vu (mv_vu (mv_vu (mv_vu v (64 + 8 * B + 0) (nI t)) (64 + 8 * B + 1) (nI (f + 1))) (64 + 8 * B + 2) (nI 0)) (64 + 8 * B + 3) (nI 0)) (64 + 8 * B + 4) (mv_pp v C D f t)) (64 + 8 * B + 5) (nI 0)) (64 + 8 * B + 6) (nI 0)) (64 + 8 * B + 7) (nI D)) 4 (nI (B + 1))) 5 (v 5 + nI 1)
/-- a bundle changes hands -/
def mv_lo (v : Nat → Int32) : Int32 := mv_rem (nI 421 * v 2 + nI 1663) (nI 10000)
def mv_ch1 (v : Nat → Int32) (b c : Nat) : Nat → Int32 :=
  mv_vu (mv_vu (mv_vu (mv_vu (mv_vu (mv_vu v (64 + 8 * b + 1) (nI 0)) (64 + 8 * b + 2) (nI (c + 1))) (64 + 8 * b + 6) (v (64 + 8 * b + 6) + nI 1)) 8 (v 8 + nI 1)) (16 + 12 * c + 10) (v (16 + 12 * c + 10) + nI 1)) 2 (mv_lo v)
def mv_chg (v : Nat → Int32) (b c : Nat) : Nat → Int32 :=
  if v (16 + 12 * c + 8) ≤ mv_rem (mv_lo v) (nI 10) then mv_ch1 v b c
  else if v (64 + 8 * b + 5) = nI 0 then mv_vu (mv_vu (mv_ch1 v b c) (64 + 8 * b + 5) (nI 1)) (16 + 12 * c + 11) (v (16 + 12 * c + 11) + nI 1)
  else mv_ch1 v b c
section M3
variable {h0 : mv_Hp} {I : Nat → Nat → Int32} {C B D : Nat} {β : Type}
end M3
/-- who takes the bundle -/
def mv_hr (v : Nat → Int32) (b D : Nat) : Int32 := if nI 0 ≤ v (64 + 8 * b + 2) - nI 1 then mv_tw v ((v (64 + 8 * b + 2)).toNatClampNeg - 1) D else v (64 + 8 * b + 1) - nI 1
def mv_gs (v : Nat → Int32) (C b D : Nat) : Nat :=
  if v (64 + 8 * b + 2) - nI 1 < nI 0 then mv_tb v C (mv_hr v b D) D
  else if mv_hr v b D < nI 0 then 0
  else if mv_hr v b D = mv_sw v D then mv_tb v C (mv_hr v b D) D else 0
def mv_cn (v : Nat → Int32) (C B b D c : Nat) : Bool := (mv_gs v C b D).testBit c && (!decide (nI c = v (64 + 8 * b + 2) - nI 1) && !decide (v 1 ≤ mv_hs v B c))
def mv_gq (v : Nat → Int32) (C B b D c : Nat) : Nat := if mv_cn v C B b D c then mv_AR v C (v (64 + 8 * b + 0)) mv_n4 30 (2 ^ c) D else 1000000
def mv_gf (v : Nat → Int32) (C B b D : Nat) (c : Nat) (s : Option Nat × Nat) : Option Nat × Nat := if s.2 ≤ mv_gq v C B b D c then s else (some c, mv_gq v C B b D c)
def mv_gl (v : Nat → Int32) (C B b D : Nat) : Option Nat × Nat := mv_it (mv_gf v C B b D) C 0 (none, mv_AB v C b D)
def mv_go (v : Nat → Int32) (C B b D : Nat) : Nat → Int32 := match (mv_gl v C B b D).1 with
  | none => v
  | some c => mv_chg v b c
def mv_ob (o : Option Nat) : Int32 := match o with
  | none => mv_n4
  | some c => nI c
section M4
variable {h0 : mv_Hp} {I : Nat → Nat → Int32} {C B D : Nat} {β : Type}
theorem mv_shr_bit {S c : Nat} (hS : S < 16) (hc : c < 8) : (nI S >>> (nI (c &&& 31))) &&& nI 1 = nI 1 ↔ S.testBit c = true := by
  have e : nI S >>> nI (c &&& 31) = nI (S / 2 ^ c) := by
    rcases (show c = 0 ∨ c = 1 ∨ c = 2 ∨ c = 3 ∨ c = 4 ∨ c = 5 ∨ c = 6 ∨ c = 7 by omega) with rfl | rfl | rfl | rfl | rfl | rfl | rfl | rfl <;> exact pk_shrN (by omega) _ _ (by decide)
  have hle : S / 2 ^ c ≤ S := Nat.div_le_self _ _
  have hand : S / 2 ^ c &&& 1 = S / 2 ^ c % 2 := Nat.and_one_is_mod _
  rw [e, mv_and, hand, mv_eq (by omega) (by omega), Nat.testBit_eq_decide_div_mod_eq]
  simp
end M4
