theorem mv_and (a b : Nat) : nI a &&& nI b = nI (a &&& b) := by
  apply Int32.toBitVec_inj.1
  show BitVec.ofNat 32 a &&& BitVec.ofNat 32 b = BitVec.ofNat 32 (a &&& b)
  apply BitVec.eq_of_getLsbD_eq
  intro i hi
  simp [hi]
theorem mv_or (a b : Nat) : nI a ||| nI b = nI (a ||| b) := by
  apply Int32.toBitVec_inj.1
  show BitVec.ofNat 32 a ||| BitVec.ofNat 32 b = BitVec.ofNat 32 (a ||| b)
  apply BitVec.eq_of_getLsbD_eq
  intro i hi
  simp [hi]
theorem mv_shl {c : Nat} (h : c < 8) : nI 1 <<< nI (c &&& 31) = nI (2 ^ c) := by
  rcases (show c = 0 ∨ c = 1 ∨ c = 2 ∨ c = 3 ∨ c = 4 ∨ c = 5 ∨ c = 6 ∨ c = 7 by omega) with rfl | rfl | rfl | rfl | rfl | rfl | rfl | rfl <;> rfl
theorem mv_le {a b : Nat} (ha : a < 2 ^ 31) (hb : b < 2 ^ 31) : nI a ≤ nI b ↔ a ≤ b := nI_leI ha hb
theorem mv_lt {a b : Nat} (ha : a < 2 ^ 31) (hb : b < 2 ^ 31) : nI a < nI b ↔ a < b := nI_ltI ha hb
theorem mv_eq {a b : Nat} (ha : a < 2 ^ 31) (hb : b < 2 ^ 31) : nI a = nI b ↔ a = b := nI_eq ha hb
theorem mv_lt0 {a : Nat} (ha : a < 2 ^ 31) : nI a < 0 ↔ False := ⟨fun h => nI_pos ha h, False.elim⟩
theorem mv_le0 {a : Nat} (ha : a < 2 ^ 31) : nI a ≤ 0 ↔ a = 0 := by rw [show (0 : Int32) = nI 0 from rfl, mv_le ha (by omega)]; omega
theorem mv_eq0 {a : Nat} (ha : a < 2 ^ 31) : nI a = 0 ↔ a = 0 := by rw [show (0 : Int32) = nI 0 from rfl, mv_eq ha (by omega)]
theorem mv_ix64 (b w : Nat) : (64 : Int32) + (8 : Int32) * nI b + nI w = nI (64 + 8 * b + w) := by rw [li64, li8, pk_mul, nI_add, nI_add]
theorem mv_ix16 (b w : Nat) : (16 : Int32) + (12 : Int32) * nI b + nI w = nI (16 + 12 * b + w) := by rw [li16, li12, pk_mul, nI_add, nI_add]
/-- a set of the carriers c < n with f c, a bit for each -/
def mv_bits (f : Nat → Bool) : Nat → Nat
  | 0 => 0
  | n + 1 => if f n then mv_bits f n ||| 2 ^ n else mv_bits f n
theorem mv_bits_test (f : Nat → Bool) : ∀ n k, (mv_bits f n).testBit k = (decide (k < n) && f k)
  | 0, k => by simp [mv_bits]
  | n + 1, k => by
    unfold mv_bits
    by_cases hk : k = n
    · subst hk
      by_cases h : f k = true
      · simp [h, mv_bits_test f k k]
      · simp [h, mv_bits_test f k k]
    · have e : decide (k < n + 1) = decide (k < n) := by
        by_cases h : k < n
        · simp [h, Nat.lt_succ_of_lt h]
        · have : ¬ k < n + 1 := by omega
          simp [h, this]
      by_cases h : f n = true
      · simp only [h, if_true, Nat.testBit_or, mv_bits_test f n k, e, Nat.testBit_two_pow]
        have : ¬ n = k := fun z => hk z.symm
        simp [this]
      · simp [h, mv_bits_test f n k, e]
theorem mv_bits_lt (f : Nat → Bool) : ∀ n, mv_bits f n < 2 ^ n
  | 0 => by simp [mv_bits]
  | n + 1 => by
    unfold mv_bits
    have h := mv_bits_lt f n
    have e : 2 ^ (n + 1) = 2 ^ n + 2 ^ n := by rw [Nat.pow_succ]; omega
    split
    · exact Nat.or_lt_two_pow (by omega) (by rw [e]; have : 0 < 2 ^ n := Nat.two_pow_pos n; omega)
    · omega
theorem mv_it_bits (f : Nat → Bool) : ∀ n, mv_it (fun c s => if f c then s ||| 2 ^ c else s) n 0 0 = mv_bits f n
  | 0 => rfl
  | n + 1 => by rw [mv_it_last, mv_it_bits f n, Nat.zero_add]; rfl
/-- the town of a carrier on a day; the stall; who is there -/
def mv_tw (v : Nat → Int32) (c D : Nat) : Int32 := if v (16 + 12 * c + 9) ≤ nI D then v (16 + 12 * c + (1 + D % (v (16 + 12 * c + 0)).toNatClampNeg)) else mv_n4
def mv_sw (v : Nat → Int32) (D : Nat) : Int32 := v (9 + D % 7)
def mv_tb (v : Nat → Int32) (C : Nat) (t : Int32) (D : Nat) : Nat := mv_bits (fun c => decide (mv_tw v c D = t)) C
/-- tours of 1 to 7 towns -/
def mv_VC (v : Nat → Int32) (C : Nat) : Prop := ∀ c, c < C → ∃ n, 1 ≤ n ∧ n ≤ 7 ∧ v (16 + 12 * c + 0) = nI n ∧ ∀ j, j < n → ∃ t, t ≤ 5 ∧ v (16 + 12 * c + (1 + j)) = nI t
theorem ev_t {α : Type} {p : Prop} [Decidable p] {f g : mv_M α} {h : mv_Hp} (q : p) : (if p then f else g) h = f h := by rw [if_pos q]
theorem ev_f {α : Type} {p : Prop} [Decidable p] {f g : mv_M α} {h : mv_Hp} (q : ¬ p) : (if p then f else g) h = g h := by rw [if_neg q]
section M1
variable {h0 : mv_Hp} {I : Nat → Nat → Int32} {C : Nat} {β : Type}
/-- the arrival, day by day: of a set of carriers S behind day D -/
def mv_st1 (v : Nat → Int32) (C : Nat) (lies : Int32) (S D : Nat) : Nat :=
  (S ||| (if S &&& mv_tb v C (mv_sw v D) D = 0 then 0 else mv_tb v C (mv_sw v D) D)) ||| (if lies < nI 0 then 0 else mv_tb v C lies D)
def mv_AR (v : Nat → Int32) (C : Nat) (to lies : Int32) : Nat → Nat → Nat → Nat
  | 0, _, _ => 1000000
  | n + 1, S, D => if S &&& mv_tb v C to (D + 1) = 0 then mv_AR v C to lies n (mv_st1 v C lies S (D + 1)) (D + 1) else D + 1
theorem mv_tb_lt {v : Nat → Int32} {C D : Nat} {t : Int32} (hC4 : C ≤ 4) : mv_tb v C t D < 16 := Nat.lt_of_lt_of_le (mv_bits_lt _ C) (Nat.pow_le_pow_right (by decide) hC4 : 2 ^ C ≤ 2 ^ 4)
theorem mv_st1_lt {v : Nat → Int32} {C D S : Nat} {lies : Int32} (hC4 : C ≤ 4) (hS : S < 16) : mv_st1 v C lies S D < 16 := by
  unfold mv_st1
  have h1 := mv_tb_lt (v := v) (D := D) (t := mv_sw v D) hC4
  have h2 := mv_tb_lt (v := v) (D := D) (t := lies) hC4
  exact Nat.or_lt_two_pow (n := 4) (Nat.or_lt_two_pow (n := 4) hS (by split <;> omega)) (by split <;> omega)
end M1
