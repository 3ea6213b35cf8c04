/-! doubles: a quotient of two ints is a number -/
theorem fp_mask {n : Nat} {e t : Nat} {s : Bool} (h : n = (s.toNat * 2048 + e) * 2 ^ 52 + t) (he : e * 2 ^ 52 + t ≤ 2047 * 2 ^ 52) : UInt64.ofNat n &&& 0x7fffffffffffffff ≤ 0x7ff0000000000000 := by
  have hs : s.toNat ≤ 1 := by cases s <;> decide
  rw [UInt64.le_iff_toNat_le, UInt64.toNat_and, UInt64.toNat_ofNat']
  have e1 : (0x7fffffffffffffff : UInt64).toNat = 2 ^ 63 - 1 := rfl
  have e2 : (0x7ff0000000000000 : UInt64).toNat = 2047 * 2 ^ 52 := rfl
  rw [e1, e2, Nat.and_two_pow_sub_one_eq_mod]
  omega
def fp_ok (d : FP.Core.Datum) : Prop := match d with
  | .nan => False
  | .inf _ => True
  | .fin _ c q => c < 2 ^ 53 ∧ q ≤ 971
theorem fp_tails : FP.Core.Fmt.tails FP.Core.b64 = 2 ^ 52 := rfl
theorem fp_exps : FP.Core.Fmt.exps FP.Core.b64 = 2048 := rfl
theorem fp_qmin : FP.Core.Fmt.qmin FP.Core.b64 = -1074 := by decide
theorem fp_qmax : FP.Core.Fmt.qmax FP.Core.b64 = 971 := by decide
theorem fp_enc {d : FP.Core.Datum} (h : fp_ok d) : ∃ (s : Bool) (e t : Nat), FP.Core.encode FP.Core.b64 d = (s.toNat * 2048 + e) * 2 ^ 52 + t ∧ e * 2 ^ 52 + t ≤ 2047 * 2 ^ 52 ∧ t < 2 ^ 52 ∧ ((∃ s c q, d = .fin s c q) → e ≤ 2046) := by
  cases d with
  | nan => exact absurd h (by simp [fp_ok])
  | inf s =>
    refine ⟨s, 2047, 0, ?_, by omega, by omega, ?_⟩
    · unfold FP.Core.encode FP.Core.assemble
      rw [fp_exps, fp_tails]
    · rintro ⟨_, _, _, z⟩; cases z
  | fin s c q =>
    obtain ⟨h1, h2⟩ := h
    unfold FP.Core.encode FP.Core.assemble
    dsimp only
    rw [fp_exps, fp_tails, fp_qmin]
    by_cases hc : c < 2 ^ 52
    · rw [if_pos hc]
      exact ⟨s, 0, c, rfl, by omega, hc, fun _ => by omega⟩
    · rw [if_neg hc]
      have hE : (q - -1074).toNat + 1 ≤ 2046 := by omega
      have key : ∀ E t : Nat, E ≤ 2046 → t < 2 ^ 52 → E * 2 ^ 52 + t ≤ 2047 * 2 ^ 52 := by
        intro E t g1 g2
        omega
      have ht : c - 2 ^ 52 < 2 ^ 52 := by omega
      exact ⟨s, (q - -1074).toNat + 1, c - 2 ^ 52, rfl, key _ _ hE ht, ht, fun _ => hE⟩
theorem fp_bound {s : Bool} {c : Nat} {q : Int} (h : c < 2 ^ 53) : fp_ok (FP.Core.bound FP.Core.b64 s c q) := by
  unfold FP.Core.bound
  rw [fp_qmax]
  by_cases hq : q ≤ 971
  · rw [if_pos hq]; exact ⟨h, hq⟩
  · rw [if_neg hq]; trivial
theorem fp_settle {s : Bool} {c : Nat} {q : Int} : fp_ok (FP.Core.settle FP.Core.b64 s c q) := by
  unfold FP.Core.settle
  have hp : (2 : Nat) ^ FP.Core.b64.p = 2 ^ 53 := rfl
  rw [hp]
  by_cases h : c < 2 ^ 53
  · rw [if_pos h]; exact fp_bound h
  · rw [if_neg h, fp_tails]; exact fp_bound (by omega)
theorem fp_ratio {s : Bool} {num den : Nat} {e : Int} : fp_ok (FP.Core.roundRatio FP.Core.b64 s num den e) := by
  unfold FP.Core.roundRatio
  by_cases h : num = 0
  · rw [if_pos h, fp_qmin]; exact ⟨by omega, by omega⟩
  · rw [if_neg h]; exact fp_settle
theorem fp_settle_fin {s : Bool} {c : Nat} {q : Int} (hq : q ≤ 900) : ∃ s' c' q', FP.Core.settle FP.Core.b64 s c q = .fin s' c' q' := by
  unfold FP.Core.settle FP.Core.bound
  rw [fp_qmax]
  by_cases h : c < 2 ^ FP.Core.b64.p
  · rw [if_pos h, if_pos (by omega)]; exact ⟨_, _, _, rfl⟩
  · rw [if_neg h, if_pos (by omega)]; exact ⟨_, _, _, rfl⟩
/-- an int as a double -/
theorem fp_i2d {x : Int32} : ∃ s c q, FP.Core.decode FP.Core.b64 (FP.i2d x).toNat = .fin s c q := by
  have key : ∃ s c q, FP.Core.round FP.Core.b64 (FP.Core.ofInt x.toInt) = .fin s c q := by
    unfold FP.Core.ofInt FP.Core.round FP.Core.roundRatio
    dsimp only
    by_cases h : x.toInt.natAbs = 0
    · rw [if_pos h]; exact ⟨_, _, _, rfl⟩
    · rw [if_neg h]
      unfold FP.Core.roundAt
      apply fp_settle_fin
      unfold FP.Core.quantum FP.Core.leading
      rw [fp_qmin]
      have hlt : x.toInt.natAbs < 2 ^ 32 := by
        have h1 := Int32.toInt_lt x
        have h2 := Int32.le_toInt x
        omega
      have hlog : Nat.log2 x.toInt.natAbs < 32 := (Nat.log2_lt h).mpr hlt
      have hl1 : Nat.log2 1 = 0 := by decide
      have hp : ((FP.Core.b64.p : Nat) : Int) = 53 := rfl
      rw [hl1, hp]
      dsimp only
      split <;> omega
  obtain ⟨s, c, q, e⟩ := key
  have hok : fp_ok (FP.Core.round FP.Core.b64 (FP.Core.ofInt x.toInt)) := by
    unfold FP.Core.ofInt FP.Core.round
    exact fp_ratio
  obtain ⟨s', e', t', h1, h2, h3, h4⟩ := fp_enc hok
  have h5 := h4 ⟨s, c, q, e⟩
  have hs : s'.toNat ≤ 1 := by cases s' <;> decide
  have hn : (FP.i2d x).toNat = (s'.toNat * 2048 + e') * 2 ^ 52 + t' := by
    show (UInt64.ofNat (FP.Core.fromInt FP.Core.b64 x.toInt)).toNat = _
    rw [UInt64.toNat_ofNat']
    unfold FP.Core.fromInt
    rw [h1]
    omega
  rw [hn]
  unfold FP.Core.decode FP.Core.fieldE
  rw [fp_tails, fp_exps]
  have hd : ((s'.toNat * 2048 + e') * 2 ^ 52 + t') / 2 ^ 52 % 2048 = e' := by omega
  rw [hd, if_neg (by omega)]
  by_cases h0 : e' = 0
  · rw [if_pos h0]; exact ⟨_, _, _, rfl⟩
  · rw [if_neg h0]; exact ⟨_, _, _, rfl⟩
theorem fp_small {n : Nat} (h1 : 1 ≤ n) (h2 : n ≤ 8) : ∃ s c q, FP.Core.decode FP.Core.b64 (FP.i2d (nI n)).toNat = .fin s c q ∧ ¬ c = 0 := by
  obtain ⟨s, c, q, e⟩ := fp_i2d (x := nI n)
  refine ⟨s, c, q, e, ?_⟩
  have h : ∀ k : Fin 9, 1 ≤ k.1 → (match FP.Core.decode FP.Core.b64 (FP.i2d (nI k.1)).toNat with | .fin _ c _ => decide (c ≠ 0) | _ => false) = true := by decide +kernel
  have := h ⟨n, by omega⟩ h1
  rw [e] at this
  simpa using this
theorem fp_div {x : Int32} {n : Nat} (h1 : 1 ≤ n) (h2 : n ≤ 8) : FP.ddiv (FP.i2d x) (FP.i2d (nI n)) &&& 0x7fffffffffffffff ≤ 0x7ff0000000000000 := by
  obtain ⟨s, c, q, e1⟩ := fp_i2d (x := x)
  obtain ⟨t, d, r, e2, h0⟩ := fp_small h1 h2
  have hok : fp_ok (FP.Core.quotient FP.Core.b64 (FP.Core.decode FP.Core.b64 (FP.i2d x).toNat) (FP.Core.decode FP.Core.b64 (FP.i2d (nI n)).toNat)) := by
    rw [e1, e2]
    unfold FP.Core.quotient
    dsimp only
    rw [if_neg h0]
    exact fp_ratio
  obtain ⟨s', e', t', a1, a2, -, -⟩ := fp_enc hok
  exact fp_mask (n := FP.Core.div FP.Core.b64 (FP.i2d x).toNat (FP.i2d (nI n)).toNat) a1 a2
/-- a number that is none of the not-numbers equals itself -/
theorem fp_cmp {x : UInt64} (hx : x &&& 0x7fffffffffffffff ≤ 0x7ff0000000000000) : FP.dcmp x x = some .eq := by
  have hn : ¬ FP.Core.decode FP.Core.b64 x.toNat = .nan := by
    rw [UInt64.le_iff_toNat_le, UInt64.toNat_and] at hx
    have e1 : (0x7fffffffffffffff : UInt64).toNat = 2 ^ 63 - 1 := rfl
    have e2 : (0x7ff0000000000000 : UInt64).toNat = 2047 * 2 ^ 52 := rfl
    rw [e1, e2, Nat.and_two_pow_sub_one_eq_mod] at hx
    unfold FP.Core.decode FP.Core.fieldE FP.Core.fieldT
    rw [fp_tails, fp_exps]
    by_cases hE : x.toNat / 2 ^ 52 % 2048 = 2048 - 1
    · rw [if_pos hE, if_pos (by omega)]
      intro z; cases z
    · rw [if_neg hE]
      split <;> (intro z; cases z)
  show FP.Core.order (FP.Core.decode FP.Core.b64 x.toNat) (FP.Core.decode FP.Core.b64 x.toNat) = some .eq
  cases h : FP.Core.decode FP.Core.b64 x.toNat with
  | nan => exact absurd h hn
  | inf s => unfold FP.Core.order; simp
  | fin s c q => unfold FP.Core.order; simp
