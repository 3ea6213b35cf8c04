/-! days back (the class) and day by day (the reference) tell the same arrival -/
def mv_ml (p : Nat → Bool) (g : Nat → Nat) (l : Nat) : Nat → Nat
  | 0 => l
  | k + 1 => if p k then min (mv_ml p g l k) (g k) else mv_ml p g l k
theorem mv_ml_le (p : Nat → Bool) (g : Nat → Nat) (l t : Nat) : ∀ k, mv_ml p g l k ≤ t ↔ l ≤ t ∨ ∃ c, c < k ∧ p c = true ∧ g c ≤ t
  | 0 => by
    show l ≤ t ↔ _
    constructor
    · exact fun h => Or.inl h
    · rintro (h | ⟨c, h, -⟩)
      · exact h
      · omega
  | k + 1 => by
    have ih := mv_ml_le p g l t k
    unfold mv_ml
    by_cases hp : p k = true
    · have e0 : ∀ a b : Nat, min a b ≤ t ↔ a ≤ t ∨ b ≤ t := by
        intro a b
        rw [Nat.min_def]
        split <;> omega
      rw [if_pos hp, e0, ih]
      constructor
      · rintro ((h | ⟨c, h1, h2, h3⟩) | h)
        · exact Or.inl h
        · exact Or.inr ⟨c, by omega, h2, h3⟩
        · exact Or.inr ⟨k, by omega, hp, h⟩
      · rintro (h | ⟨c, h1, h2, h3⟩)
        · exact Or.inl (Or.inl h)
        · by_cases e : c = k
          · subst e; exact Or.inr h3
          · exact Or.inl (Or.inr ⟨c, by omega, h2, h3⟩)
    · rw [if_neg hp, ih]
      constructor
      · rintro (h | ⟨c, h1, h2, h3⟩)
        · exact Or.inl h
        · exact Or.inr ⟨c, by omega, h2, h3⟩
      · rintro (h | ⟨c, h1, h2, h3⟩)
        · exact Or.inl h
        · by_cases e : c = k
          · subst e; exact absurd h2 hp
          · exact Or.inr ⟨c, by omega, h2, h3⟩
theorem mv_ml_ge {p : Nat → Bool} {g : Nat → Nat} {l m : Nat} (h1 : m ≤ l) (h2 : ∀ c, m ≤ g c) : ∀ k, m ≤ mv_ml p g l k
  | 0 => h1
  | k + 1 => by
    have ih := mv_ml_ge (p := p) h1 h2 k
    have := h2 k
    unfold mv_ml
    split
    · omega
    · exact ih
def mv_LB (v : Nat → Int32) (C : Nat) (fr to : Int32) : Nat → Nat → (Nat → Nat) × Nat
  | 0, _ => (fun _ => 1000000, 1000000)
  | n + 1, D => (fun c => if mv_tc v C c (D + 1) = to then D + 1 else if mv_tc v C c (D + 1) = mv_sw v (D + 1) then mv_ml (fun c' => decide (mv_tc v C c' (D + 1) = mv_sw v (D + 1))) (mv_LB v C fr to n (D + 1)).1 1000000 4 else (mv_LB v C fr to n (D + 1)).1 c,
      mv_ml (fun c' => decide (mv_tc v C c' (D + 1) = fr)) (mv_LB v C fr to n (D + 1)).1 (mv_LB v C fr to n (D + 1)).2 4)
theorem mv_LB_2 (v : Nat → Int32) (C : Nat) (fr to : Int32) (n D : Nat) : (mv_LB v C fr to (n + 1) D).2 = mv_ml (fun c' => decide (mv_tc v C c' (D + 1) = fr)) (mv_LB v C fr to n (D + 1)).1 (mv_LB v C fr to n (D + 1)).2 4 := by rw [mv_LB]
theorem mv_LB_ge (v : Nat → Int32) (C : Nat) (fr to : Int32) : ∀ n D, D + n < 1000000 → (∀ c, D + 1 ≤ (mv_LB v C fr to n D).1 c) ∧ D + 1 ≤ (mv_LB v C fr to n D).2
  | 0, D, h => ⟨fun _ => by show D + 1 ≤ 1000000; omega, by show D + 1 ≤ 1000000; omega⟩
  | n + 1, D, h => by
    obtain ⟨h1, h2⟩ := mv_LB_ge v C fr to n (D + 1) (by omega)
    refine ⟨fun c => ?_, ?_⟩
    · show D + 1 ≤ ite _ _ _
      split
      · exact Nat.le_refl _
      · split
        · exact mv_ml_ge (by omega) (fun c => by have := h1 c; omega) 4
        · have := h1 c; omega
    · rw [mv_LB_2]; exact mv_ml_ge (by omega) (fun c => by have := h1 c; omega) 4
theorem mv_LB_le (v : Nat → Int32) (C : Nat) (fr to : Int32) : ∀ n D, D + n < 1000000 → (∀ c, (mv_LB v C fr to n D).1 c ≤ 1000000) ∧ (mv_LB v C fr to n D).2 ≤ 1000000
  | 0, D, h => ⟨fun _ => Nat.le_refl _, Nat.le_refl _⟩
  | n + 1, D, h => by
    obtain ⟨h1, h2⟩ := mv_LB_le v C fr to n (D + 1) (by omega)
    refine ⟨fun c => ?_, ?_⟩
    · show ite _ _ _ ≤ 1000000
      split
      · omega
      · split
        · exact (mv_ml_le _ _ _ _ 4).mpr (Or.inl (Nat.le_refl _))
        · exact h1 c
    · rw [mv_LB_2]; exact (mv_ml_le _ _ _ _ 4).mpr (Or.inl h2)
def mv_ok (t : Int32) : Prop := t ≠ mv_n1 ∧ t ≠ mv_n4
theorem mv_ok_nI {n : Nat} (h : n < 2 ^ 31) : mv_ok (nI n) := ⟨mv_n1_ne h, mv_n4_ne h⟩
theorem mv_tc_tw {v : Nat → Int32} {C c D : Nat} {t : Int32} (ht : mv_ok t) : mv_tc v C c D = t ↔ c < C ∧ mv_tw v c D = t := by
  unfold mv_tc mv_tw
  by_cases hc : c < C
  · rw [if_pos hc]
    by_cases ha : v (16 + 12 * c + 9) ≤ nI D
    · rw [if_pos ha, if_pos ha]; exact ⟨fun h => ⟨hc, h⟩, fun h => h.2⟩
    · rw [if_neg ha, if_neg ha]; exact ⟨fun h => absurd h.symm ht.1, fun h => absurd h.2.symm ht.2⟩
  · rw [if_neg hc]; exact ⟨fun h => absurd h.symm ht.1, fun h => absurd h.1 hc⟩
theorem mv_tb_test {v : Nat → Int32} {C c D : Nat} {t : Int32} (ht : mv_ok t) : (mv_tb v C t D).testBit c = true ↔ mv_tc v C c D = t := by
  unfold mv_tb
  rw [mv_bits_test, mv_tc_tw ht]
  simp
theorem mv_and0 {a b : Nat} : a &&& b = 0 ↔ ∀ c, ¬ (a.testBit c = true ∧ b.testBit c = true) := by
  constructor
  · intro h c hc
    have e : (a &&& b).testBit c = false := by rw [h]; simp
    rw [Nat.testBit_and, hc.1, hc.2] at e
    cases e
  · intro h
    apply Nat.eq_of_testBit_eq
    intro c
    rw [Nat.testBit_and, Nat.zero_testBit]
    have := h c
    cases ha : a.testBit c <;> cases hb : b.testBit c <;> simp_all
theorem mv_bit4 {S c : Nat} (hS : S < 16) (h : S.testBit c = true) : c < 4 := by
  rcases Nat.lt_or_ge c 4 with h1 | h1
  · exact h1
  · exfalso
    have e : S.testBit c = false := Nat.testBit_lt_two_pow (Nat.lt_of_lt_of_le hS (Nat.pow_le_pow_right (by decide) h1 : 2 ^ 4 ≤ 2 ^ c))
    rw [e] at h
    cases h
theorem mv_dp {v : Nat → Int32} {C : Nat} {to lies : Int32} (hC4 : C ≤ 4) (hto : mv_ok to) (hsw : ∀ D, mv_ok (mv_sw v D)) (hl : lies < nI 0 ∨ mv_ok lies) : ∀ (n S D : Nat), D + n < 1000000 → S < 16 → ∀ t, mv_AR v C to lies n S D ≤ t ↔ mv_ml (fun c => S.testBit c) (mv_LB v C lies to n D).1 (if lies < nI 0 then 1000000 else (mv_LB v C lies to n D).2) 4 ≤ t
  | 0, S, D, h, hS, t => by
    rw [mv_ml_le]
    show 1000000 ≤ t ↔ (if lies < nI 0 then 1000000 else 1000000) ≤ t ∨ ∃ c, c < 4 ∧ _ ∧ 1000000 ≤ t
    rw [ite_self]
    exact ⟨fun h => Or.inl h, fun h => h.elim id (fun ⟨_, _, _, h⟩ => h)⟩
  | n + 1, S, D, h, hS, t => by
    have ge := mv_LB_ge v C lies to (n + 1) D (by omega)
    unfold mv_AR
    by_cases hz : S &&& mv_tb v C to (D + 1) = 0
    · rw [if_pos hz, mv_dp hC4 hto hsw hl n _ (D + 1) (by omega) (mv_st1_lt hC4 hS) t, mv_ml_le, mv_ml_le]
      have hz' := mv_and0.mp hz
      have hno : ∀ c, S.testBit c = true → ¬ mv_tc v C c (D + 1) = to := fun c hc e => hz' c ⟨hc, (mv_tb_test hto).mpr e⟩
      have l1 : ∀ c, S.testBit c = true → ((mv_LB v C lies to (n + 1) D).1 c ≤ t ↔ if mv_tc v C c (D + 1) = mv_sw v (D + 1) then (1000000 ≤ t ∨ ∃ c', c' < 4 ∧ mv_tc v C c' (D + 1) = mv_sw v (D + 1) ∧ (mv_LB v C lies to n (D + 1)).1 c' ≤ t) else (mv_LB v C lies to n (D + 1)).1 c ≤ t) := by
        intro c hc
        show ite _ _ _ ≤ t ↔ _
        rw [if_neg (hno c hc)]
        by_cases e : mv_tc v C c (D + 1) = mv_sw v (D + 1)
        · rw [if_pos e, if_pos e, mv_ml_le]; simp
        · rw [if_neg e, if_neg e]
      have l2 : ((mv_LB v C lies to (n + 1) D).2 ≤ t ↔ (mv_LB v C lies to n (D + 1)).2 ≤ t ∨ ∃ c', c' < 4 ∧ mv_tc v C c' (D + 1) = lies ∧ (mv_LB v C lies to n (D + 1)).1 c' ≤ t) := by
        rw [mv_LB_2, mv_ml_le]; simp
      have le := mv_LB_le v C lies to n (D + 1) (by omega)
      have st : ∀ c, (mv_st1 v C lies S (D + 1)).testBit c = true ↔ S.testBit c = true ∨ ((∃ c', S.testBit c' = true ∧ mv_tc v C c' (D + 1) = mv_sw v (D + 1)) ∧ mv_tc v C c (D + 1) = mv_sw v (D + 1)) ∨ (¬ lies < nI 0 ∧ mv_tc v C c (D + 1) = lies) := by
        intro c
        unfold mv_st1
        rw [Nat.testBit_or, Nat.testBit_or]
        have a1 : (if S &&& mv_tb v C (mv_sw v (D + 1)) (D + 1) = 0 then 0 else mv_tb v C (mv_sw v (D + 1)) (D + 1)).testBit c = true ↔ ((∃ c', S.testBit c' = true ∧ mv_tc v C c' (D + 1) = mv_sw v (D + 1)) ∧ mv_tc v C c (D + 1) = mv_sw v (D + 1)) := by
          by_cases e : S &&& mv_tb v C (mv_sw v (D + 1)) (D + 1) = 0
          · rw [if_pos e]
            have e' := mv_and0.mp e
            constructor
            · intro z; simp at z
            · rintro ⟨⟨c', z1, z2⟩, -⟩; exact absurd ⟨z1, (mv_tb_test (hsw _)).mpr z2⟩ (e' c')
          · rw [if_neg e, mv_tb_test (hsw _)]
            constructor
            · intro z
              refine ⟨?_, z⟩
              apply Classical.byContradiction
              intro no
              exact e (mv_and0.mpr (fun c' z2 => no ⟨c', z2.1, (mv_tb_test (hsw _)).mp z2.2⟩))
            · exact fun z => z.2
        have a2 : (if lies < nI 0 then 0 else mv_tb v C lies (D + 1)).testBit c = true ↔ (¬ lies < nI 0 ∧ mv_tc v C c (D + 1) = lies) := by
          by_cases e : lies < nI 0
          · rw [if_pos e]; simp [e]
          · rw [if_neg e, mv_tb_test (hl.resolve_left e)]; simp [e]
        rw [Bool.or_eq_true, Bool.or_eq_true, a1, a2, or_assoc]
      constructor
      · rintro (h1 | ⟨c, hc4, hc, h1⟩)
        · left
          by_cases e : lies < nI 0
          · rw [if_pos e] at h1 ⊢; exact h1
          · rw [if_neg e] at h1 ⊢; exact l2.mpr (Or.inl h1)
        · rcases (st c).mp hc with h2 | ⟨⟨c', h2, h3⟩, h4⟩ | ⟨h2, h3⟩
          · right
            refine ⟨c, hc4, h2, (l1 c h2).mpr ?_⟩
            by_cases e : mv_tc v C c (D + 1) = mv_sw v (D + 1)
            · rw [if_pos e]; exact Or.inr ⟨c, hc4, e, h1⟩
            · rw [if_neg e]; exact h1
          · right
            exact ⟨c', mv_bit4 hS h2, h2, (l1 c' h2).mpr (by rw [if_pos h3]; exact Or.inr ⟨c, hc4, h4, h1⟩)⟩
          · left
            rw [if_neg h2]
            exact l2.mpr (Or.inr ⟨c, hc4, h3, h1⟩)
      · rintro (h1 | ⟨c, hc4, hc, h1⟩)
        · by_cases e : lies < nI 0
          · rw [if_pos e] at h1 ⊢; exact Or.inl h1
          · rw [if_neg e] at h1 ⊢
            rcases l2.mp h1 with h2 | ⟨c, hc4, h2, h3⟩
            · exact Or.inl h2
            · exact Or.inr ⟨c, hc4, (st c).mpr (Or.inr (Or.inr ⟨e, h2⟩)), h3⟩
        · have h2 := (l1 c hc).mp h1
          by_cases e : mv_tc v C c (D + 1) = mv_sw v (D + 1)
          · rw [if_pos e] at h2
            rcases h2 with h2 | ⟨c', hc', h3, h4⟩
            · exact Or.inr ⟨c, hc4, (st c).mpr (Or.inl hc), Nat.le_trans (le.1 c) h2⟩
            · exact Or.inr ⟨c', hc', (st c').mpr (Or.inr (Or.inl ⟨⟨c, hc, e⟩, h3⟩)), h4⟩
          · rw [if_neg e] at h2
            exact Or.inr ⟨c, hc4, (st c).mpr (Or.inl hc), h2⟩
    · rw [if_neg hz, mv_ml_le]
      have : ∃ c, S.testBit c = true ∧ mv_tc v C c (D + 1) = to := by
        apply Classical.byContradiction
        intro no
        exact hz (mv_and0.mpr (fun c z => no ⟨c, z.1, (mv_tb_test hto).mp z.2⟩))
      obtain ⟨c, hc, hct⟩ := this
      constructor
      · intro h1
        refine Or.inr ⟨c, mv_bit4 hS hc, hc, ?_⟩
        show ite _ _ _ ≤ t
        rw [if_pos hct]; exact h1
      · rintro (h1 | ⟨c, -, -, h1⟩)
        · by_cases e : lies < nI 0
          · rw [if_pos e] at h1; omega
          · rw [if_neg e] at h1; have := ge.2; omega
        · have := ge.1 c; omega
theorem mv_dp_eq {v : Nat → Int32} {C : Nat} {to lies : Int32} (hC4 : C ≤ 4) (hto : mv_ok to) (hsw : ∀ D, mv_ok (mv_sw v D)) (hl : lies < nI 0 ∨ mv_ok lies) {n S D : Nat} (h : D + n < 1000000) (hS : S < 16) : mv_AR v C to lies n S D = mv_ml (fun c => S.testBit c) (mv_LB v C lies to n D).1 (if lies < nI 0 then 1000000 else (mv_LB v C lies to n D).2) 4 :=
  Nat.le_antisymm ((mv_dp hC4 hto hsw hl n S D h hS _).mpr (Nat.le_refl _)) ((mv_dp hC4 hto hsw hl n S D h hS _).mp (Nat.le_refl _))
/-- lying; in the hands of one -/
theorem mv_dp_lies {v : Nat → Int32} {C : Nat} {to lies : Int32} (hC4 : C ≤ 4) (hto : mv_ok to) (hsw : ∀ D, mv_ok (mv_sw v D)) (hl : ¬ lies < nI 0) (hl2 : mv_ok lies) {n D : Nat} (h : D + n < 1000000) : mv_AR v C to lies n 0 D = (mv_LB v C lies to n D).2 := by
  rw [mv_dp_eq hC4 hto hsw (Or.inr hl2) h (by decide), if_neg hl]
  apply Nat.le_antisymm
  · exact (mv_ml_le _ _ _ _ 4).mpr (Or.inl (Nat.le_refl _))
  · rcases (mv_ml_le _ _ _ _ 4).mp (Nat.le_refl _) with z | ⟨c, -, z, -⟩
    · exact z
    · simp at z
theorem mv_LB_fr {v : Nat → Int32} {C : Nat} {fr fr' to : Int32} : ∀ n D c, (mv_LB v C fr to n D).1 c = (mv_LB v C fr' to n D).1 c
  | 0, _, _ => rfl
  | n + 1, D, c => by
    have e : (mv_LB v C fr to n (D + 1)).1 = (mv_LB v C fr' to n (D + 1)).1 := by funext c; exact mv_LB_fr n (D + 1) c
    show ite _ _ _ = ite _ _ _
    rw [e]
theorem mv_dp_hand {v : Nat → Int32} {C : Nat} {to lies fr : Int32} (hC4 : C ≤ 4) (hto : mv_ok to) (hsw : ∀ D, mv_ok (mv_sw v D)) (hl : lies < nI 0) {n D c : Nat} (hc : c < 4) (h : D + n < 1000000) : mv_AR v C to lies n (2 ^ c) D = (mv_LB v C fr to n D).1 c := by
  have h16 : 2 ^ c < 16 := by rcases (show c = 0 ∨ c = 1 ∨ c = 2 ∨ c = 3 by omega) with rfl | rfl | rfl | rfl <;> decide
  have le := mv_LB_le v C lies to n D h
  rw [mv_dp_eq hC4 hto hsw (Or.inl hl) h h16, if_pos hl, mv_LB_fr (fr := fr) (fr' := lies)]
  apply Nat.le_antisymm
  · exact (mv_ml_le _ _ _ _ 4).mpr (Or.inr ⟨c, hc, by simp, Nat.le_refl _⟩)
  · rcases (mv_ml_le (fun c' => (2 ^ c).testBit c') (mv_LB v C lies to n D).1 1000000 _ 4).mp (Nat.le_refl _) with z | ⟨c', -, z, z2⟩
    · exact Nat.le_trans (le.1 c) z
    · rw [Nat.testBit_two_pow] at z
      have : c = c' := by simpa using z
      subst this
      exact z2
