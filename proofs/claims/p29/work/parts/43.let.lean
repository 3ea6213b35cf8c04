/-- letters: the fault from a place on, and how many there are -/
def mv_ly (sg : Nat → Nat) (M : Nat) : Nat → Nat → Option Nat × Nat
  | 0, i => (some i, 0)
  | f + 1, i =>
    if ¬ mv_T (sg i) = true then (some i, 0)
    else if ¬ sg (i + 1) = 62 then (some (i + 1), 0)
    else if ¬ (mv_T (sg (i + 2)) = true ∧ ¬ sg (i + 2) = sg i) then (some (i + 2), 0)
    else if M ≤ i + 3 then (none, 1)
    else if sg (i + 3) = 44 then ((mv_ly sg M f (i + 4)).1, (mv_ly sg M f (i + 4)).2 + 1)
    else (some (i + 3), 0)
def mv_fl4 (sg : Nat → Nat) (i : Nat) : Prop := (i % 4 = 0 ∧ mv_T (sg i) = true) ∨ (i % 4 = 1 ∧ sg i = 62) ∨ (i % 4 = 2 ∧ mv_T (sg i) = true ∧ ¬ sg i = sg (i - 2)) ∨ (i % 4 = 3 ∧ sg i = 44)
section Q2
variable {β : Type} {h0 : mv_Hp} {I : Nat → Nat → Int32} {M : Nat} {sg : Nat → Nat}
theorem pa_fits (hp : mv_PS h0) (hs : mv_SG I M sg) {i : Nat} (hi : i < M) : ∃ x : Nat, F_X4_fitsLetters 143 (nI i) (mv_hp h0 I) = some (nI x, mv_hp h0 I) ∧ x ≤ 1 ∧ (x = 1 ↔ mv_fl4 sg i) := by
  have h60 := hs.2.1
  have hsl := mv_sg_lt hs
  have h01 : ∀ b : Bool, nI (if b = true then 1 else 0) = 0 ∨ nI (if b = true then 1 else 0) = 1 := fun b => by cases b; exact Or.inl rfl; exact Or.inr rfl
  have hm : i % 4 < 4 := Nat.mod_lt _ (by omega)
  unfold F_X4_fitsLetters J_X4_fitsLetters_52 J_X4_fitsLetters_75 J_X4_fitsLetters_76 J_X4_fitsLetters_88 mv_fl4
  rw [pa_rc hp, pa_signAt' hp hs (by omega), li4, ev_rm (by omega) (by omega) (by omega), ev_rz (Or.inl rfl : (0 : Int32) = 0 ∨ (0 : Int32) = 1), ev_rz (Or.inr rfl : (1 : Int32) = 0 ∨ (1 : Int32) = 1), li62, li44, li0, li1, li2]
  by_cases m0 : i % 4 = 0
  · rw [ev_t (by rw [m0]), pa_isTown' (hsl i), ev_rz (h01 _)]
    refine ⟨_, rfl, by split <;> omega, ?_⟩
    by_cases hT : mv_T (sg i) = true
    · rw [if_pos hT]; exact ⟨fun _ => Or.inl ⟨m0, hT⟩, fun _ => rfl⟩
    · rw [if_neg hT]; exact ⟨fun z => absurd z (by omega), fun z => by rcases z with z | z | z | z <;> first | exact absurd z.2 hT | omega⟩
  rw [ev_f (fun z => m0 ((mv_eq (by omega) (by omega)).mp z))]
  by_cases m1 : i % 4 = 1
  · rw [ev_t (by rw [m1])]
    by_cases h : sg i = 62
    · rw [ev_t (by rw [h])]; exact ⟨1, rfl, by omega, fun _ => Or.inr (Or.inl ⟨m1, h⟩), fun _ => rfl⟩
    · rw [ev_f (fun z => h ((mv_eq (by have := hsl i; omega) (by omega)).mp z))]
      exact ⟨0, rfl, by omega, fun z => absurd z (by omega), fun z => by rcases z with z | z | z | z <;> first | exact absurd z.2 h | omega⟩
  rw [ev_f (fun z => m1 ((mv_eq (by omega) (by omega)).mp z))]
  by_cases m2 : i % 4 = 2
  · rw [ev_t (by rw [m2]), pa_isTown' (hsl i)]
    by_cases hT : mv_T (sg i) = true
    · rw [if_pos hT, ev_f (by decide), pa_rc hp, pk_sub (by omega), pa_signAt' hp hs (by omega)]
      by_cases h : sg i = sg (i - 2)
      · rw [ev_t (by rw [h])]
        exact ⟨0, rfl, by omega, fun z => absurd z (by omega), fun z => by rcases z with z | z | z | z <;> first | exact absurd h z.2.2 | omega⟩
      · rw [ev_f (fun z => h ((mv_eq (by have := hsl i; omega) (by have := hsl (i - 2); omega)).mp z))]
        exact ⟨1, rfl, by omega, fun _ => Or.inr (Or.inr (Or.inl ⟨m2, hT, h⟩)), fun _ => rfl⟩
    · rw [if_neg hT, ev_t rfl]
      exact ⟨0, rfl, by omega, fun z => absurd z (by omega), fun z => by rcases z with z | z | z | z <;> first | exact absurd z.2.1 hT | omega⟩
  rw [ev_f (fun z => m2 ((mv_eq (by omega) (by omega)).mp z))]
  by_cases h : sg i = 44
  · rw [ev_t (by rw [h])]; exact ⟨1, rfl, by omega, fun _ => Or.inr (Or.inr (Or.inr ⟨by omega, h⟩)), fun _ => rfl⟩
  · rw [ev_f (fun z => h ((mv_eq (by have := hsl i; omega) (by omega)).mp z))]
    exact ⟨0, rfl, by omega, fun z => absurd z (by omega), fun z => by rcases z with z | z | z | z <;> first | exact absurd z.2 h | omega⟩
theorem pa_letters (hp : mv_PS h0) (hs : mv_SG I M sg) : F_X4_faultAsLetters 143 (mv_hp h0 I) = some (mv_fv (mv_ly sg M 100 0).1, mv_hp h0 I) := by
  have h60 := hs.2.1
  have step : ∀ n i, i < M → mv_fl4 sg i → Lp_X4_faultAsLetters_2 143 (n + 1) (nI i) (mv_hp h0 I) = Lp_X4_faultAsLetters_2 143 n (nI (i + 1)) (mv_hp h0 I) := by
    intro n i hi h
    obtain ⟨x, e, x1, x2⟩ := pa_fits hp hs hi
    rw [Lp_X4_faultAsLetters_2, pa_gI hp, hs.1, ev_f (nI_ge hi (by omega)), pa_rc hp, ev_bd e, x2.mpr h, ev_f (by decide), li1, nI_add]
  have wrong : ∀ n i, i < M → ¬ mv_fl4 sg i → Lp_X4_faultAsLetters_2 143 (n + 1) (nI i) (mv_hp h0 I) = some (nI i, mv_hp h0 I) := by
    intro n i hi h
    obtain ⟨x, e, x1, x2⟩ := pa_fits hp hs hi
    have x0 : x = 0 := by
      apply Classical.byContradiction
      intro z
      exact h (x2.mp (by omega))
    rw [Lp_X4_faultAsLetters_2, pa_gI hp, hs.1, ev_f (nI_ge hi (by omega)), pa_rc hp, ev_bd e, x0, ev_t mv_z0]
    rfl
  have atEnd : ∀ n, Lp_X4_faultAsLetters_2 143 (n + 1) (nI M) (mv_hp h0 I) = some (if M % 4 = 3 then mv_n4 else nI M, mv_hp h0 I) := by
    intro n
    have hm : M % 4 < 4 := Nat.mod_lt _ (by omega)
    rw [Lp_X4_faultAsLetters_2, pa_gI hp, hs.1, ev_t (nI_le (Nat.le_refl _) (by omega)), pa_gI hp, hs.1, li4, ev_rm (by omega) (by omega) (by omega), li3]
    unfold J_X4_faultAsLetters_45
    by_cases h : M % 4 = 3
    · rw [ev_t (by rw [h]), if_pos h]; rfl
    · rw [ev_f (fun z => h ((mv_eq (by omega) (by omega)).mp z)), if_neg h, pa_gI hp, hs.1]; rfl
  -- at a place of the pad, or at its end
  have at1 : ∀ n i, i ≤ M → ¬ mv_fl4 sg i → ¬ i % 4 = 3 → Lp_X4_faultAsLetters_2 143 (n + 1) (nI i) (mv_hp h0 I) = some (nI i, mv_hp h0 I) := by
    intro n i hi h h3
    by_cases hlt : i < M
    · exact wrong n i hlt h
    · have : i = M := by omega
      subst this
      rw [atEnd, if_neg h3]
  have main : ∀ f i n, M - i < f → i ≤ M → i % 4 = 0 → M - i < n → Lp_X4_faultAsLetters_2 143 n (nI i) (mv_hp h0 I) = some (mv_fv (mv_ly sg M f i).1, mv_hp h0 I) := by
    intro f
    induction f with
    | zero => intro i n hf; omega
    | succ f ih =>
      intro i n hf hiM hi4 hn
      obtain ⟨n, rfl⟩ := Nat.exists_eq_succ_of_ne_zero (show n ≠ 0 by omega)
      rw [Nat.succ_eq_add_one, mv_ly]
      by_cases c0 : mv_T (sg i) = true
      · have l0 : i < M := mv_sg_in hs (fun z => by rw [z] at c0; exact absurd c0 (by decide))
        rw [if_neg (fun z => z c0), step n i l0 (Or.inl ⟨hi4, c0⟩)]
        obtain ⟨n, rfl⟩ := Nat.exists_eq_succ_of_ne_zero (show n ≠ 0 by omega)
        rw [Nat.succ_eq_add_one]
        by_cases c1 : sg (i + 1) = 62
        · have l1 : i + 1 < M := mv_sg_in hs (by omega)
          rw [if_neg (fun z => z c1), step n (i + 1) l1 (Or.inr (Or.inl ⟨by omega, c1⟩))]
          obtain ⟨n, rfl⟩ := Nat.exists_eq_succ_of_ne_zero (show n ≠ 0 by omega)
          rw [Nat.succ_eq_add_one]
          by_cases c2 : mv_T (sg (i + 2)) = true ∧ ¬ sg (i + 2) = sg i
          · have l2 : i + 2 < M := mv_sg_in hs (fun z => by rw [z] at c2; exact absurd c2.1 (by decide))
            rw [if_neg (fun z => z c2), show i + 1 + 1 = i + 2 by omega, step n (i + 2) l2 (Or.inr (Or.inr (Or.inl ⟨by omega, c2.1, by rw [show i + 2 - 2 = i by omega]; exact c2.2⟩)))]
            obtain ⟨n, rfl⟩ := Nat.exists_eq_succ_of_ne_zero (show n ≠ 0 by omega)
            rw [Nat.succ_eq_add_one, show i + 2 + 1 = i + 3 by omega]
            by_cases hE : M ≤ i + 3
            · have : M = i + 3 := by omega
              rw [if_pos hE, ← this, atEnd, if_pos (by omega)]; rfl
            · rw [if_neg hE]
              by_cases c3 : sg (i + 3) = 44
              · rw [if_pos c3, step n (i + 3) (by omega) (Or.inr (Or.inr (Or.inr ⟨by omega, c3⟩)))]
                exact ih (i + 4) n (by omega) (by omega) (by omega) (by omega)
              · rw [if_neg c3, wrong n (i + 3) (by omega) (fun z => by rcases z with z | z | z | z <;> first | exact c3 z.2 | omega)]; rfl
          · rw [if_pos c2, show i + 1 + 1 = i + 2 by omega]
            exact at1 n (i + 2) (by omega) (fun z => by rcases z with z | z | z | z <;> first | (refine c2 ⟨z.2.1, ?_⟩; have := z.2.2; rw [show i + 2 - 2 = i by omega] at this; exact this) | omega) (by omega)
        · rw [if_pos c1]
          exact at1 n (i + 1) (by omega) (fun z => by rcases z with z | z | z | z <;> first | exact c1 z.2 | omega) (by omega)
      · rw [if_pos c0]
        exact at1 n i hiM (fun z => by rcases z with z | z | z | z <;> first | exact c0 z.2 | omega) (by omega)
  unfold F_X4_faultAsLetters
  rw [li0]
  exact main 100 0 mv_FU (by omega) (by omega) (by omega) (by show M - 0 < 1000; omega)
/-- how often a sign stands in the pad -/
def mv_cnt (sg : Nat → Nat) (s : Nat) : Nat → Nat
  | 0 => 0
  | k + 1 => mv_cnt sg s k + (if sg k = s then 1 else 0)
theorem pa_parts' (hp : mv_PS h0) (hs : mv_SG I M sg) {s : Nat} {g : Int32 → mv_M β} (h126 : s ≤ 126) : mv_bd (F_X4_parts 143 (nI s)) g (mv_hp h0 I) = g (nI (1 + mv_cnt sg s M)) (mv_hp h0 I) := ev_bd (by
  have h60 := hs.2.1
  unfold F_X4_parts
  rw [li0, li1]
  obtain ⟨n, x, e, hx⟩ := mv_lp (L := fun n k (x : Int32) => Lp_X4_parts_4 143 (nI s) n x (nI k) (mv_hp h0 I)) (fun k x => x = nI (1 + mv_cnt sg s k)) M (by omega)
    (fun n k x hk hx => by
      rw [Lp_X4_parts_4, pa_gI hp, hs.1, ev_f (nI_ge hk (by omega)), pa_rc hp, pa_signAt' hp hs (by omega)]
      unfold J_X4_parts_24
      have hsl := mv_sg_lt hs k
      by_cases h : sg k = s
      · rw [ev_t (by rw [h]), li1, nI_add, hx, nI_add]
        exact ⟨_, rfl, by rw [mv_cnt, if_pos h, Nat.add_assoc]⟩
      · rw [ev_f (fun z => h ((mv_eq (by omega) (by omega)).mp z)), li1, nI_add, hx]
        exact ⟨_, rfl, by rw [mv_cnt, if_neg h, Nat.add_zero]⟩)
    (nI 1) rfl
  rw [e, Lp_X4_parts_4, pa_gI hp, hs.1, ev_t (nI_le (Nat.le_refl _) (by omega)), hx]
  rfl)
end Q2
