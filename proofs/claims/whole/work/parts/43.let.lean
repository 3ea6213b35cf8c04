/-- letters: the fault from a place on, and how many there are -/
def mv_ly (sg : Nat → Nat) (M : Nat) : Nat → Nat → Option Nat × Nat
  | 0, i => (some i, 0)
  | f + 1, i =>
    if ¬ mv_T (sg i) = true then (some i, 0)
    else if ¬ sg (i + 1) = 62 then (some (i + 1), 0)
    else if ¬ (mv_T (sg (i + 2)) = true ∧ ¬ sg (i + 2) = sg i) then (some (i + 2), 0)
    else if M ≤ i + 3 then (none, 1)
    else if sg (i + 3) = 44 then ((mv_ly sg M f (i + 4)).1, (mv_ly sg M f (i + 4)).2 + 1)
    else (some (i + 3), 0)
def mv_fl4 (sg : Nat → Nat) (i : Nat) : Prop := (i % 4 = 0 ∧ mv_T (sg i) = true) ∨ (i % 4 = 1 ∧ sg i = 62) ∨ (i % 4 = 2 ∧ mv_T (sg i) = true ∧ ¬ sg i = sg (i - 2)) ∨ (i % 4 = 3 ∧ sg i = 44)
section Q2
variable {β : Type} {h0 : mv_Hp} {I : Nat → Nat → Int32} {M : Nat} {sg : Nat → Nat}
theorem pa_fits (hp : mv_PS h0) (hs : mv_SG I M sg) {i : Nat} (hi : i < M) : ∃ x : Nat, F_X4_fitsLetters 143 (nI i) (mv_hp h0 I) = some (nI x, mv_hp h0 I) ∧ x ≤ 1 ∧ (x = 1 ↔ mv_fl4 sg i) := by
  have h60 := hs.2.1
  have hsl := mv_sg_lt hs
  have h01 : ∀ b : Bool, nI (if b = true then 1 else 0) = 0 ∨ nI (if b = true then 1 else 0) = 1 := fun b => by cases b; exact Or.inl rfl; exact Or.inr rfl
  have hm : i % 4 < 4 := Nat.mod_lt _ (by omega)
  unfold F_X4_fitsLetters J_X4_fitsLetters_52 J_X4_fitsLetters_75 J_X4_fitsLetters_76 J_X4_fitsLetters_88 mv_fl4
  rw [pa_rc hp, pa_signAt' hp hs (by omega), li4, ev_rm (by omega) (by omega) (by omega), ev_rz (Or.inl rfl : (0 : Int32) = 0 ∨ (0 : Int32) = 1), ev_rz (Or.inr rfl : (1 : Int32) = 0 ∨ (1 : Int32) = 1), li62, li44, li0, li1, li2]
  by_cases m0 : i % 4 = 0
  · rw [ev_t (by rw [m0]), pa_isTown' (hsl i), ev_rz (h01 _)]
    refine ⟨_, rfl, by split <;> omega, ?_⟩
    by_cases hT : mv_T (sg i) = true
    · rw [if_pos hT]; exact ⟨fun _ => Or.inl ⟨m0, hT⟩, fun _ => rfl⟩
    · rw [if_neg hT]; exact ⟨fun z => absurd z (by omega), fun z => by rcases z with z | z | z | z <;> first | exact absurd z.2 hT | omega⟩
  rw [ev_f (fun z => m0 ((mv_eq (by omega) (by omega)).mp z))]
  by_cases m1 : i % 4 = 1
  · rw [ev_t (by rw [m1])]
    by_cases h : sg i = 62
    · rw [ev_t (by rw [h])]; exact ⟨1, rfl, by omega, fun _ => Or.inr (Or.inl ⟨m1, h⟩), fun _ => rfl⟩
    · rw [ev_f (fun z => h ((mv_eq (by have := hsl i; omega) (by omega)).mp z))]
      exact ⟨0, rfl, by omega, fun z => absurd z (by omega), fun z => by rcases z with z | z | z | z <;> first | exact absurd z.2 h | omega⟩
  rw [ev_f (fun z => m1 ((mv_eq (by omega) (by omega)).mp z))]
  by_cases m2 : i % 4 = 2
  · rw [ev_t (by rw [m2]), pa_isTown' (hsl i)]
    by_cases hT : mv_T (sg i) = true
    · rw [if_pos hT, ev_f (by decide), pa_rc hp, pk_sub (by omega), pa_signAt' hp hs (by omega)]
      by_cases h : sg i = sg (i - 2)
      · rw [ev_t (by rw [h])]
        exact ⟨0, rfl, by omega, fun z => absurd z (by omega), fun z => by rcases z with z | z | z | z <;> first | exact absurd h z.2.2 | omega⟩
      · rw [ev_f (fun z => h ((mv_eq (by have := hsl i; omega) (by have := hsl (i - 2); omega)).mp z))]
        exact ⟨1, rfl, by omega, fun _ => Or.inr (Or.inr (Or.inl ⟨m2, hT, h⟩)), fun _ => rfl⟩
    · rw [if_neg hT, ev_t rfl]
      exact ⟨0, rfl, by omega, fun z => absurd z (by omega), fun z => by rcases z with z | z | z | z <;> first | exact absurd z.2.1 hT | omega⟩
  rw [ev_f (fun z => m2 ((mv_eq (by omega) (by omega)).mp z))]
  by_cases h : sg i = 44
  · rw [ev_t (by rw [h])]; exact ⟨1, rfl, by omega, fun _ => Or.inr (Or.inr (Or.inr ⟨by omega, h⟩)), fun _ => rfl⟩
  · rw [ev_f (fun z => h ((mv_eq (by have := hsl i; omega) (by omega)).mp z))]
    exact ⟨0, rfl, by omega, fun z => absurd z (by omega), fun z => by rcases z with z | z | z | z <;> first | exact absurd z.2 h | omega⟩
theorem pa_letters (hp : mv_PS h0) (hs : mv_SG I M sg) : F_X4_faultAsLetters 143 (mv_hp h0 I) = some (mv_fv (mv_ly sg M 100 0).1, mv_hp h0 I) := by
  have h60 := hs.2.1
  have step : ∀ n i, i < M → mv_fl4 sg i → Lp_X4_faultAsLetters_2 143 (n + 1) (nI i) (mv_hp h0 I) = Lp_X4_faultAsLetters_2 143 n (nI (i + 1)) (mv_hp h0 I) := by
    intro n i hi h
    obtain ⟨x, e, x1, x2⟩ := pa_fits hp hs hi
    rw [Lp_X4_faultAsLetters_2, pa_gI hp, hs.1, ev_f (nI_ge hi (by omega)), pa_rc hp, ev_bd e, x2.mpr h, ev_f (by decide), li1, nI_add]
  have wrong : ∀ n i, i < M → ¬ mv_fl4 sg i → Lp_X4_faultAsLetters_2 143 (n + 1) (nI i) (mv_hp h0 I) = some (nI i, mv_hp h0 I) := by
    intro n i hi h
    obtain ⟨x, e, x1, x2⟩ := pa_fits hp hs hi
    have x0 : x = 0 := by
      apply Classical.byContradiction
      intro z
      exact h (x2.mp (by omega))
    rw [Lp_X4_faultAsLetters_2, pa_gI hp, hs.1, ev_f (nI_ge hi (by omega)), pa_rc hp, ev_bd e, x0, ev_t mv_z0]
    rfl
  have atEnd : ∀ n, Lp_X4_faultAsLetters_2 143 (n + 1) (nI M) (mv_hp h0 I) = some (if M % 4 = 3 then mv_n4 else nI M, mv_hp h0 I) := by
    intro n
    have hm : M % 4 < 4 := Nat.mod_lt _ (by omega)
    rw [Lp_X4_faultAsLetters_2, pa_gI hp, hs.1, ev_t (nI_le (Nat.le_refl _) (by omega)), pa_gI hp, hs.1, li4, ev_rm (by omega) (by omega) (by omega), li3]
    unfold J_X4_faultAsLetters_45
    by_cases h : M % 4 = 3
    · rw [ev_t (by rw [h]), if_pos h]; rfl
    · rw [ev_f (fun z => h ((mv_eq (by omega) (by omega)).mp z)), if_neg h, pa_gI hp, hs.1]; rfl
  -- at a place of the pad, or at its end
  have at1 : ∀ n i, i ≤ M → ¬ mv_fl4 sg i → ¬ i % 4 = 3 → Lp_X4_faultAsLetters_2 143 (n + 1) (nI i) (mv_hp h0 I) = some (nI i, mv_hp h0 I) := by
    intro n i hi h h3
    by_cases hlt : i < M
    · exact wrong n i hlt h
    · have : i = M := by omega
      subst this
      rw [atEnd, if_neg h3]
  have main : ∀ f i n, M - i < f → i ≤ M → i % 4 = 0 → M - i < n → Lp_X4_faultAsLetters_2 143 n (nI i) (mv_hp h0 I) = some (mv_fv (mv_ly sg M f i).1, mv_hp h0 I) := by
    intro f
    induction f with
    | zero => intro i n hf; omega
    | succ f ih =>
      intro i n hf hiM hi4 hn
      obtain ⟨n, rfl⟩ := Nat.exists_eq_succ_of_ne_zero (show n ≠ 0 by omega)
      rw [Nat.succ_eq_add_one, mv_ly]
      by_cases c0 : mv_T (sg i) = true
      · have l0 : i < M := mv_sg_in hs (fun z => by rw [z] at c0; exact absurd c0 (by decide))
        rw [if_neg (fun z => z c0), step n i l0 (Or.inl ⟨hi4, c0⟩)]
        obtain ⟨n, rfl⟩ := Nat.exists_eq_succ_of_ne_zero (show n ≠ 0 by omega)
        rw [Nat.succ_eq_add_one]
        by_cases c1 : sg (i + 1) = 62
        · have l1 : i + 1 < M := mv_sg_in hs (by omega)
          rw [if_neg (fun z => z c1), step n (i + 1) l1 (Or.inr (Or.inl ⟨by omega, c1⟩))]
          obtain ⟨n, rfl⟩ := Nat.exists_eq_succ_of_ne_zero (show n ≠ 0 by omega)
          rw [Nat.succ_eq_add_one]
          by_cases c2 : mv_T (sg (i + 2)) = true ∧ ¬ sg (i + 2) = sg i
          · have l2 : i + 2 < M := mv_sg_in hs (fun z => by rw [z] at c2; exact absurd c2.1 (by decide))
            rw [if_neg (fun z => z c2), show i + 1 + 1 = i + 2 by omega, step n (i + 2) l2 (Or.inr (Or.inr (Or.inl ⟨by omega, c2.1, by rw [show i + 2 - 2 = i by omega]; exact c2.2⟩)))]
            obtain ⟨n, rfl⟩ := Nat.exists_eq_succ_of_ne_zero (show n ≠ 0 by omega)
            rw [Nat.succ_eq_add_one, show i + 2 + 1 = i + 3 by omega]
            by_cases hE : M ≤ i + 3
            · have : M = i + 3 := by omega
              rw [if_pos hE, ← this, atEnd, if_pos (by omega)]; rfl
            · rw [if_neg hE]
              by_cases c3 : sg (i + 3) = 44
              · rw [if_pos c3, step n (i + 3) (by omega) (Or.inr (Or.inr (Or.inr ⟨by omega, c3⟩)))]
                exact ih (i + 4) n (by omega) (by omega) (by omega) (by omega)
              · rw [if_neg c3, wrong n (i + 3) (by omega) (fun z => by rcases z with z | z | z | z <;> first | exact c3 z.2 | omega)]; rfl
          · rw [if_pos c2, show i + 1 + 1 = i + 2 by omega]
            exact at1 n (i + 2) (by omega) (fun z => by rcases z with z | z | z | z <;> first | (refine c2 ⟨z.2.1, ?_⟩; have := z.2.2; rw [show i + 2 - 2 = i by omega] at this; exact this) | omega) (by omega)
        · rw [if_pos c1]
          exact at1 n (i + 1) (by omega) (fun z => by rcases z with z | z | z | z <;> first | exact c1 z.2 | omega) (by omega)
      · rw [if_pos c0]
        exact at1 n i hiM (fun z => by rcases z with z | z | z | z <;> first | exact c0 z.2 | omega) (by omega)
  unfold F_X4_faultAsLetters
  rw [li0]
  exact main 100 0 mv_FU (by omega) (by omega) (by omega) (by show M - 0 < 1000; omega)
/-- how often a sign stands in the pad -/
def mv_cnt (sg : Nat → Nat) (s : Nat) : Nat → Nat
  | 0 => 0
  | k + 1 => mv_cnt sg s k + (if sg k = s then 1 else 0)
theorem pa_parts' (hp : mv_PS h0) (hs : mv_SG I M sg) {s : Nat} {g : Int32 → mv_M β} (h126 : s ≤ 126) : mv_bd (F_X4_parts 143 (nI s)) g (mv_hp h0 I) = g (nI (1 + mv_cnt sg s M)) (mv_hp h0 I) := ev_bd (by
  have h60 := hs.2.1
  unfold F_X4_parts
  rw [li0, li1]
  obtain ⟨n, x, e, hx⟩ := mv_lp (L := fun n k (x : Int32) => Lp_X4_parts_4 143 (nI s) n x (nI k) (mv_hp h0 I)) (fun k x => x = nI (1 + mv_cnt sg s k)) M (by omega)
    (fun n k x hk hx => by
      rw [Lp_X4_parts_4, pa_gI hp, hs.1, ev_f (nI_ge hk (by omega)), pa_rc hp, pa_signAt' hp hs (by omega)]
      unfold J_X4_parts_24
      have hsl := mv_sg_lt hs k
      by_cases h : sg k = s
      · rw [ev_t (by rw [h]), li1, nI_add, hx, nI_add]
        exact ⟨_, rfl, by rw [mv_cnt, if_pos h, Nat.add_assoc]⟩
      · rw [ev_f (fun z => h ((mv_eq (by omega) (by omega)).mp z)), li1, nI_add, hx]
        exact ⟨_, rfl, by rw [mv_cnt, if_neg h, Nat.add_zero]⟩)
    (nI 1) rfl
  rw [e, Lp_X4_parts_4, pa_gI hp, hs.1, ev_t (nI_le (Nat.le_refl _) (by omega)), hx]
  rfl)
end Q2
theorem mv_un3 {j : Nat} {h0 : mv_Hp} {I : Nat → Nat → Int32} (hI : mv_Inv j (mv_hp h0 I)) : ∃ M sg, mv_SG I M sg ∧ (∀ k, k < M → I 152 k = nI (sg k)) ∧ I 147 7 = nI M := by
  obtain ⟨hs, L, M, z, hc, q1, q2, q3⟩ := hI
  have hc' : mv_CI j h0 I (I 148) L (I 150) z (I 151) M (I 152) := mv_CI_of hc
  obtain ⟨sg, h1, h2⟩ := mv_SG_of hc'.2.2.2.2
  exact ⟨M, sg, h1, h2, q3⟩
/-- the pad changes on both sides -/
theorem mv_padch {j : Nat} {h0 : mv_Hp} {I I' J : Nat → Nat → Int32} {M' : Nat} (hI : mv_Inv j (mv_hp h0 I)) (hF : ∀ i, i < 147 → i ≠ 143 → i ≠ 144 → J i = I i) (h1 : J 148 = I 148) (h2 : J 150 = I 150) (h3 : J 151 = I 151) (h5 : J 147 3 = I 147 3) (h6 : J 147 5 = I 147 5) (h7 : J 147 7 = nI M') (hP : mv_PD J M' (J 152)) : mv_Inv (j + 1) (mv_hp h0 J) := by
  obtain ⟨hs, L, M, z, hc, q1, q2, q3⟩ := hI
  refine ⟨hs, L, M', z, ?_, h5.trans q1, h6.trans q2, h7⟩
  show mv_CI (j + 1) (mv_hp h0 J) J (J 148) L (J 150) z (J 151) M' (J 152)
  rw [h1, h2, h3]
  have hc' : mv_CI j h0 I (I 148) L (I 150) z (I 151) M (I 152) := mv_CI_of hc
  obtain ⟨hC, hO, ⟨a1, a2, a3⟩, ⟨b1, b2⟩, c1⟩ := hc'
  refine mv_CI_hp ⟨hC, mv_OK_le (Nat.le_succ j) (mv_OK_congr (xo_R1 hC) (fun _ => rfl) (fun i q1 q2 => hF i (by omega) (by omega) (by omega)) hO), ⟨by rw [hF 61 (by omega) (by omega) (by omega)]; exact a1, a2, fun k hk => ?_⟩, ⟨by rw [hF 0 (by omega) (by omega) (by omega)]; exact b1, b2.imp id (fun b => ⟨b.1, ?_⟩)⟩, hP⟩
  · have := mv_sr_rng hC (show k < 4 by omega)
    exact mv_OK_le (Nat.le_succ j) (mv_OK_congr (mv_st63 hC (by omega)) (fun _ => rfl) (fun i q1 q2 => hF i (by omega) (by omega) (by omega)) (a3 k hk))
  · exact mv_OK_le (Nat.le_succ j) (mv_OK_congr (xo_R41 hC) (fun _ => rfl) (fun i q1 q2 => hF i (by omega) (by omega) (by omega)) b.2)
theorem ag_7 : mv_Ag_7 mv_Inv := by
  intro a
  refine mv_A1_of (fun j h0 I hj hI => ?_)
  obtain ⟨D, C, B, hD, hDj, hS, hV, hP, hW⟩ := mv_un hj hI
  obtain ⟨M, sg, hs, h152, h7⟩ := mv_un3 hI
  have hM := hS.2.1
  have hp := mv_PS_of hS
  have h60 := hs.2.1
  have bad : (a < nI 33 ∨ (¬ a < nI 33 ∧ ¬ a ≤ nI 126 ∧ nI 126 < a)) ∨ ∃ s, 33 ≤ s ∧ s ≤ 126 ∧ a = nI s := by
    by_cases h1 : a < nI 33
    · exact Or.inl (Or.inl h1)
    · have h0 : ¬ a < 0 := fun z => h1 (Int32.lt_trans z (by decide))
      obtain ⟨k, hk, rfl⟩ := nI_of h0
      have hk1 : ¬ k < 33 := fun z => h1 (nI_lt z (by omega))
      by_cases h2 : k ≤ 126
      · exact Or.inr ⟨k, by omega, h2, rfl⟩
      · exact Or.inl (Or.inr ⟨h1, nI_ge (by omega) hk, nI_lt (by omega) hk⟩)
  rcases bad with h | ⟨s, s1, s2, rfl⟩
  · refine ⟨mv_n1, h0, I, I, ?_, rfl, rfl, ?_, mv_lk0 hI⟩
    · unfold F_X6_append J_X6_append_12
      rw [li33, li126]
      rcases h with h | ⟨h1, h2, -⟩
      · rw [ev_t h]; rfl
      · rw [ev_f h1, ev_f h2]; rfl
    · unfold F_X7_append
      rw [li33, li126, mo_in']
      rcases h with h | ⟨h1, -, h2⟩
      · rw [if_pos h, ev_t mv_z0]; rfl
      · rw [if_neg h1, if_pos h2, ev_t mv_z0]; rfl
  have in1 : (if nI s < nI 33 then nI 0 else if nI 126 < nI s then nI 0 else nI 1) = nI 1 := by
    rw [if_neg (nI_nlt s1 (by omega)), if_neg (nI_nlt s2 (by omega))]
  by_cases hM60 : M < 60
  · refine ⟨nI (M + 1), h0, mv_si (mv_si I 144 (mv_vu (I 144) M (nI s))) 143 (mv_vu (I 143) 1 (nI (M + 1))), mv_si (mv_si (mv_si (mv_si I 144 (mv_vu (I 144) M (nI s))) 143 (mv_vu (I 143) 1 (nI (M + 1)))) 152 (mv_vu (I 152) M (nI s))) 147 (mv_vu (I 147) 7 (nI (M + 1))), ?_, rfl, rfl, ?_, ?_⟩
    · have e : F_X4_add 143 (nI s) (mv_hp h0 I) = some ((), mv_hp h0 (mv_si (mv_si I 144 (mv_vu (I 144) M (nI s))) 143 (mv_vu (I 143) 1 (nI (M + 1))))) := by
        unfold F_X4_add J_X4_add_39
        rw [pa_gI hp, hs.1, ev_f (nI_pos (by omega)), pa_gI hp, hs.1, pa_g0 hp, pa_l hp, ev_f (nI_ge hM60 (by omega)), pa_g0 hp, pa_gI hp, hs.1, pa_s hp hM60, pa_gI hp, mv_si_ne (by omega), hs.1, pa_sI hp, mv_si_ne (show 143 ≠ 144 by omega), li1, nI_add]
        rfl
      unfold F_X6_append
      rw [li33, li126, ev_f (nI_nlt s1 (by omega)), ev_t (nI_le s2 (by omega)), xo_g4 hS, pa_gI hp, hs.1, li60, ev_t (nI_lt hM60 (by omega)), xo_g4 hS, pa_rc hp, ev_bd e, xo_g4 hS, pa_gI hp, mv_si_eq, mv_vu_eq]
      rfl
    · have g147 : mv_si (mv_si I 144 (mv_vu (I 144) M (nI s))) 143 (mv_vu (I 143) 1 (nI (M + 1))) 147 = I 147 := by rw [mv_si_ne (by omega), mv_si_ne (by omega)]
      have g152 : mv_si (mv_si I 144 (mv_vu (I 144) M (nI s))) 143 (mv_vu (I 143) 1 (nI (M + 1))) 152 = I 152 := by rw [mv_si_ne (by omega), mv_si_ne (by omega)]
      unfold F_X7_append
      rw [li33, li126, mo_in', in1, ev_f mv_z1, mo_gI hM, g147, h7, li60, ev_f (fun z => by have := (mv_eq (by omega) (by omega)).mp z; omega), mo_g6 hM, mo_gI hM, g147, h7, mo_w152 hM (by omega), g152, mo_gI hM, mv_si_ne (show 147 ≠ 152 by omega), g147, h7, mo_sI hM, mv_si_ne (show 147 ≠ 152 by omega), g147, li1, nI_add, mo_gI hM, mv_si_eq, mv_vu_eq]
      rfl
    · refine mv_padch (I' := I) (M' := M + 1) hI (fun i w1 w2 w3 => by rw [mv_si_ne (by omega), mv_si_ne (by omega), mv_si_ne (by omega), mv_si_ne (by omega)]) (by rw [mv_si_ne (by omega), mv_si_ne (by omega), mv_si_ne (by omega), mv_si_ne (by omega)]) (by rw [mv_si_ne (by omega), mv_si_ne (by omega), mv_si_ne (by omega), mv_si_ne (by omega)]) (by rw [mv_si_ne (by omega), mv_si_ne (by omega), mv_si_ne (by omega), mv_si_ne (by omega)]) (by rw [mv_si_eq, mv_vu_ne (by omega)]) (by rw [mv_si_eq, mv_vu_ne (by omega)]) (by rw [mv_si_eq, mv_vu_eq]) ⟨?_, by omega, fun k hk => ?_⟩
      · rw [mv_si_ne (by omega), mv_si_ne (by omega), mv_si_eq, mv_vu_eq]
      · rw [mv_si_ne (show 144 ≠ 147 by omega), mv_si_ne (show 144 ≠ 152 by omega), mv_si_ne (show 144 ≠ 143 by omega), mv_si_eq, mv_si_ne (show 152 ≠ 147 by omega), mv_si_eq]
        by_cases e : k = M
        · subst e; exact ⟨s, s1, s2, by rw [mv_vu_eq], by rw [mv_vu_eq]⟩
        · obtain ⟨a1, a2, a3⟩ := hs.2.2.1 k (by omega)
          exact ⟨sg k, a1, a2, by rw [mv_vu_ne e]; exact a3, by rw [mv_vu_ne e]; exact h152 k (by omega)⟩
  · have : M = 60 := by omega
    subst this
    refine ⟨mv_n3, h0, I, I, ?_, rfl, rfl, ?_, mv_lk0 hI⟩
    · unfold F_X6_append
      rw [li33, li126, ev_f (nI_nlt s1 (by omega)), ev_t (nI_le s2 (by omega)), xo_g4 hS, pa_gI hp, hs.1, li60, ev_f (nI_nlt (Nat.le_refl _) (by omega))]
      rfl
    · unfold F_X7_append
      rw [li33, li126, mo_in', in1, ev_f mv_z1, mo_gI hM, h7, li60, ev_t rfl]
      rfl
theorem ag_8 : mv_Ag_8 mv_Inv := by
  refine mv_A1_of (fun j h0 I hj hI => ?_)
  obtain ⟨D, C, B, hD, hDj, hS, hV, hP, hW⟩ := mv_un hj hI
  obtain ⟨M, sg, hs, h152, h7⟩ := mv_un3 hI
  have hM := hS.2.1
  have hp := mv_PS_of hS
  refine ⟨nI M, h0, mv_si I 143 (mv_vu (I 143) 1 (nI 0)), mv_si (mv_si I 143 (mv_vu (I 143) 1 (nI 0))) 147 (mv_vu (I 147) 7 (nI 0)), ?_, rfl, rfl, ?_, ?_⟩
  · unfold F_X6_clear
    rw [xo_g4 hS, pa_gI hp, hs.1, xo_g4 hS, pa_sI hp, li0]; rfl
  · unfold F_X7_clear
    rw [mo_gI hM, mv_si_ne (show 147 ≠ 143 by omega), h7, mo_sI hM, mv_si_ne (show 147 ≠ 143 by omega), li0]; rfl
  · exact mv_padch (I' := I) (M' := 0) hI (fun i w1 w2 w3 => by rw [mv_si_ne (by omega), mv_si_ne (by omega)]) (by rw [mv_si_ne (by omega), mv_si_ne (by omega)]) (by rw [mv_si_ne (by omega), mv_si_ne (by omega)]) (by rw [mv_si_ne (by omega), mv_si_ne (by omega)]) (by rw [mv_si_eq, mv_vu_ne (by omega)]) (by rw [mv_si_eq, mv_vu_ne (by omega)]) (by rw [mv_si_eq, mv_vu_eq]) ⟨by rw [mv_si_ne (by omega), mv_si_eq, mv_vu_eq], by omega, fun k hk => by omega⟩
