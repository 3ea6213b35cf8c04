/-! the reference's reading: its row 147 (f) and what is read, 153 (g) -/
def mv_tI (I : Nat → Nat → Int32) (f g : Nat → Int32) : Nat → Nat → Int32 := mv_si (mv_si I 147 f) 153 g
theorem mv_tI_1 {I : Nat → Nat → Int32} {f g : Nat → Int32} : mv_tI I f g 147 = f := by unfold mv_tI; rw [mv_si_ne (by decide), mv_si_eq]
theorem mv_tI_2 {I : Nat → Nat → Int32} {f g : Nat → Int32} : mv_tI I f g 153 = g := by unfold mv_tI; rw [mv_si_eq]
theorem mv_tI_ne {I : Nat → Nat → Int32} {f g : Nat → Int32} {i : Nat} (h1 : i ≠ 147) (h2 : i ≠ 153) : mv_tI I f g i = I i := by unfold mv_tI; rw [mv_si_ne h2, mv_si_ne h1]
theorem mv_tI_s1 {I : Nat → Nat → Int32} {f g f' : Nat → Int32} : mv_si (mv_tI I f g) 147 f' = mv_tI I f' g := by
  funext i
  by_cases h1 : i = 147
  · subst h1; rw [mv_si_eq, mv_tI_1]
  · rw [mv_si_ne h1]
    by_cases h2 : i = 153
    · subst h2; rw [mv_tI_2, mv_tI_2]
    · rw [mv_tI_ne h1 h2, mv_tI_ne h1 h2]
theorem mv_tI_s2 {I : Nat → Nat → Int32} {f g g' : Nat → Int32} : mv_si (mv_tI I f g) 153 g' = mv_tI I f g' := by unfold mv_tI; rw [mv_si_si]
theorem mv_tI_self {I : Nat → Nat → Int32} : mv_tI I (I 147) (I 153) = I := by
  funext i
  by_cases h1 : i = 147
  · subst h1; rw [mv_tI_1]
  · by_cases h2 : i = 153
    · subst h2; rw [mv_tI_2]
    · rw [mv_tI_ne h1 h2]
def mv_SM (I : Nat → Nat → Int32) (M : Nat) (sg : Nat → Nat) : Prop := M ≤ 60 ∧ (∀ k, k < M → sg k ≤ 126 ∧ I 152 k = nI (sg k)) ∧ ∀ k, M ≤ k → sg k = 0
theorem mv_SM_lt {I : Nat → Nat → Int32} {M : Nat} {sg : Nat → Nat} (h : mv_SM I M sg) (k : Nat) : sg k ≤ 126 := by
  by_cases hk : k < M
  · exact (h.2.1 k hk).1
  · rw [h.2.2 k (by omega)]; omega
theorem mv_SM_in {I : Nat → Nat → Int32} {M : Nat} {sg : Nat → Nat} (h : mv_SM I M sg) {k : Nat} (hk : sg k ≠ 0) : k < M := by
  apply Classical.byContradiction
  intro z
  exact hk (h.2.2 k (by omega))
/-- where the reading stands: at i, still right or not, t parts read -/
def mv_rs8 (f : Nat → Int32) (M i ok t : Nat) : Prop := f 7 = nI M ∧ f 8 = nI i ∧ f 9 = nI ok ∧ f 10 = nI t ∧ ok ≤ 1
def mv_tk (f : Nat → Int32) (i ok : Nat) : Nat → Int32 := mv_vu (mv_vu f 9 (nI ok)) 8 (nI i)
section Q3
variable {β : Type} {h0 : mv_Hp} {I : Nat → Nat → Int32} {M : Nat} {sg : Nat → Nat} {f g : Nat → Int32} {i ok t : Nat}
theorem mv_tk_lt {k : Nat} (hk : k < 8) : mv_tk f i ok k = f k := by unfold mv_tk; rw [mv_vu_ne (by omega), mv_vu_ne (by omega)]
theorem mv_tk_rs {i' ok' : Nat} (h : mv_rs8 f M i ok t) (h1 : ok' ≤ 1) : mv_rs8 (mv_tk f i' ok') M i' ok' t := by
  unfold mv_rs8 mv_tk
  refine ⟨?_, mv_vu_eq, ?_, ?_, h1⟩
  · rw [mv_vu_ne (by omega), mv_vu_ne (by omega)]; exact h.1
  · rw [mv_vu_ne (by omega), mv_vu_eq]
  · rw [mv_vu_ne (by omega), mv_vu_ne (by omega)]; exact h.2.2.2.1
theorem re_here' (hM : mv_MS h0) (hs : mv_SM I M sg) (hr : mv_rs8 f M i ok t) (hi : i < 2 ^ 30) {k : Int32 → mv_M β} : mv_bd (F_X7_here 147) k (mv_hp h0 (mv_tI I f g)) = k (nI (sg i)) (mv_hp h0 (mv_tI I f g)) := ev_bd (by
  have h60 := hs.1
  unfold F_X7_here J_X7_here_24
  rw [mo_gI hM, mv_tI_1, hr.2.1, mo_gI hM, mv_tI_1, hr.1]
  by_cases h : i < M
  · rw [ev_f (nI_ge h (by omega)), mo_g6 hM, mo_gI hM, mv_tI_1, hr.2.1, mo_r152 hM (by omega), mv_tI_ne (by omega) (by omega), (hs.2.1 i h).2]; rfl
  · rw [ev_t (nI_le (by omega) (by omega)), hs.2.2 i (by omega)]; rfl)
theorem re_takes' (hM : mv_MS h0) (hr : mv_rs8 f M i ok t) {c : Nat} (hc : c ≤ 1) {k : Unit → mv_M β} : mv_bd (F_X7_takes 147 (nI c)) k (mv_hp h0 (mv_tI I f g)) = k () (mv_hp h0 (mv_tI I (mv_tk f (i + ok * c) (ok * c)) g)) := ev_bd (by
  obtain ⟨r1, r2, r3, r4, r5⟩ := hr
  unfold F_X7_takes J_X7_takes_16
  rw [mo_gI hM, mv_tI_1, r3]
  have j17 : ∀ x : Nat, x ≤ 1 → J_X7_takes_17 147 (nI x) (mv_hp h0 (mv_tI I f g)) = some ((), mv_hp h0 (mv_tI I (mv_tk f (i + x) x) g)) := by
    intro x hx
    have hx2 : nI x = 0 ∨ nI x = 1 := by rcases (show x = 0 ∨ x = 1 by omega) with rfl | rfl; exact Or.inl rfl; exact Or.inr rfl
    unfold J_X7_takes_17 J_X7_takes_37
    rw [mo_sZ hM hx2, mv_tI_1, mv_tI_s1, mo_gI hM, mv_tI_1, mv_vu_ne (by omega), r2, mo_gI hM, mv_tI_1, mv_vu_eq]
    rcases (show x = 0 ∨ x = 1 by omega) with rfl | rfl
    · rw [ev_t mv_z0, mo_sI hM, mv_tI_1, mv_tI_s1, li0, nI_add]; rfl
    · rw [ev_f mv_z1, mo_sI hM, mv_tI_1, mv_tI_s1, li1, nI_add]; rfl
  rcases (show ok = 0 ∨ ok = 1 by omega) with rfl | rfl
  · rw [ev_t mv_z0, Nat.zero_mul]
    exact j17 0 (by omega)
  · rw [ev_f mv_z1, Nat.one_mul]
    rcases (show c = 0 ∨ c = 1 by omega) with rfl | rfl
    · rw [ev_t mv_z0]; exact j17 0 (by omega)
    · rw [ev_f mv_z1]; exact j17 1 (by omega))
theorem mv_dig {s hi : Nat} (hs : s ≤ 126) (hh : hi ≤ 9) : (if nI s - nI 48 < nI 0 then nI 0 else if nI hi < nI s - nI 48 then nI 0 else nI 1) = nI (if 48 ≤ s ∧ s ≤ 48 + hi then 1 else 0) := by
  by_cases h1 : s < 48
  · rw [if_pos (show nI s - nI 48 < nI 0 from pk_sneg (by omega) h1), if_neg (by omega)]
  · rw [pk_sub (by omega), if_neg (nI_nlt (Nat.zero_le _) (by omega))]
    by_cases h2 : s ≤ 48 + hi
    · rw [if_neg (nI_nlt (by omega) (by omega)), if_pos ⟨by omega, h2⟩]
    · rw [if_pos (nI_lt (by omega) (by omega)), if_neg (fun z => h2 z.2)]
def mv_dc (s hi : Nat) : Nat := if 48 ≤ s ∧ s ≤ 48 + hi then 1 else 0
theorem mv_dc_le {s hi : Nat} : mv_dc s hi ≤ 1 := by unfold mv_dc; split <;> omega
theorem re_digit' (hM : mv_MS h0) (hs : mv_SM I M sg) (hr : mv_rs8 f M i ok t) (hi : i < 2 ^ 30) {h : Nat} (hh : h ≤ 9) {k : Int32 → mv_M β} : mv_bd (F_X7_takesDigit 147 (nI h)) k (mv_hp h0 (mv_tI I f g)) = k (nI (sg i) - nI 48) (mv_hp h0 (mv_tI I (mv_tk f (i + ok * mv_dc (sg i) h) (ok * mv_dc (sg i) h)) g)) := ev_bd (by
  unfold F_X7_takesDigit
  rw [mo_rc hM, re_here' hM hs hr hi, li48, ev_bpu, li0, mo_in', mv_dig (mv_SM_lt hs i) hh, mo_rc hM, show (if 48 ≤ sg i ∧ sg i ≤ 48 + h then 1 else 0) = mv_dc (sg i) h from rfl, re_takes' hM hr mv_dc_le]
  rfl)
theorem mv_T_dc {s : Nat} : mv_dc s 5 = if mv_T s = true then 1 else 0 := by
  unfold mv_dc mv_T
  by_cases h : 48 ≤ s ∧ s ≤ 53
  · rw [if_pos h, if_pos (by simpa using h)]
  · rw [if_neg h, if_neg (by simpa using h)]
theorem mv_D_dc {s : Nat} : mv_dc s 9 = if mv_Dg s = true then 1 else 0 := by
  unfold mv_dc mv_Dg
  by_cases h : 48 ≤ s ∧ s ≤ 57
  · rw [if_pos h, if_pos (by simpa using h)]
  · rw [if_neg h, if_neg (by simpa using h)]
theorem mv_in4853 {s : Nat} (hs : s ≤ 126) : (if nI s < nI 48 then nI 0 else if nI 53 < nI s then nI 0 else nI 1) = nI (if mv_T s = true then 1 else 0) := by
  unfold mv_T
  by_cases h1 : s < 48
  · rw [if_pos (nI_lt h1 (by omega)), if_neg (by simp; omega)]
  · rw [if_neg (nI_nlt (by omega) (by omega))]
    by_cases h2 : 53 < s
    · rw [if_pos (nI_lt h2 (by omega)), if_neg (by simp; omega)]
    · rw [if_neg (nI_nlt (by omega) (by omega)), if_pos (by simp; omega)]
/-- one tour is read -/
def mv_TR (sg : Nat → Nat) (g : Nat → Int32) (t i : Nat) : Prop := g (9 * t) = nI (mv_nT sg i) ∧ (∀ j, j < mv_nT sg i → g (9 * t + 1 + j) = nI (sg (i + j) - 48)) ∧ g (9 * t + 8) = nI (mv_rg sg i)
theorem re_tour (hM : mv_MS h0) (hs : mv_SM I M sg) (hr : mv_rs8 f M i 1 t) (hi : i ≤ M) (ht : t ≤ 31) : ∃ f' g' i' ok', F_X7_takesTour 147 (mv_hp h0 (mv_tI I f g)) = some ((), mv_hp h0 (mv_tI I f' g')) ∧ (∀ k, k < 8 → f' k = f k) ∧ mv_rs8 f' M i' ok' (t + 1) ∧ (∀ x, x < 9 * t → g' x = g x) ∧ (mv_nT sg i = 0 → ok' = 0 ∧ i' = i) ∧ (¬ mv_nT sg i = 0 → (sg (i + mv_nT sg i) = 42 ∧ ¬ mv_Dg (sg (i + mv_nT sg i + 1)) = true) → ok' = 0 ∧ i' = i + mv_nT sg i + 1) ∧ (¬ mv_nT sg i = 0 → ¬ (sg (i + mv_nT sg i) = 42 ∧ ¬ mv_Dg (sg (i + mv_nT sg i + 1)) = true) → ok' = 1 ∧ i' = mv_en sg i ∧ mv_TR sg g' t i) := by
  have h60 := hs.1
  have hsl := mv_SM_lt hs
  -- behind the towns, with x of them
  have fin : ∀ (f1 g1 : Nat → Int32) (i1 ok1 : Nat), mv_rs8 f1 M i1 ok1 t → (∀ k, k < 8 → f1 k = f k) → ∃ f', J_X7_takesTour_127 147 (mv_hp h0 (mv_tI I f1 g1)) = some ((), mv_hp h0 (mv_tI I f' g1)) ∧ (∀ k, k < 8 → f' k = f k) ∧ mv_rs8 f' M i1 ok1 (t + 1) := by
    intro f1 g1 i1 ok1 hr1 hk
    refine ⟨mv_vu f1 10 (nI (t + 1)), ?_, fun k h => by rw [mv_vu_ne (by omega)]; exact hk k h, ?_⟩
    · unfold J_X7_takesTour_127
      rw [mo_gI hM, mv_tI_1, hr1.2.2.2.1, mo_sI hM, mv_tI_1, mv_tI_s1, li1, nI_add]; rfl
    · obtain ⟨r1, r2, r3, r4, r5⟩ := hr1
      exact ⟨by rw [mv_vu_ne (by omega)]; exact r1, by rw [mv_vu_ne (by omega)]; exact r2, by rw [mv_vu_ne (by omega)]; exact r3, mv_vu_eq, r5⟩
  by_cases hT : mv_T (sg i) = true
  · have hn1 : mv_nT sg i = mv_tn sg 6 (i + 1) + 1 := by unfold mv_nT; rw [mv_tn, if_pos hT]
    have hiM : i < M := mv_SM_in hs (fun z => by rw [z] at hT; exact absurd hT (by decide))
    have e1 : mv_dc (sg i) 5 = 1 := by rw [mv_T_dc, if_pos hT]
    have hs48 : 48 ≤ sg i := by unfold mv_T at hT; simp at hT; omega
    -- the loop over the towns
    have loop : ∀ (k x n : Nat) (f1 g1 : Nat → Int32), k + x = 7 → 1 ≤ x → k < n → mv_rs8 f1 M (i + x) 1 t → (∀ k, k < 8 → f1 k = f k) → (∀ y, y < 9 * t → g1 y = g y) → (∀ j, j < x → g1 (9 * t + 1 + j) = nI (sg (i + j) - 48)) → ∃ f2 g2, Lp_X7_takesTour_23 147 (nI (9 * t)) n (nI x) (mv_hp h0 (mv_tI I f1 g1)) = J_X7_takesTour_69 147 (nI (9 * t)) (nI (x + mv_tn sg k (i + x))) (mv_hp h0 (mv_tI I f2 g2)) ∧ mv_rs8 f2 M (i + (x + mv_tn sg k (i + x))) 1 t ∧ (∀ k, k < 8 → f2 k = f k) ∧ (∀ y, y < 9 * t → g2 y = g y) ∧ (∀ j, j < x + mv_tn sg k (i + x) → g2 (9 * t + 1 + j) = nI (sg (i + j) - 48)) := by
      intro k
      induction k with
      | zero =>
        intro x n f1 g1 hx hx1 hn q1 q2 q3 q4
        obtain ⟨n, rfl⟩ := Nat.exists_eq_succ_of_ne_zero (show n ≠ 0 by omega)
        have : x = 7 := by omega
        subst this
        refine ⟨f1, g1, ?_, q1, q2, q3, q4⟩
        rw [Lp_X7_takesTour_23, mo_gI hM, mv_tI_1, q1.2.2.1, ev_f mv_z1, li7, ev_t (nI_le (Nat.le_refl _) (by omega))]
        rfl
      | succ k ih =>
        intro x n f1 g1 hx hx1 hn q1 q2 q3 q4
        obtain ⟨n, rfl⟩ := Nat.exists_eq_succ_of_ne_zero (show n ≠ 0 by omega)
        rw [Lp_X7_takesTour_23, mo_gI hM, mv_tI_1, q1.2.2.1, ev_f mv_z1, li7, ev_f (nI_ge (by omega) (by omega)), mo_rc hM, re_here' hM hs q1 (by omega), li48, li53, mo_in', mv_in4853 (hsl _), mv_tn]
        by_cases hT2 : mv_T (sg (i + x)) = true
        · have hs2 : 48 ≤ sg (i + x) := by unfold mv_T at hT2; simp at hT2; omega
          have e2 : mv_dc (sg (i + x)) 5 = 1 := by rw [mv_T_dc, if_pos hT2]
          have q1' := mv_tk_rs (i' := i + (x + 1)) (ok' := 1) q1 (by omega)
          obtain ⟨f2, g2, a1, a2, a3, a4, a5⟩ := ih (x + 1) n (mv_tk f1 (i + (x + 1)) 1) (mv_vu g1 (9 * t + 1 + x) (nI (sg (i + x) - 48))) (by omega) (by omega) (by omega) q1' (fun k hk => by rw [mv_tk_lt hk]; exact q2 k hk) (fun y hy => by rw [mv_vu_ne (by omega)]; exact q3 y hy) (fun j hj => by
            by_cases e : j = x
            · subst e; rw [mv_vu_eq]
            · rw [mv_vu_ne (by omega)]; exact q4 j (by omega))
          rw [if_pos hT2, ev_f mv_z1, mo_g11 hM, mo_rc hM, li5, re_digit' hM hs q1 (by omega) (by omega), e2, pk_sub hs2, li1, nI_add, nI_add, show 9 * t + (x + 1) = 9 * t + 1 + x by omega, mo_w153 hM (by omega), mv_tI_2, mv_tI_s2, show i + x + 1 * 1 = i + (x + 1) by omega, if_pos hT2, show x + (mv_tn sg k (i + (x + 1)) + 1) = x + 1 + mv_tn sg k (i + (x + 1)) by omega]
          exact ⟨f2, g2, a1, a2, a3, a4, a5⟩
        · rw [if_neg hT2, ev_t mv_z0, if_neg hT2]
          exact ⟨f1, g1, rfl, q1, q2, q3, q4⟩
    have q1 := mv_tk_rs (i' := i + 1) (ok' := 1) hr (by omega)
    obtain ⟨f2, g2, a1, a2, a3, a4, a5⟩ := loop 6 1 mv_FU (mv_tk f (i + 1) 1) (mv_vu g (9 * t + 1) (nI (sg i - 48))) (by omega) (by omega) (by decide) q1 (fun k hk => mv_tk_lt hk) (fun y hy => mv_vu_ne (by omega)) (fun j hj => by
      have : j = 0 := by omega
      subst this
      rw [mv_vu_eq]; rfl)
    have hn : 1 + mv_tn sg 6 (i + 1) = mv_nT sg i := by rw [hn1]; omega
    rw [hn] at a1 a2 a5
    have hn7 : mv_nT sg i ≤ 7 := mv_tn_le sg 7 i
    have hnT : i + mv_nT sg i ≤ M := by
      have h1 := mv_tn_T sg 7 i (mv_nT sg i - 1) (by show mv_nT sg i - 1 < mv_nT sg i; omega)
      have := mv_SM_in hs (k := i + (mv_nT sg i - 1)) (fun z => by rw [z] at h1; exact absurd h1 (by decide))
      omega
    have pre : F_X7_takesTour 147 (mv_hp h0 (mv_tI I f g)) = J_X7_takesTour_69 147 (nI (9 * t)) (nI (mv_nT sg i)) (mv_hp h0 (mv_tI I f2 g2)) := by
      unfold F_X7_takesTour
      rw [mo_gI hM, mv_tI_1, hr.2.2.2.1, li9, pk_mul, ev_bpu, mo_g11 hM, mo_rc hM, li5, re_digit' hM hs hr (by omega) (by omega), e1, pk_sub hs48, li1, nI_add, mo_w153 hM (by omega), mv_tI_2, mv_tI_s2, show i + 1 * 1 = i + 1 by omega]
      exact a1
    have g3 : ∀ y, y < 9 * t → mv_vu (mv_vu g2 (9 * t) (nI (mv_nT sg i))) (9 * t + 8) (nI 0) y = g y := fun y hy => by rw [mv_vu_ne (by omega), mv_vu_ne (by omega)]; exact a4 y hy
    have tow : ∀ z, ∀ j, j < mv_nT sg i → mv_vu (mv_vu g2 (9 * t) (nI (mv_nT sg i))) (9 * t + 8) z (9 * t + 1 + j) = nI (sg (i + j) - 48) := fun z j hj => by rw [mv_vu_ne (by omega), mv_vu_ne (by omega)]; exact a5 j hj
    have j69 : J_X7_takesTour_69 147 (nI (9 * t)) (nI (mv_nT sg i)) (mv_hp h0 (mv_tI I f2 g2)) = (mv_bd (mv_rc 7 12 (some 147)) fun i6 => mv_bd (F_X7_here i6 ) fun v5 => if v5 = nI 42 then mv_bd (mv_gI 7 12 8 (some 147)) fun v7 => mv_bd (mv_sI 7 12 8 (some 147) (v7 + nI 1)) fun _ => mv_bd (mv_gR 7 12 11 (some 147)) fun v8 => mv_bd (mv_rc 7 12 (some 147)) fun i10 => mv_bd (F_X7_takesDigit i10 (nI 9)) fun v9 => mv_bd (mv_aS v8 (nI (9 * t + 8)) v9) fun _ => J_X7_takesTour_127 147 else J_X7_takesTour_127 147) (mv_hp h0 (mv_tI I f2 (mv_vu (mv_vu g2 (9 * t) (nI (mv_nT sg i))) (9 * t + 8) (nI 0)))) := by
      unfold J_X7_takesTour_69
      rw [mo_g11 hM, mo_w153 hM (by omega), mv_tI_2, mv_tI_s2, mo_g11 hM, li8, nI_add, mo_w153 hM (by omega), mv_tI_2, mv_tI_s2, mo_gI hM, mv_tI_1, a2.2.2.1, ev_f mv_z1, li42, li1, li9, li0]
    rw [pre, j69, mo_rc hM, re_here' hM hs a2 (by omega)]
    by_cases h42 : sg (i + mv_nT sg i) = 42
    · have b1 : mv_rs8 (mv_vu f2 8 (nI (i + mv_nT sg i + 1))) M (i + mv_nT sg i + 1) 1 t := by
        obtain ⟨r1, r2, r3, r4, r5⟩ := a2
        exact ⟨by rw [mv_vu_ne (by omega)]; exact r1, mv_vu_eq, by rw [mv_vu_ne (by omega)]; exact r3, by rw [mv_vu_ne (by omega)]; exact r4, r5⟩
      have b2 := mv_tk_rs (i' := i + mv_nT sg i + 1 + 1 * mv_dc (sg (i + mv_nT sg i + 1)) 9) (ok' := 1 * mv_dc (sg (i + mv_nT sg i + 1)) 9) b1 (by have := mv_dc_le (s := sg (i + mv_nT sg i + 1)) (hi := 9); omega)
      obtain ⟨f', c1, c2, c3⟩ := fin _ (mv_vu (mv_vu (mv_vu g2 (9 * t) (nI (mv_nT sg i))) (9 * t + 8) (nI 0)) (9 * t + 8) (nI (sg (i + mv_nT sg i + 1)) - nI 48)) _ _ b2 (fun k hk => by rw [mv_tk_lt hk, mv_vu_ne (by omega)]; exact a3 k hk)
      rw [ev_t (by rw [h42]), mo_gI hM, mv_tI_1, a2.2.1, nI_add, mo_sI hM, mv_tI_1, mv_tI_s1, mo_g11 hM, mo_rc hM, re_digit' hM hs b1 (by omega) (by omega), mo_w153 hM (by omega), mv_tI_2, mv_tI_s2, c1]
      refine ⟨f', _, _, _, rfl, c2, c3, fun x hx => by rw [mv_vu_ne (by omega)]; exact g3 x hx, fun z => absurd z (by omega), fun _ z => ?_, fun _ z => ?_⟩
      · have : mv_dc (sg (i + mv_nT sg i + 1)) 9 = 0 := by rw [mv_D_dc, if_neg z.2]
        rw [this]; exact ⟨by omega, by omega⟩
      · have hdg : mv_Dg (sg (i + mv_nT sg i + 1)) = true := by
          apply Classical.byContradiction
          intro w
          exact z ⟨h42, w⟩
        have : mv_dc (sg (i + mv_nT sg i + 1)) 9 = 1 := by rw [mv_D_dc, if_pos hdg]
        have hen : mv_en sg i = i + mv_nT sg i + 2 := by unfold mv_en; rw [if_pos h42]
        have hrg : mv_rg sg i = sg (i + mv_nT sg i + 1) - 48 := by unfold mv_rg; rw [if_pos h42]
        have hge : 48 ≤ sg (i + mv_nT sg i + 1) := by unfold mv_Dg at hdg; simp at hdg; omega
        rw [this, hen]
        refine ⟨by omega, by omega, ?_, fun j hj => ?_, ?_⟩
        · rw [mv_vu_vu, mv_vu_ne (by omega), mv_vu_eq]
        · rw [mv_vu_vu]; exact tow _ j hj
        · rw [mv_vu_eq, pk_sub hge, hrg]
    · obtain ⟨f', c1, c2, c3⟩ := fin f2 (mv_vu (mv_vu g2 (9 * t) (nI (mv_nT sg i))) (9 * t + 8) (nI 0)) _ _ a2 a3
      rw [ev_f (fun z => h42 ((mv_eq (by have := hsl (i + mv_nT sg i); omega) (by omega)).mp z)), c1]
      have hen : mv_en sg i = i + mv_nT sg i := by unfold mv_en; rw [if_neg h42]
      have hrg : mv_rg sg i = 0 := by unfold mv_rg; rw [if_neg h42]
      refine ⟨f', _, _, _, rfl, c2, c3, g3, fun z => absurd z (by omega), fun _ z => absurd z.1 h42, fun _ z => ⟨rfl, hen.symm, ?_, fun j hj => tow _ j hj, ?_⟩⟩
      · rw [mv_vu_ne (by omega), mv_vu_eq]
      · rw [mv_vu_eq, hrg]
  · have hn0 : mv_nT sg i = 0 := by unfold mv_nT; rw [mv_tn, if_neg hT]
    have e1 : mv_dc (sg i) 5 = 0 := by rw [mv_T_dc, if_neg hT]
    have q1 := mv_tk_rs (i' := i) (ok' := 0) hr (by omega)
    obtain ⟨f', c1, c2, c3⟩ := fin (mv_tk f i 0) (mv_vu (mv_vu (mv_vu g (9 * t + 1) (nI (sg i) - nI 48)) (9 * t) (nI 1)) (9 * t + 8) (nI 0)) i 0 q1 (fun k hk => mv_tk_lt hk)
    refine ⟨f', mv_vu (mv_vu (mv_vu g (9 * t + 1) (nI (sg i) - nI 48)) (9 * t) (nI 1)) (9 * t + 8) (nI 0), i, 0, ?_, c2, c3, fun x hx => by rw [mv_vu_ne (by omega), mv_vu_ne (by omega), mv_vu_ne (by omega)], fun _ => ⟨rfl, rfl⟩, fun z => absurd hn0 z, fun z => absurd hn0 z⟩
    unfold F_X7_takesTour
    rw [mo_gI hM, mv_tI_1, hr.2.2.2.1, li9, pk_mul, ev_bpu, mo_g11 hM, mo_rc hM, li5, re_digit' hM hs hr (by omega) (by omega), e1, li1, nI_add, mo_w153 hM (by omega), mv_tI_2, mv_tI_s2, show i + 1 * 0 = i by omega, show mv_FU = 999 + 1 from rfl, Lp_X7_takesTour_23, mo_gI hM, mv_tI_1, q1.2.2.1, ev_t mv_z0]
    unfold J_X7_takesTour_69
    rw [mo_g11 hM, mo_w153 hM (by omega), mv_tI_2, mv_tI_s2, mo_g11 hM, li8, nI_add, mo_w153 hM (by omega), mv_tI_2, mv_tI_s2, mo_gI hM, mv_tI_1, q1.2.2.1, ev_t mv_z0, li0]
    exact c1
end Q3
