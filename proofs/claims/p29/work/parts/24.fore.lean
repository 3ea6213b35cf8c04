/-! the class's Foresight (145, its row 146) -/
theorem mv_lp {σ R : Type} (L : Nat → Nat → σ → R) (P : Nat → σ → Prop) (N : Nat) (hN : N < 1000) (h1 : ∀ n c s, c < N → P c s → ∃ s', L (n + 1) c s = L n (c + 1) s' ∧ P (c + 1) s') (s : σ) (hp : P 0 s) : ∃ n s', L mv_FU 0 s = L (n + 1) N s' ∧ P N s' := by
  have key : ∀ k n c s, c + k = N → k < n → P c s → ∃ m s', L n c s = L (m + 1) N s' ∧ P N s' := by
    intro k
    induction k with
    | zero =>
      intro n c s hc hn hp
      obtain ⟨n, rfl⟩ := Nat.exists_eq_succ_of_ne_zero (show n ≠ 0 by omega)
      have hc' : c = N := by omega
      subst hc'
      exact ⟨n, s, rfl, hp⟩
    | succ k ih =>
      intro n c s hc hn hp
      obtain ⟨n, rfl⟩ := Nat.exists_eq_succ_of_ne_zero (show n ≠ 0 by omega)
      obtain ⟨s', e1, e2⟩ := h1 n c s (by omega) hp
      obtain ⟨m, s2, e3, e4⟩ := ih n (c + 1) s' (by omega) (by omega) e2
      exact ⟨m, s2, e1.trans e3, e4⟩
  exact key N mv_FU 0 s (by omega) (by show N < 1000; omega) hp
def mv_FS (h0 : mv_Hp) : Prop := h0.1[145]? = some (2, 4) ∧ h0.1[146]? = some (8, 4) ∧ h0.2.2.2 145 0 = some 146
def mv_fo (I : Nat → Nat → Int32) (f g : Nat → Int32) : Nat → Nat → Int32 := mv_si (mv_si I 145 f) 146 g
theorem mv_fo_1 {I : Nat → Nat → Int32} {f g : Nat → Int32} : mv_fo I f g 145 = f := by unfold mv_fo; rw [mv_si_ne (by decide), mv_si_eq]
theorem mv_fo_2 {I : Nat → Nat → Int32} {f g : Nat → Int32} : mv_fo I f g 146 = g := by unfold mv_fo; rw [mv_si_eq]
theorem mv_fo_ne {I : Nat → Nat → Int32} {f g : Nat → Int32} {i : Nat} (h1 : i ≠ 145) (h2 : i ≠ 146) : mv_fo I f g i = I i := by unfold mv_fo; rw [mv_si_ne h2, mv_si_ne h1]
theorem mv_fo_s1 {I : Nat → Nat → Int32} {f g f' : Nat → Int32} : mv_si (mv_fo I f g) 145 f' = mv_fo I f' g := by
  funext i
  by_cases h1 : i = 145
  · subst h1; rw [mv_si_eq, mv_fo_1]
  · rw [mv_si_ne h1]
    by_cases h2 : i = 146
    · subst h2; rw [mv_fo_2, mv_fo_2]
    · rw [mv_fo_ne h1 h2, mv_fo_ne h1 h2]
theorem mv_fo_s2 {I : Nat → Nat → Int32} {f g g' : Nat → Int32} : mv_si (mv_fo I f g) 146 g' = mv_fo I f g' := by unfold mv_fo; rw [mv_si_si]
theorem mv_fo_self {I : Nat → Nat → Int32} : mv_fo I (I 145) (I 146) = I := by
  funext i
  by_cases h1 : i = 145
  · subst h1; rw [mv_fo_1]
  · by_cases h2 : i = 146
    · subst h2; rw [mv_fo_2]
    · rw [mv_fo_ne h1 h2]
theorem mv_fo_fo {I : Nat → Nat → Int32} {f g f' g' : Nat → Int32} : mv_fo (mv_fo I f g) f' g' = mv_fo I f' g' := by
  funext i
  by_cases h1 : i = 145
  · subst h1; rw [mv_fo_1, mv_fo_1]
  · by_cases h2 : i = 146
    · subst h2; rw [mv_fo_2, mv_fo_2]
    · rw [mv_fo_ne h1 h2, mv_fo_ne h1 h2, mv_fo_ne h1 h2]
/-- what is said of a block rests on its cells alone -/
theorem mv_RV_congr {h0 h0' : mv_Hp} {I I' : Nat → Nat → Int32} {r C B : Nat} {v : Nat → Int32} (hR : mv_RS h0 r) (hC : C ≤ 4) (hB : B ≤ 8) (hP : ∀ b, b < B → mv_bi h0' r b = mv_bi h0 r b) (h : ∀ i, r ≤ i → i < r + 20 → I' i = I i) (hW : mv_RV h0 I r v C B) : mv_RV h0' I' r v C B := by
  obtain ⟨w1, w2, w3, w4⟩ := hW
  refine ⟨by rw [h r (by omega) (by omega)]; exact w1, by rw [h (r + 1) (by omega) (by omega)]; exact w2, fun c hc => ?_, fun b hb => ?_⟩
  · have := w3 c hc
    unfold mv_RC at this ⊢
    rw [h (r + 4 + 2 * c) (by omega) (by omega), h (r + 5 + 2 * c) (by omega) (by omega)]
    exact this
  · have := w4 b hb
    obtain ⟨-, q1, q2, -⟩ := hR.2.2.2.2.2.2.2.2.1 b (by omega)
    rw [hP b hb]
    unfold mv_RB at this ⊢
    rw [h (mv_bi h0 r b) (by omega) (by omega)]
    exact this
theorem mv_RV_fo {h0 : mv_Hp} {I : Nat → Nat → Int32} {r C B : Nat} {v f g : Nat → Int32} (hr : r + 20 ≤ 145) (hR : mv_RS h0 r) (hC : C ≤ 4) (hB : B ≤ 8) (hW : mv_RV h0 I r v C B) : mv_RV h0 (mv_fo I f g) r v C B :=
  mv_RV_congr hR hC hB (fun _ _ => rfl) (fun i h1 h2 => mv_fo_ne (by omega) (by omega)) hW
def mv_cN (n : Nat) : Nat := if n = 1000000 then 2147483647 else n
def mv_cv (n : Nat) : Int32 := nI (mv_cN n)
theorem mv_cN_lt {n : Nat} (h : n ≤ 1000000) : mv_cN n < 2 ^ 31 := by unfold mv_cN; split <;> omega
theorem mv_cN_mono {a b : Nat} (ha : a ≤ 1000000) (hb : b ≤ 1000000) : mv_cN a ≤ mv_cN b ↔ a ≤ b := by
  unfold mv_cN
  by_cases h1 : a = 1000000 <;> by_cases h2 : b = 1000000
  · rw [if_pos h1, if_pos h2]; omega
  · rw [if_pos h1, if_neg h2]; omega
  · rw [if_neg h1, if_pos h2]; omega
  · rw [if_neg h1, if_neg h2]
theorem mv_cv_le {a b : Nat} (ha : a ≤ 1000000) (hb : b ≤ 1000000) : mv_cv a ≤ mv_cv b ↔ a ≤ b := by
  unfold mv_cv; rw [mv_le (mv_cN_lt ha) (mv_cN_lt hb), mv_cN_mono ha hb]
theorem mv_cv_lt {a b : Nat} (ha : a ≤ 1000000) (hb : b ≤ 1000000) : mv_cv a < mv_cv b ↔ a < b := by
  have := mv_cN_mono hb ha
  unfold mv_cv; rw [mv_lt (mv_cN_lt ha) (mv_cN_lt hb)]; omega
theorem mv_cv_top : mv_cv 1000000 = nI 2147483647 := rfl
theorem mv_cv_low {n : Nat} (h : n < 1000000) : mv_cv n = nI n := by unfold mv_cv mv_cN; rw [if_neg (by omega)]
theorem mv_cv_iff {n : Nat} (h : n ≤ 1000000) : mv_cv n = nI 2147483647 ↔ n = 1000000 := by
  unfold mv_cv
  rw [mv_eq (mv_cN_lt h) (by omega)]
  unfold mv_cN
  by_cases h1 : n = 1000000
  · rw [if_pos h1]; omega
  · rw [if_neg h1]; omega
theorem mv_cv_oN {n : Nat} (h : n ≤ 1000000) : (if mv_cv n = nI 2147483647 then mv_n4 else mv_cv n) = mv_oN (nI n) := by
  unfold mv_oN
  by_cases h1 : n = 1000000
  · rw [if_pos ((mv_cv_iff h).mpr h1), if_pos (by rw [h1])]
  · rw [if_neg (fun z => h1 ((mv_cv_iff h).mp z)), if_neg (fun z => h1 ((mv_eq (by omega) (by omega)).mp z)), mv_cv_low (by omega)]
theorem fo_min' {a b : Nat} {β : Type} {h : mv_Hp} {g : Int32 → mv_M β} (ha : a ≤ 1000000) (hb : b ≤ 1000000) : mv_bd (F_J9_min_7cf53 (mv_cv a) (mv_cv b)) g h = g (mv_cv (min a b)) h := ev_bd (by
  unfold F_J9_min_7cf53 J_J9_min_7cf53_10
  by_cases c : b < a
  · rw [ev_t ((mv_cv_lt hb ha).mpr c), show min a b = b by omega]; rfl
  · rw [ev_f (fun z => c ((mv_cv_lt hb ha).mp z)), show min a b = a by omega]; rfl)
theorem mv_min_le {a b : Nat} (ha : a ≤ 1000000) : min a b ≤ 1000000 := by omega
theorem mv_ml_le0 {p : Nat → Bool} {g : Nat → Nat} {l : Nat} (h : l ≤ 1000000) (k : Nat) : mv_ml p g l k ≤ 1000000 := (mv_ml_le p g l _ k).mpr (Or.inl h)
section F1
variable {β : Type} {h0 : mv_Hp} {I : Nat → Nat → Int32} {r C B D : Nat} {v : Nat → Int32}
theorem fo_rc {g : Nat → mv_M β} (hF : mv_FS h0) : mv_bd (mv_rc 2 4 (some 145)) g (mv_hp h0 I) = g 145 (mv_hp h0 I) := ev_rc hF.1
theorem fo_gI {k : Nat} {g : Int32 → mv_M β} (hF : mv_FS h0) : mv_bd (mv_gI 2 4 k (some 145)) g (mv_hp h0 I) = g (I 145 k) (mv_hp h0 I) := ev_gI hF.1
theorem fo_sI {k : Nat} {x : Int32} {g : Unit → mv_M β} (hF : mv_FS h0) : mv_bd (mv_sI 2 4 k (some 145) x) g (mv_hp h0 I) = g () (mv_hp h0 (mv_si I 145 (mv_vu (I 145) k x))) := ev_sI hF.1
theorem fo_g0 {g : Option Nat → mv_M β} (hF : mv_FS h0) : mv_bd (mv_gR 2 4 0 (some 145)) g (mv_hp h0 I) = g (some 146) (mv_hp h0 I) := (ev_gR hF.1).trans (by rw [hF.2.2])
theorem fo_l {g : Int32 → mv_M β} (hF : mv_FS h0) : mv_bd (mv_aL (some 146)) g (mv_hp h0 I) = g (nI 4) (mv_hp h0 I) := ev_aL hF.2.1 (by decide)
theorem fo_a {c : Nat} {g : Int32 → mv_M β} (hF : mv_FS h0) (hc : c < 4) : mv_bd (mv_aI (some 146) (nI c)) g (mv_hp h0 I) = g (I 146 c) (mv_hp h0 I) := ev_aI hF.2.1 hc (by omega)
theorem fo_s {c : Nat} {x : Int32} {g : Unit → mv_M β} (hF : mv_FS h0) (hc : c < 4) : mv_bd (mv_aS (some 146) (nI c) x) g (mv_hp h0 I) = g () (mv_hp h0 (mv_si I 146 (mv_vu (I 146) c x))) := ev_aS hF.2.1 hc (by omega)
theorem fo_step (hF : mv_FS h0) (hr : r + 20 ≤ 145) (hR : mv_RS h0 r) (hW : mv_RV h0 I r v C B) (hV : mv_VV v C B D) {fr to : Int32} {D1 l : Nat} {gg : Nat → Nat} {f g : Nat → Int32} (hD : D1 < 1000000) (hl : l ≤ 1000000) (hgg : ∀ c, gg c ≤ 1000000) (hf : f 1 = mv_cv l) (hg : ∀ c, c < 4 → g c = mv_cv (gg c)) : ∃ f' g', F_X2_stepBack 145 (some r) fr to (nI D1) (mv_hp h0 (mv_fo I f g)) = some ((), mv_hp h0 (mv_fo I f' g')) ∧ f' 1 = mv_cv (mv_ml (fun c => decide (mv_tc v C c D1 = fr)) gg l 4) ∧ (∀ c, c < 4 → g' c = mv_cv (if mv_tc v C c D1 = to then D1 else if mv_tc v C c D1 = mv_sw v D1 then mv_ml (fun c => decide (mv_tc v C c D1 = mv_sw v D1)) gg 1000000 4 else gg c)) ∧ f' 2 = f 2 ∧ f' 3 = f 3 := by
  have hC4 := hV.2.2.2.1
  have hB8 := hV.2.2.2.2.1
  have hW' : ∀ f g, mv_RV h0 (mv_fo I f g) r v C B := fun f g => mv_RV_fo hr hR hC4 hB8 hW
  unfold F_X2_stepBack
  rw [ev_rc hR.1, ro_stallOn' hR (hW' _ _) (by omega), li2147483647, li0, ← mv_cv_top]
  obtain ⟨n, ⟨x6, f1⟩, e1, hx6, hf1, hf2, hf3⟩ := mv_lp (L := fun n c (s : Int32 × (Nat → Int32)) => Lp_X2_stepBack_15 145 (some r) fr to (nI D1) (mv_sw v D1) n s.1 (nI c) (mv_hp h0 (mv_fo I s.2 g))) (fun c s => s.1 = mv_cv (mv_ml (fun c => decide (mv_tc v C c D1 = mv_sw v D1)) gg 1000000 c) ∧ s.2 1 = mv_cv (mv_ml (fun c => decide (mv_tc v C c D1 = fr)) gg l c) ∧ s.2 2 = f 2 ∧ s.2 3 = f 3) 4 (by omega)
    (fun n c s hc hP => by
      obtain ⟨x6, f⟩ := s
      obtain ⟨p1, p2, p3, p4⟩ := hP
      dsimp only at p1 p2 p3 p4
      have j56 : ∀ y : Int32, ∃ f2 : Nat → Int32, J_X2_stepBack_56 (Lp_X2_stepBack_15 145 (some r) fr to (nI D1) (mv_sw v D1) n) 145 (some r) fr to (nI D1) (mv_sw v D1) y (nI c) (mv_tc v C c D1) (mv_hp h0 (mv_fo I f g)) = Lp_X2_stepBack_15 145 (some r) fr to (nI D1) (mv_sw v D1) n y (nI (c + 1)) (mv_hp h0 (mv_fo I f2 g)) ∧ f2 1 = mv_cv (mv_ml (fun c => decide (mv_tc v C c D1 = fr)) gg l (c + 1)) ∧ f2 2 = f 2 ∧ f2 3 = f 3 := by
        intro y
        unfold J_X2_stepBack_56 J_X2_stepBack_80
        by_cases q : mv_tc v C c D1 = fr
        · rw [ev_t q, fo_gI hF, fo_g0 hF, fo_a hF hc, mv_fo_1, mv_fo_2, p2, hg c hc, fo_min' (mv_ml_le0 hl c) (hgg c), fo_sI hF, mv_fo_1, mv_fo_s1, li1, nI_add]
          exact ⟨_, rfl, by rw [mv_vu_eq, mv_ml]; simp [q], mv_vu_ne (by omega), mv_vu_ne (by omega)⟩
        · rw [ev_f q, li1, nI_add]
          exact ⟨f, rfl, by rw [p2, mv_ml]; simp [q], rfl, rfl⟩
      dsimp only
      rw [Lp_X2_stepBack_15, fo_g0 hF, fo_l hF, ev_f (nI_ge hc (by omega)), ev_rc hR.1, ro_townOf' hR (hW' _ _) hV (by omega) (by omega)]
      by_cases q : mv_tc v C c D1 = mv_sw v D1
      · rw [ev_t q, fo_g0 hF, fo_a hF hc, mv_fo_2, p1, hg c hc, fo_min' (mv_ml_le0 (Nat.le_refl _) c) (hgg c)]
        obtain ⟨f2, z1, z2, z3, z4⟩ := j56 (mv_cv (min (mv_ml (fun c => decide (mv_tc v C c D1 = mv_sw v D1)) gg 1000000 c) (gg c)))
        exact ⟨(mv_cv (min (mv_ml (fun c => decide (mv_tc v C c D1 = mv_sw v D1)) gg 1000000 c) (gg c)), f2), z1, by show mv_cv _ = _; rw [mv_ml, if_pos (decide_eq_true q)], z2, z3.trans p3, z4.trans p4⟩
      · rw [ev_f q]
        obtain ⟨f2, z1, z2, z3, z4⟩ := j56 x6
        exact ⟨(x6, f2), z1, by show x6 = _; rw [mv_ml, p1]; simp [q], z2, z3.trans p3, z4.trans p4⟩)
    (mv_cv 1000000, f) ⟨rfl, hf, rfl, rfl⟩
  dsimp only at e1 hx6 hf1 hf2 hf3
  rw [e1, Lp_X2_stepBack_15, fo_g0 hF, fo_l hF, ev_t (nI_le (Nat.le_refl _) (by omega)), li0]
  obtain ⟨n2, g2, e2, hg2⟩ := mv_lp (L := fun n c (g : Nat → Int32) => Lp_X2_stepBack_89 145 (some r) to (nI D1) (mv_sw v D1) x6 n (nI c) (mv_hp h0 (mv_fo I f1 g))) (fun c g => ∀ i, i < 4 → g i = mv_cv (if i < c then (if mv_tc v C i D1 = to then D1 else if mv_tc v C i D1 = mv_sw v D1 then mv_ml (fun c => decide (mv_tc v C c D1 = mv_sw v D1)) gg 1000000 4 else gg i) else gg i)) 4 (by omega)
    (fun n c g hc hP => by
      rw [Lp_X2_stepBack_89]
      unfold J_X2_stepBack_143
      rw [fo_g0 hF, fo_l hF, ev_f (nI_ge hc (by omega)), ev_rc hR.1, ro_townOf' hR (hW' _ _) hV (by omega) (by omega), li1, nI_add]
      have rest : ∀ x, x = (if mv_tc v C c D1 = to then D1 else if mv_tc v C c D1 = mv_sw v D1 then mv_ml (fun c => decide (mv_tc v C c D1 = mv_sw v D1)) gg 1000000 4 else gg c) → ∀ i, i < 4 → mv_vu g c (mv_cv x) i = mv_cv (if i < c + 1 then (if mv_tc v C i D1 = to then D1 else if mv_tc v C i D1 = mv_sw v D1 then mv_ml (fun c => decide (mv_tc v C c D1 = mv_sw v D1)) gg 1000000 4 else gg i) else gg i) := by
        intro x hx i hi
        by_cases e : i = c
        · subst e; rw [mv_vu_eq, if_pos (show i < i + 1 by omega), hx]
        · rw [mv_vu_ne e, hP i hi]
          by_cases e2 : i < c
          · rw [if_pos e2, if_pos (show i < c + 1 by omega)]
          · rw [if_neg e2, if_neg (show ¬ i < c + 1 by omega)]
      by_cases q1 : mv_tc v C c D1 = to
      · rw [ev_t q1, fo_g0 hF, fo_s hF hc, mv_fo_2, mv_fo_s2]
        have z := rest D1 (by rw [if_pos q1])
        rw [mv_cv_low hD] at z
        exact ⟨_, rfl, z⟩
      · rw [ev_f q1]
        by_cases q2 : mv_tc v C c D1 = mv_sw v D1
        · rw [ev_t q2, fo_g0 hF, fo_s hF hc, mv_fo_2, mv_fo_s2, hx6]
          exact ⟨_, rfl, rest _ (by rw [if_neg q1, if_pos q2])⟩
        · rw [ev_f q2]
          refine ⟨g, rfl, fun i hi => ?_⟩
          have := rest (gg c) (by rw [if_neg q1, if_neg q2]) i hi
          rw [← this]
          by_cases e : i = c
          · subst e; rw [mv_vu_eq, hP i hi, if_neg (Nat.lt_irrefl i)]
          · rw [mv_vu_ne e])
    g (fun i hi => by rw [if_neg (Nat.not_lt_zero i)]; exact hg i hi)
  rw [e2]
  rw [Lp_X2_stepBack_89, fo_g0 hF, fo_l hF, ev_t (nI_le (Nat.le_refl _) (by omega))]
  exact ⟨f1, g2, rfl, hf1, fun c hc => by rw [hg2 c hc, if_pos hc], hf2, hf3⟩
end F1
