theorem mv_ix (x : Int32) {n : Nat} (hn : n < 2 ^ 31) : (x < 0 ∨ nI n ≤ x) ∨ ∃ j : Nat, j < n ∧ x = nI j := by
  rcases pk_ix x hn with h | h | h
  · exact Or.inl (Or.inl h)
  · exact Or.inl (Or.inr h)
  · exact Or.inr h
theorem mv_z0 : nI 0 = (0 : Int32) := rfl
theorem mv_z1 : ¬ nI 1 = (0 : Int32) := by decide
/-- a delay -/
def mv_dv (v : Nat → Int32) (C b D : Nat) : Int32 := if mv_hD v C b D = nI 0 then nI 2147483647 else mv_AN v C b D - v (64 + 8 * b + 4)
theorem mv_AN_val {v : Nat → Int32} {C B D b : Nat} (hV : mv_VV v C B D) (hD : D < 90000) (hb : b < B) : ∃ n, n ≤ 1000000 ∧ mv_AN v C b D = nI n := by
  obtain ⟨-, ⟨l, w, a, q1, q2, q3, q4, q5, q6, q7⟩, -⟩ := hV.2.2.2.2.2.2.2 b hb
  unfold mv_AN
  rw [q6]
  by_cases h : a = 0
  · subst h
    rw [if_pos (nI_le (Nat.le_refl _) (by omega))]
    exact ⟨_, mv_AB_le hV (by omega), rfl⟩
  · rw [if_neg (nI_ge (by omega) (by omega)), pk_sub (by omega)]
    exact ⟨a - 1, by omega, rfl⟩
theorem mv_dv_ne {v : Nat → Int32} {C B D b : Nat} (hV : mv_VV v C B D) (hP : mv_PV v B) (hD : D < 16000) (hb : b < B) (h : ¬ mv_hD v C b D = nI 0) : ¬ mv_AN v C b D - v (64 + 8 * b + 4) = nI 2147483647 := by
  obtain ⟨n, n1, n2⟩ := mv_AN_val hV (by omega) hb
  rcases hP b hb with p | ⟨x, x1, x2⟩
  · exact absurd (by unfold mv_hD; rw [if_pos p]) h
  · rw [n2, x2]
    intro z
    have t1 := pk_sub_toInt (a := n) (b := x) (by omega) (by omega)
    rw [z, nI_toInt (by omega)] at t1
    omega
theorem xo_delayOf {h0 : mv_Hp} {I : Nat → Nat → Int32} {v : Nat → Int32} {C B D b : Nat} (hS : mv_CS h0) (hW : mv_RV h0 I 1 v C B) (hV : mv_VV v C B D) (hD : D < 16000) (hb : b < B) : ∃ f g, F_X6_delayOf 0 (some (mv_bi h0 1 b)) (mv_hp h0 I) = some (mv_dv v C b D, mv_hp h0 (mv_fo I f g)) := by
  have hR := xo_R1 hS
  have hF := hS.2.2.2.1
  have hC4 := hV.2.2.2.1
  have hB8 := hV.2.2.2.2.1
  obtain ⟨n, n1, n2⟩ := mv_AN_val hV (show D < 90000 by omega) hb
  obtain ⟨f, g, e, -⟩ := fo_arrivalOf hF (by omega) hR hW hV hb (by omega)
  have hB := (hW.2.2.2 b hb).2.2.2.2.1
  have hB2 := ((mv_RV_fo (f := f) (g := g) (by omega) hR hC4 hB8 hW).2.2.2 b hb).2.2.2.2.1
  unfold F_X6_delayOf J_X6_delayOf_13 J_X6_delayOf_46 mv_dv mv_hD
  rw [ev_f (by simp), ro_bI hR (by omega), hB, li4, lin4, li2147483647]
  by_cases q1 : v (64 + 8 * b + 4) = mv_n4
  · rw [ev_t q1, if_pos q1, if_pos rfl]
    exact ⟨I 145, I 146, by rw [mv_fo_self]; rfl⟩
  · refine ⟨f, g, ?_⟩
    rw [ev_f q1, if_neg q1, xo_g5 hS, xo_g0 hS, fo_rc hF, ev_bd e]
    by_cases q2 : mv_AN v C b D = nI 1000000
    · rw [if_pos q2, if_pos rfl, ev_t (by unfold mv_oN; rw [if_pos q2])]; rfl
    · rw [if_neg q2, show mv_oN (mv_AN v C b D) = mv_AN v C b D by unfold mv_oN; rw [if_neg q2], ev_f (show ¬ mv_AN v C b D = mv_n4 by rw [n2]; exact mv_n4_ne (by omega)), ro_bI hR (by omega), hB2, if_neg (show ¬ nI 1 = nI 0 by decide)]; rfl
/-- who is on the way: all but who lies and who has come -/
theorem mv_bb_6 {v : Nat → Int32} {C B D : Nat} (hV : mv_VV v C B D) (hD : D < 90000) : nI B - mv_bb v B 1 - mv_bb v B 3 = mv_bb v B 2 := by
  have hB8 := hV.2.2.2.2.1
  have hC4 := hV.2.2.2.1
  have key : ∀ k, k ≤ B → ∃ x y z, mv_it (fun b n => n + (if v (64 + 8 * b + 1) ≤ nI 0 then nI 0 else nI 1)) k 0 (nI 0) = nI x ∧ mv_it (fun b n => n + (if v (64 + 8 * b + 2) ≤ nI 0 then nI 0 else nI 1)) k 0 (nI 0) = nI y ∧ mv_it (fun b n => n + (if v (64 + 8 * b + 3) ≤ nI 0 then nI 0 else nI 1)) k 0 (nI 0) = nI z ∧ x + y + z = k := by
    intro k
    induction k with
    | zero => intro _; exact ⟨0, 0, 0, rfl, rfl, rfl, rfl⟩
    | succ k ih =>
      intro hk
      obtain ⟨x, y, z, e1, e2, e3, e4⟩ := ih (by omega)
      obtain ⟨-, ⟨l, w, a, q1, q2, q3, q4, q5, q6, q7⟩, -⟩ := hV.2.2.2.2.2.2.2 k (by omega)
      rw [mv_it_last, mv_it_last, mv_it_last, e1, e2, e3, Nat.zero_add]
      rw [q4, q5, q6]
      have p1 : ∀ n : Nat, n < 2 ^ 31 → (if nI n ≤ nI 0 then nI 0 else nI 1) = nI (if n = 0 then 0 else 1) := by
        intro n hn
        by_cases h : n = 0
        · subst h; rfl
        · rw [if_neg (nI_ge (by omega) hn), if_neg h]
      rw [p1 l (by omega), p1 w (by omega), p1 a (by omega), nI_add, nI_add, nI_add]
      refine ⟨_, _, _, rfl, rfl, rfl, ?_⟩
      rcases q7 with ⟨h1, h2, h3⟩ | ⟨h1, h2, h3⟩ | ⟨h1, h2, h3⟩
      · rw [if_neg h1, if_pos h2, if_pos h3]; omega
      · rw [if_pos h1, if_neg h2, if_pos h3]; omega
      · rw [if_pos h1, if_pos h2, if_neg h3]; omega
  obtain ⟨x, y, z, e1, e2, e3, e4⟩ := key B (Nat.le_refl _)
  unfold mv_bb
  rw [e1, e2, e3, pk_sub (by omega), pk_sub (by omega), show B - x - z = y by omega]
