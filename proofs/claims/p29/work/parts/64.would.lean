/-- a number below n out of any -/
def p_low (x : Int32) (n : Nat) : Nat := (x &&& (2147483647 : Int32)).toNatClampNeg % n
theorem p_low_lt {x : Int32} {n : Nat} (h : 0 < n) : p_low x n < n := Nat.mod_lt _ h
theorem cl_low {j : Nat} {G : p_G} {x : Int32} {n : Nat} (h0 : 0 < n) (hn : n < 2 ^ 31) : p_ac j G (F_L_low x (nI n)) (nI (p_low x n)) j G := by
  obtain ⟨m, hm, e⟩ := pk_andE x (m := (2147483647 : Int32)) 31 (by decide +kernel)
  unfold F_L_low p_low
  rw [e, nI_clamp (by omega)]
  have h : p_ac j G (mv_pu (nI (m % n))) (nI (m % n)) j G := p_pu
  intro y hr
  refine ⟨y, ?_, hr⟩
  rw [ev_rm (by omega) h0 hn]
  rfl
theorem mv_hi2 {x : Int32} {n : Nat} (hn : n + 1 < 2 ^ 31) (h : nI (n + 1) ≤ x) : nI n < x := Int32.not_le.mp (mv_hi hn h).2
theorem mv_first_or (p : Nat → Bool) : ∀ n d, mv_first p n d = mv_n4 ∨ ∃ q, d ≤ q ∧ q < d + n ∧ p q = true ∧ mv_first p n d = nI q
  | 0, d => Or.inl rfl
  | n + 1, d => by
    rw [mv_first]
    by_cases h : p d = true
    · rw [if_pos h]; exact Or.inr ⟨d, Nat.le_refl _, by omega, h, rfl⟩
    · rw [if_neg h]
      rcases mv_first_or p n (d + 1) with q | ⟨q, q1, q2, q3, q4⟩
      · exact Or.inl q
      · exact Or.inr ⟨q, by omega, by omega, q3, q4⟩
theorem p_bb {v : Nat → Int32} {w : Nat} : ∀ B, B ≤ 8 → (∀ b, b < B → ∃ n, n < 2 ^ 30 ∧ v (64 + 8 * b + w) = nI n) → mv_bb v B w = nI (p_cn v w B)
  | 0, _, _ => rfl
  | B + 1, hB, h => by
    have ih := p_bb (v := v) (w := w) B (by omega) (fun b hb => h b (by omega))
    obtain ⟨n, hn, e⟩ := h B (by omega)
    show mv_it _ (B + 1) 0 (nI 0) = _
    rw [mv_it_last, Nat.zero_add]
    have ih' : mv_it (fun b n => n + (if v (64 + 8 * b + w) ≤ nI 0 then nI 0 else nI 1)) B 0 (nI 0) = nI (p_cn v w B) := ih
    rw [ih', e]
    have s : p_cn v w (B + 1) = p_cn v w B + p_o (p_k v (64 + 8 * B + w)) := rfl
    rw [s, p_k_of e (by omega)]
    by_cases h0 : n = 0
    · subst h0; rw [if_pos (nI_le (Nat.le_refl _) (by omega)), nI_add]; rfl
    · rw [if_neg (nI_ge (by omega) (by omega)), nI_add, p_o1 h0]
section PB
variable {v : Nat → Int32} {C B D : Nat}
theorem p_bbV (hV : mv_VV v C B D) (hD : D < 2 ^ 29) {w : Nat} (hw : w = 1 ∨ w = 2 ∨ w = 3 ∨ w = 5) : mv_bb v B w = nI (p_cn v w B) := by
  refine p_bb B hV.2.2.2.2.1 (fun b hb => ?_)
  obtain ⟨-, ⟨l, w', a, q1, q2, q3, q4, q5, q6, q7⟩, p5⟩ := hV.2.2.2.2.2.2.2 b hb
  have hC4 := hV.2.2.2.1
  rcases hw with rfl | rfl | rfl | rfl
  · exact ⟨l, by omega, q4⟩
  · exact ⟨w', by omega, q5⟩
  · exact ⟨a, by omega, q6⟩
  · rcases p5 with p | p
    · exact ⟨0, by omega, p⟩
    · exact ⟨1, by omega, p⟩
theorem p_cn123 (hV : mv_VV v C B D) (hD : D < 2 ^ 29) : p_cn v 1 B + p_cn v 2 B + p_cn v 3 B = B := by
  have key : ∀ k, k ≤ B → p_cn v 1 k + p_cn v 2 k + p_cn v 3 k = k := by
    intro k
    induction k with
    | zero => intro _; rfl
    | succ k ih =>
      intro hk
      have ih := ih (by omega)
      obtain ⟨-, ⟨l, w', a, q1, q2, q3, q4, q5, q6, q7⟩, p5⟩ := hV.2.2.2.2.2.2.2 k (by omega)
      have hC4 := hV.2.2.2.1
      have s : ∀ w, p_cn v w (k + 1) = p_cn v w k + p_o (p_k v (64 + 8 * k + w)) := fun _ => rfl
      rw [s, s, s, p_k_of q4 (by omega), p_k_of q5 (by omega), p_k_of q6 (by omega)]
      rcases q7 with ⟨h1, h2, h3⟩ | ⟨h1, h2, h3⟩ | ⟨h1, h2, h3⟩
      · rw [p_o1 h1, h2, h3, p_o0]; omega
      · rw [p_o1 h2, h1, h3, p_o0]; omega
      · rw [p_o1 h3, h1, h2, p_o0]; omega
  exact key B (Nat.le_refl _)
/-- what days would bring: in its bounds -/
theorem p_if_ok (hV : mv_VV v C B D) (H : p_VR v C B D) (hD : D < 20000) {N q : Nat} (hN : N ≤ 30) (hq : q < 3) : ¬ p_if v C B D N q < 0 ∧ (q = 0 → ¬ mv_bb v B 1 + mv_bb v B 2 < p_if v C B D N q) ∧ (q = 2 → ¬ nI 8 < p_if v C B D N q) := by
  have hB8 := hV.2.2.2.2.1
  obtain ⟨R, p1, p2, p3⟩ := p_VR_ps (N := N) hV (by omega) H
  have V2 : mv_VV (mv_ps C B D N v).2.2 C B (D + N) := mv_VV_ps N 0 (D, 0, v) hV
  have c1 := p_cn123 hV (by omega)
  have c2 := p_cn_le (mv_ps C B D N v).2.2 3 B
  have c3 := p_cn_le (mv_ps C B D N v).2.2 5 B
  unfold p_if
  rcases (show q = 0 ∨ q = 1 ∨ q = 2 by omega) with rfl | rfl | rfl
  · rw [if_pos rfl, p_bbV hV (by omega) (Or.inl rfl), p_bbV hV (by omega) (Or.inr (Or.inl rfl)), nI_add]
    refine ⟨nI_pos (by omega), fun _ => nI_nlt (by omega) (by omega), fun z => by omega⟩
  · rw [if_neg (by omega), if_pos rfl]
    have e1 := H.1.2.2.2.2
    have e2 := R.1.2.2.2.2
    have b2 := R.1.2.2.2.1
    rw [e1, e2, pk_sub p3]
    exact ⟨nI_pos (by omega), fun z => by omega, fun z => by omega⟩
  · rw [if_neg (by omega), if_neg (by omega), p_bbV hV (by omega) (Or.inr (Or.inr (Or.inr rfl))), p_bbV V2 (by omega) (Or.inr (Or.inr (Or.inr rfl))), pk_sub p2]
    exact ⟨nI_pos (by omega), fun z => by omega, fun _ => nI_nlt (by omega) (by omega)⟩
end PB
section PW2
variable {j : Nat} {G : p_G} {C B D : Nat}
def p_gM (v : Nat → Int32) (C D : Nat) (x13 x14 x15 x18 : Int32) : Prop := (x18 = 0 ∧ (x15 = mv_n4 ∨ ∃ q c c', x15 = nI q ∧ D < q ∧ q ≤ D + 30 ∧ c < C ∧ c' < C ∧ x13 = nI c ∧ x14 = nI c' ∧ mv_tw v c q = mv_tw v c' q ∧ ¬ mv_tw v c q < 0)) ∨ (¬ x18 = 0 ∧ x15 = mv_n1)
def p_gT (v : Nat → Int32) (B : Nat) (x11 x12 x17 : Int32) : Prop := (x17 = 0 ∧ ¬ x12 < 0 ∧ (x11 = nI 0 → ¬ mv_bb v B 1 + mv_bb v B 2 < x12) ∧ (x11 = nI 2 → ¬ nI 8 < x12)) ∨ (¬ x17 = 0 ∧ x12 = mv_n1)
def p_gW (x8 x9 : Int32) : Prop := ((x8 < 0 ∨ (¬ x8 < 0 ∧ ¬ x8 ≤ nI 6)) ∧ x9 = mv_n1) ∨ (¬ x8 < 0 ∧ x8 ≤ nI 6 ∧ ¬ x9 < 0 ∧ ¬ nI 7 ≤ x9)
def p_gB (v : Nat → Int32) (C D : Nat) (x2 x3 x5 x7 : Int32) : Prop := (x5 = 0 ∧ (x7 = mv_n4 ∨ ∃ f t k, f < 6 ∧ t < 6 ∧ f ≠ t ∧ k < 14 ∧ x2 = nI f ∧ x3 = nI t ∧ x7 = nI k ∧ ¬ mv_pp v C (D + k) f t = mv_n4)) ∨ (¬ x5 = 0 ∧ x7 = mv_n1)
def p_gP (D : Nat) (x4 x5 x6 : Int32) : Prop := (x5 = 0 ∧ ¬ x4 < 0 ∧ x4 ≤ nI 30 ∧ (x6 = mv_n4 ∨ (¬ x6 = mv_n4 ∧ ¬ x6 ≤ nI D + x4 + nI 1 ∧ ¬ nI D + x4 + nI 30 < x6))) ∨ ((¬ x5 = 0 ∨ (x5 = 0 ∧ (x4 < 0 ∨ (¬ x4 < 0 ∧ ¬ x4 ≤ nI 30)))) ∧ x6 = mv_n1)
theorem w_520 : p_ac j G (J_L_would_520 0) 1 j G := by
  unfold J_L_would_520 J_L_would_525
  exact p_rz (Or.inr rfl)
theorem w_452 (hj : j < 300) (hV : mv_VV G.1 C B D) (hD : D ≤ 30 * j) {x13 x14 x15 x18 : Int32} (h : p_gM G.1 C D x13 x14 x15 x18) : p_ac j G (J_L_would_452 0 x13 x14 x15 (nI D) x18) 1 j G := by
  have hj5 : j < 500 := by omega
  unfold J_L_would_452
  rcases h with ⟨h0, h | ⟨q, c, c', rfl, q1, q2, hc, hc', rfl, rfl, e1, e2⟩⟩ | ⟨h0, h⟩
  · exact p_t h0 (p_t h w_520)
  · refine p_t h0 (p_f (mv_n4_ne (by omega)) (p_f (nI_ge q1 (by omega)) (p_f (show ¬ nI D + nI 30 < nI q by rw [nI_add]; exact nI_nlt q2 (by omega)) ?_)))
    refine p_cl (cl_wh hj5 hV hD hc (by omega)) (p_cl (cl_wh hj5 hV hD hc' (by omega)) (p_t e1 (p_cl (cl_wh hj5 hV hD hc (by omega)) (p_f e2 w_520))))
  · exact p_f h0 (p_t h w_520)
theorem w_398 (hj : j < 300) (hV : mv_VV G.1 C B D) (hD : D ≤ 30 * j) {x11 x12 x13 x14 x15 x17 x18 : Int32} (hM : p_gM G.1 C D x13 x14 x15 x18) (h : p_gT G.1 B x11 x12 x17) : p_ac j G (J_L_would_398 0 x11 x12 x13 x14 x15 (nI D) x17 x18) 1 j G := by
  have hj5 : j < 500 := by omega
  have k := w_452 hj hV hD hM
  unfold J_L_would_398
  rcases h with ⟨h0, h1, h2, h3⟩ | ⟨h0, h⟩
  · have k2 : p_ac j G (J_L_would_439 0 x11 x12 x13 x14 x15 (nI D) x18) 1 j G := by
      unfold J_L_would_439
      by_cases e : x11 = nI 2
      · exact p_t e (p_f (h3 e) k)
      · exact p_f e k
    refine p_t h0 (p_f h1 ?_)
    by_cases e : x11 = nI 0
    · exact p_t e (p_cl (cl_ct5 hj5 hV hD) (p_cl (cl_ct6 hj5 hV hD) (p_f (h2 e) k2)))
    · exact p_f e k2
  · exact p_f h0 (p_t h k)
theorem w_365 (hj : j < 300) (hV : mv_VV G.1 C B D) (hD : D ≤ 30 * j) {x8 x9 x11 x12 x13 x14 x15 x17 x18 : Int32} (hM : p_gM G.1 C D x13 x14 x15 x18) (hT : p_gT G.1 B x11 x12 x17) (h : p_gW x8 x9) : p_ac j G (J_L_would_365 0 x8 x9 x11 x12 x13 x14 x15 (nI D) x17 x18) 1 j G := by
  have k := w_398 hj hV hD hM hT
  unfold J_L_would_365
  rcases h with ⟨h, h9⟩ | ⟨h1, h2, h3, h4⟩
  · have k2 : p_ac j G (J_L_would_377 0 x9 x11 x12 x13 x14 x15 (nI D) x17 x18) 1 j G := by
      unfold J_L_would_377
      exact p_t h9 k
    rcases h with h | ⟨h1, h2⟩
    · exact p_t h k2
    · exact p_f h1 (p_f h2 k2)
  · exact p_f h1 (p_t h2 (p_f h3 (p_f h4 k)))
theorem w_319 (hj : j < 300) (hV : mv_VV G.1 C B D) (hD : D ≤ 30 * j) {x2 x3 x5 x7 x8 x9 x11 x12 x13 x14 x15 x17 x18 : Int32} (hM : p_gM G.1 C D x13 x14 x15 x18) (hT : p_gT G.1 B x11 x12 x17) (hW : p_gW x8 x9) (h : p_gB G.1 C D x2 x3 x5 x7) : p_ac j G (J_L_would_319 0 x2 x3 x5 x7 x8 x9 x11 x12 x13 x14 x15 (nI D) x17 x18) 1 j G := by
  have hj5 : j < 500 := by omega
  have k := w_365 hj hV hD hM hT hW
  unfold J_L_would_319
  rcases h with ⟨h0, h | ⟨f, t, n, hf, ht, ne, hn, rfl, rfl, rfl, h4⟩⟩ | ⟨h0, h⟩
  · exact p_t h0 (p_t h k)
  · exact p_t h0 (p_f (mv_n4_ne (by omega)) (p_f (nI_pos (by omega)) (p_f (show ¬ nI 14 ≤ nI n from nI_ge hn (by omega)) (p_cl (cl_ip hj5 hV hD hf ht ne (by omega)) (p_f h4 k)))))
  · exact p_f h0 (p_t h k)
theorem w_259 (hj : j < 300) (hV : mv_VV G.1 C B D) (hD : D ≤ 30 * j) {x2 x3 x4 x5 x6 x7 x8 x9 x11 x12 x13 x14 x15 x17 x18 : Int32} (hM : p_gM G.1 C D x13 x14 x15 x18) (hT : p_gT G.1 B x11 x12 x17) (hW : p_gW x8 x9) (hB : p_gB G.1 C D x2 x3 x5 x7) (h : p_gP D x4 x5 x6) : p_ac j G (J_L_would_259 0 x2 x3 x4 x5 x6 x7 x8 x9 x11 x12 x13 x14 x15 (nI D) x17 x18) 1 j G := by
  have k := w_319 hj hV hD hM hT hW hB
  have k2 : x6 = mv_n1 → p_ac j G (J_L_would_278 0 x2 x3 x5 x6 x7 x8 x9 x11 x12 x13 x14 x15 (nI D) x17 x18) 1 j G := by
    intro e
    unfold J_L_would_278
    exact p_t e k
  unfold J_L_would_259
  rcases h with ⟨h0, h1, h2, h | ⟨h3, h4, h5⟩⟩ | ⟨h0 | ⟨h0, h1 | ⟨h1, h2⟩⟩, h⟩
  · exact p_t h0 (p_f h1 (p_t h2 (p_t h k)))
  · exact p_t h0 (p_f h1 (p_t h2 (p_f h3 (p_f h4 (p_f h5 k)))))
  · exact p_f h0 (k2 h)
  · exact p_t h0 (p_t h1 (k2 h))
  · exact p_t h0 (p_f h1 (p_f h2 (k2 h)))
/-- the flag of no meeting -/
theorem w_225 (hj : j < 300) (hV : mv_VV G.1 C B D) (hD : D ≤ 30 * j) {x2 x3 x4 x5 x6 x7 x8 x9 x11 x12 x15 x17 : Int32} {c c' : Nat} (hc : c ≤ C) (hc' : c' ≤ C) (hM : ∀ x18, (x18 = 1 ∧ (c = c' ∨ c = C ∨ c' = C)) ∨ (x18 = 0 ∧ ¬ c = c' ∧ ¬ c = C ∧ ¬ c' = C) → p_gM G.1 C D (nI c) (nI c') x15 x18) (hT : p_gT G.1 B x11 x12 x17) (hW : p_gW x8 x9) (hB : p_gB G.1 C D x2 x3 x5 x7) (h : p_gP D x4 x5 x6) : p_ac j G (J_L_would_225 0 x2 x3 x4 x5 x6 x7 x8 x9 x11 x12 (nI c) (nI c') x15 (nI D) x17) 1 j G := by
  have hj5 : j < 500 := by omega
  have hC4 := hV.2.2.2.1
  have e3 := hV.2.1
  have yes : (c = c' ∨ c = C ∨ c' = C) → p_ac j G (J_L_would_254 0 x2 x3 x4 x5 x6 x7 x8 x9 x11 x12 (nI c) (nI c') x15 (nI D) x17) 1 j G := by
    intro z
    unfold J_L_would_254
    exact w_259 hj hV hD (hM 1 (Or.inl ⟨rfl, z⟩)) hT hW hB h
  unfold J_L_would_225
  by_cases q1 : c = c'
  · exact p_t (by rw [q1]) (yes (Or.inl q1))
  · refine p_f (fun z => q1 ((mv_eq (by omega) (by omega)).mp z)) (p_cl (cl_ct2 hj5 hV hD) ?_)
    rw [e3]
    by_cases q2 : c = C
    · exact p_t (by rw [q2]) (yes (Or.inr (Or.inl q2)))
    · refine p_f (fun z => q2 ((mv_eq (by omega) (by omega)).mp z)) (p_cl (cl_ct2 hj5 hV hD) ?_)
      rw [e3]
      by_cases q3 : c' = C
      · exact p_t (by rw [q3]) (yes (Or.inr (Or.inr q3)))
      · exact p_f (fun z => q3 ((mv_eq (by omega) (by omega)).mp z)) (w_259 hj hV hD (hM 0 (Or.inr ⟨rfl, q1, q2, q3⟩)) hT hW hB h)
theorem w_me (hj : j < 300) (hV : mv_VV G.1 C B D) (hD : D ≤ 30 * j) {c c' : Nat} (hc : c ≤ C) (hc' : c' ≤ C) (z : Int32) : ∃ r, p_ac j G (F_X6_meeting 0 (nI c) (nI c') z) r j G ∧ ∀ x18, (x18 = 1 ∧ (c = c' ∨ c = C ∨ c' = C)) ∨ (x18 = 0 ∧ ¬ c = c' ∧ ¬ c = C ∧ ¬ c' = C) → p_gM G.1 C D (nI c) (nI c') r x18 := by
  have hj5 : j < 500 := by omega
  have hC4 := hV.2.2.2.1
  have n1 : ¬ (1 : Int32) = 0 := by decide
  by_cases q : c = c' ∨ c = C ∨ c' = C
  · refine ⟨mv_n1, ?_, fun x18 h => ?_⟩
    · by_cases q2 : c = C
      · subst q2; exact cl_meno1 hj5 hV hD
      · by_cases q3 : c' = C
        · subst q3; exact cl_meno2 hj5 hV hD (by omega)
        · have : c = c' := by omega
          subst this
          exact cl_meno3 hj5 hV hD (by omega)
    · rcases h with ⟨rfl, -⟩ | ⟨-, h1, h2, h3⟩
      · exact Or.inr ⟨n1, rfl⟩
      · exfalso; rcases q with q | q | q
        · exact h1 q
        · exact h2 q
        · exact h3 q
  · have q1 : ¬ c = c' := fun z => q (Or.inl z)
    have q2 : ¬ c = C := fun z => q (Or.inr (Or.inl z))
    have q3 : ¬ c' = C := fun z => q (Or.inr (Or.inr z))
    refine ⟨_, cl_me hj5 hV hD (show c < C by omega) (show c' < C by omega) (fun z => q1 ((mv_eq (by omega) (by omega)).mp z)), fun x18 h => ?_⟩
    rcases h with ⟨-, h⟩ | ⟨rfl, -⟩
    · exact absurd h q
    · refine Or.inl ⟨rfl, ?_⟩
      rcases mv_first_or (mv_me G.1 c c' z) 30 (D + 1) with e | ⟨d, d1, d2, d3, e⟩
      · exact Or.inl e
      · refine Or.inr ⟨d, c, c', e, by omega, by omega, by omega, by omega, rfl, rfl, ?_⟩
        unfold mv_me at d3
        simp only [Bool.and_eq_true, Bool.not_eq_true', decide_eq_true_eq, decide_eq_false_iff_not] at d3
        exact ⟨d3.2.1, d3.1⟩
theorem w_if (hj : j < 300) (hV : mv_VV G.1 C B D) (H : p_VR G.1 C B D) (hD : D ≤ 30 * j) {N w : Nat} (hN : N < 32) (hw : w < 5) : ∃ r, p_ac j G (F_X6_ifPassed 0 (nI N) (nI w - nI 1)) r j G ∧ ∀ x17, (x17 = 1 ∧ (N = 0 ∨ N = 31 ∨ w = 0 ∨ w = 4)) ∨ (x17 = 0 ∧ ¬ N = 0 ∧ ¬ N = 31 ∧ ¬ w = 0 ∧ ¬ w = 4) → p_gT G.1 B (nI w - nI 1) r x17 := by
  have hj5 : j < 500 := by omega
  have n1 : ¬ (1 : Int32) = 0 := by decide
  by_cases q : N = 0 ∨ N = 31 ∨ w = 0 ∨ w = 4
  · refine ⟨mv_n1, ?_, fun x17 h => ?_⟩
    · by_cases q1 : N = 0
      · exact cl_ifno hj5 hV hD (Or.inl (by rw [q1]; decide))
      · by_cases q2 : N = 31
        · exact cl_ifno hj5 hV hD (Or.inr ⟨by rw [q2]; decide, by rw [q2]; decide⟩)
        · refine cl_ifno2 hj5 hV hD (by omega) (by omega) ?_
          rcases (show w = 0 ∨ w = 4 by omega) with rfl | rfl
          · exact Or.inl (by decide)
          · exact Or.inr (by decide)
    · rcases h with ⟨rfl, -⟩ | ⟨-, h1, h2, h3, h4⟩
      · exact Or.inr ⟨n1, rfl⟩
      · exfalso; omega
  · have e : nI w - nI 1 = nI (w - 1) := pk_sub (by omega)
    rw [e]
    obtain ⟨o1, o2, o3⟩ := p_if_ok (N := N) (q := w - 1) hV H (by omega) (by omega) (by omega)
    refine ⟨_, cl_if hj5 hV hD (show 1 ≤ N by omega) (show N ≤ 30 by omega) (show w - 1 < 3 by omega), fun x17 h => ?_⟩
    rcases h with ⟨-, h⟩ | ⟨rfl, -⟩
    · exact absurd h q
    · exact Or.inl ⟨rfl, o1, fun z => o2 ((mv_eq (by omega) (by omega)).mp z), fun z => o3 ((mv_eq (by omega) (by omega)).mp z)⟩
theorem w_bt (hj : j < 300) (hV : mv_VV G.1 C B D) (hD : D ≤ 30 * j) {w : Nat} (hw : w < 9) : ∃ r, p_ac j G (F_X6_bestTown 0 (nI w - nI 1)) r j G ∧ p_gW (nI w - nI 1) r := by
  have hj5 : j < 500 := by omega
  by_cases q : w = 0 ∨ w = 8
  · have hb : (nI w - nI 1 < 0 ∨ nI 7 ≤ nI w - nI 1) ∧ (nI w - nI 1 < 0 ∨ (¬ nI w - nI 1 < 0 ∧ ¬ nI w - nI 1 ≤ nI 6)) := by
      rcases q with rfl | rfl
      · exact ⟨Or.inl (by decide), Or.inl (by decide)⟩
      · exact ⟨Or.inr (by decide), Or.inr ⟨by decide, by decide⟩⟩
    exact ⟨mv_n1, cl_btno hj5 hV hD hb.1, Or.inl ⟨hb.2, rfl⟩⟩
  · have e : nI w - nI 1 = nI (w - 1) := pk_sub (by omega)
    rw [e]
    refine ⟨_, cl_bt hj5 hV hD (show w - 1 < 7 by omega), Or.inr ⟨nI_pos (by omega), nI_le (by omega) (by omega), ?_⟩⟩
    have key : ∀ k, k ≤ 7 → ∃ t, t < 7 ∧ (mv_it (mv_bt G.1 C B D (w - 1)) k 0 (nI 0, mv_n1, nI 0)).1 = nI t := by
      intro k
      induction k with
      | zero => intro _; exact ⟨0, by omega, rfl⟩
      | succ k ih =>
        intro hk
        obtain ⟨t, ht, et⟩ := ih (by omega)
        rw [mv_it_last, Nat.zero_add]
        unfold mv_bt
        split
        · exact ⟨k, by omega, rfl⟩
        · exact ⟨t, ht, et⟩
    obtain ⟨t, ht, et⟩ := key 7 (Nat.le_refl _)
    rw [et]
    exact ⟨nI_pos (by omega), nI_ge ht (by omega)⟩
theorem w_bd_or (v : Nat → Int32) (C D f t : Nat) (hD : D < 900000) : ∀ k, k ≤ 14 → (mv_it (mv_bd1 v C D f t) k 0 (mv_n4, 31)).1 = mv_n4 ∨ ∃ q, q < 14 ∧ (mv_it (mv_bd1 v C D f t) k 0 (mv_n4, 31)).1 = nI q ∧ ¬ mv_pp v C (D + q) f t = mv_n4
  | 0, _ => Or.inl rfl
  | k + 1, hk => by
    have h31 := mv_bd_31 v C D f t k
    rw [mv_it_last, Nat.zero_add]
    unfold mv_bd1
    split
    · next h =>
      refine Or.inr ⟨k, by omega, rfl, ?_⟩
      unfold mv_bd1 at h31
      rcases mv_AR_rng v C (nI t) (nI f) 30 0 (D + k) with q | q
      · exfalso; rw [q] at h; omega
      · unfold mv_pp mv_oN
        rw [if_neg (fun z => by have := (mv_eq (by omega) (by omega)).mp z; omega)]
        exact mv_n4_ne (by omega)
    · exact w_bd_or v C D f t hD k (by omega)
/-- from and to, or not a way; then all of it -/
theorem w_61 (hj : j < 300) (hV : mv_VV G.1 C B D) (H : p_VR G.1 C B D) (hD : D ≤ 30 * j) {x x2 x3 s0 : Int32} {d : Nat} (hd : d < 33) (h : (s0 = 1 ∧ ((x2 < 0 ∨ nI 6 ≤ x2) ∨ (x3 < 0 ∨ nI 6 ≤ x3) ∨ x2 = x3)) ∨ (s0 = 0 ∧ ∃ f t : Nat, f < 6 ∧ t < 6 ∧ f ≠ t ∧ x2 = nI f ∧ x3 = nI t)) : p_ac j G (J_L_would_61 0 x x2 x3 (nI d - nI 1) s0) 1 j G := by
  have hj5 : j < 500 := by omega
  have hC4 := hV.2.2.2.1
  have e3 := hV.2.1
  have e0 := hV.1
  have n1 : ¬ (1 : Int32) = 0 := by decide
  have hip : ∃ r, p_ac j G (F_X6_ifPosted 0 x2 x3 (nI d - nI 1)) r j G ∧ p_gP D (nI d - nI 1) s0 r := by
    rcases h with ⟨rfl, h⟩ | ⟨rfl, f, t, hf, ht, ne, rfl, rfl⟩
    · exact ⟨mv_n1, cl_ipno hj5 hV hD h, Or.inr ⟨Or.inl n1, rfl⟩⟩
    · by_cases q : d = 0 ∨ d = 32
      · have hb : (nI d - nI 1 < 0 ∨ nI (30 + 1) ≤ nI d - nI 1) ∧ (nI d - nI 1 < 0 ∨ (¬ nI d - nI 1 < 0 ∧ ¬ nI d - nI 1 ≤ nI 30)) := by
          rcases q with rfl | rfl
          · exact ⟨Or.inl (by decide), Or.inl (by decide)⟩
          · exact ⟨Or.inr (by decide), Or.inr ⟨by decide, by decide⟩⟩
        exact ⟨mv_n1, cl_ipno2 hj5 hV hD hf ht ne hb.1, Or.inr ⟨Or.inr ⟨rfl, hb.2⟩, rfl⟩⟩
      · have e : nI d - nI 1 = nI (d - 1) := pk_sub (by omega)
        rw [e]
        refine ⟨_, cl_ip hj5 hV hD hf ht ne (show d - 1 < 31 by omega), Or.inl ⟨rfl, nI_pos (by omega), nI_le (by omega) (by omega), ?_⟩⟩
        rcases p_pp G.1 C (D + (d - 1)) f t (by omega) with p | ⟨q, q1, q2, p⟩
        · exact Or.inl p
        · refine Or.inr ?_
          rw [p, nI_add, nI_add, nI_add]
          exact ⟨mv_n4_ne (by omega), nI_ge (by omega) (by omega), nI_nlt (by omega) (by omega)⟩
  have hbd : ∃ r, p_ac j G (F_X6_bestDay 0 x2 x3) r j G ∧ p_gB G.1 C D x2 x3 s0 r := by
    rcases h with ⟨rfl, h⟩ | ⟨rfl, f, t, hf, ht, ne, rfl, rfl⟩
    · exact ⟨mv_n1, cl_bdno hj5 hV hD h, Or.inr ⟨n1, rfl⟩⟩
    · refine ⟨_, cl_bd hj5 hV hD hf ht ne, Or.inl ⟨rfl, ?_⟩⟩
      rcases w_bd_or G.1 C D f t (by omega) 14 (Nat.le_refl _) with q | ⟨q, q1, q2, q3⟩
      · exact Or.inl q
      · exact Or.inr ⟨f, t, q, hf, ht, ne, q1, rfl, rfl, q2, q3⟩
  obtain ⟨r1, ip, gP⟩ := hip
  obtain ⟨r2, bd, gB⟩ := hbd
  obtain ⟨r3, bt, gW⟩ := w_bt hj hV hD (w := p_low (x >>> ((9 : Int32) &&& 31)) 9) (p_low_lt (by omega))
  obtain ⟨r4, pf, gT⟩ := w_if hj hV H hD (N := p_low (x >>> ((4 : Int32) &&& 31)) 32) (w := p_low (x >>> ((7 : Int32) &&& 31)) 5) (p_low_lt (by omega)) (p_low_lt (by omega))
  have hc := p_low_lt (x := x >>> ((2 : Int32) &&& 31)) (show 0 < C + 1 by omega)
  have hc' := p_low_lt (x := x >>> ((8 : Int32) &&& 31)) (show 0 < C + 1 by omega)
  have hN := p_low_lt (x := x >>> ((4 : Int32) &&& 31)) (show 0 < 32 by omega)
  have hw := p_low_lt (x := x >>> ((7 : Int32) &&& 31)) (show 0 < 5 by omega)
  unfold J_L_would_61
  refine p_cl ip (p_cl bd (p_bd (cl_low (n := 9) (by omega) (by omega)) (p_let (p_cl bt (p_bd (cl_low (n := 32) (by omega) (by omega)) (p_bd (cl_low (n := 5) (by omega) (by omega)) (p_let (p_cl pf (p_cl (cl_ct2 hj5 hV hD) ?_)))))))))
  rw [e3, p_i1]
  refine p_bd (cl_low (by omega) (by omega)) (p_cl (cl_ct2 hj5 hV hD) ?_)
  rw [e3, p_i1]
  refine p_bd (cl_low (by omega) (by omega)) (p_bd (cl_low (n := 2) (by omega) (by omega)) ?_)
  generalize p_low (x >>> ((2 : Int32) &&& 31)) (C + 1) = c at hc
  generalize p_low (x >>> ((8 : Int32) &&& 31)) (C + 1) = c' at hc'
  generalize p_low (x >>> ((4 : Int32) &&& 31)) 32 = N at *
  generalize p_low (x >>> ((7 : Int32) &&& 31)) 5 = w at *
  generalize p_low (x >>> ((9 : Int32) &&& 31)) 9 = w9 at *
  have key : ∀ z : Int32, p_ac j G (J_L_would_185 0 x2 x3 (nI d - nI 1) s0 r1 r2 (nI w9 - nI 1) r3 (nI N) (nI w - nI 1) r4 (nI c) (nI c') (nI c) (nI c') z) 1 j G := by
    intro z
    obtain ⟨r5, me, gM⟩ := w_me hj hV hD (show c ≤ C by omega) (show c' ≤ C by omega) z
    unfold J_L_would_185
    refine p_cl me (p_cl (cl_ct0 hj5 hV hD) ?_)
    rw [e0]
    have no : (N = 0 ∨ N = 31 ∨ w = 0 ∨ w = 4) → p_ac j G (J_L_would_220 0 x2 x3 (nI d - nI 1) s0 r1 r2 (nI w9 - nI 1) r3 (nI w - nI 1) r4 (nI c) (nI c') r5 (nI D)) 1 j G := by
      intro q
      unfold J_L_would_220
      exact w_225 hj hV hD (by omega) (by omega) gM (gT 1 (Or.inl ⟨rfl, q⟩)) gW gB gP
    by_cases q1 : N = 0
    · exact p_t (by rw [q1]; rfl) (no (Or.inl q1))
    refine p_f (fun z => q1 ((mv_eq0 (by omega)).mp z)) ?_
    by_cases q2 : N = 31
    · exact p_t (by rw [q2]; rfl) (no (Or.inr (Or.inl q2)))
    refine p_f (fun z => q2 ((mv_eq (a := N) (b := 31) (by omega) (by omega)).mp z)) ?_
    by_cases q3 : w = 0
    · exact p_t (by rw [q3]; decide) (no (Or.inr (Or.inr (Or.inl q3))))
    have e : nI w - nI 1 = nI (w - 1) := pk_sub (by omega)
    refine p_f (by rw [e]; exact nI_pos (by omega)) ?_
    by_cases q4 : w = 4
    · exact p_f (by rw [q4]; decide) (no (Or.inr (Or.inr (Or.inr q4))))
    exact p_t (show nI w - nI 1 ≤ nI 2 by rw [e]; exact nI_le (by omega) (by omega)) (w_225 hj hV hD (by omega) (by omega) gM (gT 0 (Or.inr ⟨rfl, q1, q2, q3, q4⟩)) gW gB gP)
  split
  · exact key 1
  · exact key 0
/-- would answers true -/
theorem cl_wo (hj : j < 300) (hV : mv_VV G.1 C B D) (H : p_VR G.1 C B D) (hD : D ≤ 30 * j) (x : Int32) : p_ac j G (F_L_would 0 x) 1 j G := by
  unfold F_L_would
  refine p_bd (cl_low (n := 8) (by omega) (by omega)) (p_let (p_bd (cl_low (n := 8) (by omega) (by omega)) (p_let (p_bd (cl_low (n := 33) (by omega) (by omega)) (p_let ?_)))))
  have ha := p_low_lt (x := x) (show 0 < 8 by omega)
  have hb := p_low_lt (x := x >>> ((3 : Int32) &&& 31)) (show 0 < 8 by omega)
  have hd := p_low_lt (x := x >>> ((6 : Int32) &&& 31)) (show 0 < 33 by omega)
  generalize p_low x 8 = a at ha
  generalize p_low (x >>> ((3 : Int32) &&& 31)) 8 = b at hb
  generalize p_low (x >>> ((6 : Int32) &&& 31)) 33 = d at hd
  show p_ac j G (if nI a - nI 1 < 0 then J_L_would_56 0 x (nI a - nI 1) (nI b - nI 1) (nI d - nI 1) else if (5 : Int32) < nI a - nI 1 then J_L_would_56 0 x (nI a - nI 1) (nI b - nI 1) (nI d - nI 1) else if nI b - nI 1 < 0 then J_L_would_56 0 x (nI a - nI 1) (nI b - nI 1) (nI d - nI 1) else if (5 : Int32) < nI b - nI 1 then J_L_would_56 0 x (nI a - nI 1) (nI b - nI 1) (nI d - nI 1) else if nI a - nI 1 = nI b - nI 1 then J_L_would_56 0 x (nI a - nI 1) (nI b - nI 1) (nI d - nI 1) else J_L_would_61 0 x (nI a - nI 1) (nI b - nI 1) (nI d - nI 1) (0 : Int32)) 1 j G
  generalize nI a - nI 1 = x2
  generalize nI b - nI 1 = x3
  rcases mv_two x2 x3 with h | ⟨f, t, hf, ht, ne, rfl, rfl⟩
  · have k : p_ac j G (J_L_would_56 0 x x2 x3 (nI d - nI 1)) 1 j G := by
      unfold J_L_would_56
      exact w_61 hj hV H hD hd (Or.inl ⟨rfl, h⟩)
    by_cases a1 : x2 < 0
    · exact p_t a1 k
    by_cases a2 : nI 6 ≤ x2
    · exact p_f a1 (p_t (mv_hi2 (n := 5) (by omega) a2) k)
    refine p_f a1 ?_
    by_cases a3 : (5 : Int32) < x2
    · exact p_t a3 k
    refine p_f a3 ?_
    by_cases b1 : x3 < 0
    · exact p_t b1 k
    refine p_f b1 ?_
    by_cases b2 : (5 : Int32) < x3
    · exact p_t b2 k
    refine p_f b2 (p_t ?_ k)
    rcases h with (h | h) | (h | h) | h
    · exact absurd h a1
    · exact absurd h a2
    · exact absurd h b1
    · exact absurd (mv_hi2 (n := 5) (by omega) h) b2
    · exact h
  · exact p_f (nI_pos (by omega)) (p_f (nI_nlt (a := 5) (b := f) (by omega) (by omega)) (p_f (nI_pos (by omega)) (p_f (nI_nlt (a := 5) (b := t) (by omega) (by omega)) (p_f (fun z => ne ((mv_eq (by omega) (by omega)).mp z)) (w_61 hj hV H hD hd (Or.inr ⟨rfl, f, t, hf, ht, ne, rfl, rfl⟩))))))
end PW2
