/-- all that is so of one bundle -/
def p_FB (v : Nat → Int32) (C D b t l w a k s n : Nat) : Prop :=
  (t ≤ 5 ∧ v (64 + 8 * b + 0) = nI t) ∧ (l ≤ 6 ∧ v (64 + 8 * b + 1) = nI l) ∧ (w ≤ C ∧ w ≤ 4 ∧ v (64 + 8 * b + 2) = nI w) ∧ (a ≤ D + 1 ∧ v (64 + 8 * b + 3) = nI a) ∧ (k < 2 ^ 29 ∧ v (64 + 8 * b + 6) = nI k) ∧ (s ≤ D ∧ v (64 + 8 * b + 7) = nI s) ∧
  ((l ≠ 0 ∧ w = 0 ∧ a = 0 ∧ l ≠ t + 1 ∧ k = 0) ∨ (l = 0 ∧ w ≠ 0 ∧ a = 0 ∧ 0 < k) ∨ (l = 0 ∧ w = 0 ∧ a ≠ 0 ∧ 0 < k ∧ s + 1 < a)) ∧
  (v (64 + 8 * b + 4) = mv_n4 ∨ ∃ q, s + 1 < q ∧ q ≤ s + 30 ∧ v (64 + 8 * b + 4) = nI q) ∧
  (mv_AN v C b D = nI n ∧ n ≤ 1000000 ∧ (a = 0 → n = 1000000 ∨ (D + 1 ≤ n ∧ n ≤ D + 30)) ∧ (a ≠ 0 → n = a - 1)) ∧ (v (64 + 8 * b + 5) = nI 0 ∨ v (64 + 8 * b + 5) = nI 1)
theorem p_fac {v : Nat → Int32} {C B D b : Nat} (hV : mv_VV v C B D) (H : p_VR v C B D) (hD : D < 20000) (hb : b < B) : ∃ t l w a k s n, p_FB v C D b t l w a k s n := by
  have hC4 := hV.2.2.2.1
  obtain ⟨⟨t', t1, t2⟩, ⟨l, w, a, q1, q2, q3, q4, q5, q6, q7⟩, p5⟩ := hV.2.2.2.2.2.2.2 b hb
  obtain ⟨t, l', w', a', k, s, h1, h2, e0, e1, e2, h3, e3, h4, e6, e7, r1, r2, r3, r4, r5, r6⟩ := H.2.2.2 b hb
  have el : l' = l := (mv_eq (by omega) (by omega)).mp (e1.symm.trans q4)
  have ew : w' = w := (mv_eq (by omega) (by omega)).mp (e2.symm.trans q5)
  have ea : a' = a := (mv_eq (by omega) (by omega)).mp (e3.symm.trans q6)
  subst el; subst ew; subst ea
  have hn : ∃ n, mv_AN v C b D = nI n ∧ n ≤ 1000000 ∧ (a' = 0 → n = 1000000 ∨ (D + 1 ≤ n ∧ n ≤ D + 30)) ∧ (a' ≠ 0 → n = a' - 1) := by
    unfold mv_AN
    rw [q6]
    by_cases h : a' = 0
    · subst h
      rw [if_pos (nI_le (Nat.le_refl _) (by omega))]
      have hr := mv_AR_rng v C (v (64 + 8 * b + 0)) (v (64 + 8 * b + 1) - nI 1) 30 (mv_wm v b) D
      refine ⟨_, rfl, mv_AB_le hV (by omega), fun _ => ?_, fun z => absurd rfl z⟩
      unfold mv_AB
      omega
    · rw [if_neg (nI_ge (by omega) (by omega)), pk_sub (by omega)]
      exact ⟨a' - 1, rfl, by omega, fun z => absurd z h, fun _ => rfl⟩
  obtain ⟨n, n1, n2, n3, n4⟩ := hn
  refine ⟨t, l', w', a', k, s, n, ⟨h1, e0⟩, ⟨h2, e1⟩, ⟨q2, by omega, e2⟩, ⟨h4, e3⟩, ⟨by omega, e6⟩, ⟨r4, e7⟩, ?_, r6, ⟨n1, n2, n3, n4⟩, p5⟩
  rcases q7 with ⟨z1, z2, z3⟩ | ⟨z1, z2, z3⟩ | ⟨z1, z2, z3⟩
  · exact Or.inl ⟨z1, z2, z3, (r1 z1).1, (r1 z1).2⟩
  · exact Or.inr (Or.inl ⟨z1, z2, z3, (r2 z2).1⟩)
  · exact Or.inr (Or.inr ⟨z1, z2, z3, (r3 z3).1, (r3 z3).2⟩)
theorem mv_dnp {l : Nat} (h : l ≠ 0) (hl : l < 2 ^ 31) : mv_dn (nI l) = nI (l - 1) := by
  obtain ⟨m, rfl⟩ := Nat.exists_eq_succ_of_ne_zero h
  rw [Nat.succ_eq_add_one, mv_dns hl]; rfl
theorem p_1000 (a p : Int32) : (1000 : Int32) + a - p = a - p + nI 1000 := by
  rw [Int32.sub_eq_add_neg, Int32.sub_eq_add_neg, Int32.add_assoc, Int32.add_comm]
  rfl
section PH
variable {j : Nat} {G : p_G} {C B D : Nat} {b t l w a k s n : Nat}
/-- the delay's flag -/
def p_fg (v : Nat → Int32) (C b D n : Nat) (x19 : Int32) : Prop := (x19 = 0 ∧ mv_hD v C b D = nI 0) ∨ (¬ x19 = 0 ∧ x19 = nI 1 ∧ ¬ mv_hD v C b D = nI 0 ∧ ¬ n = 1000000)
theorem h_506 (hj : j < 300) (hV : mv_VV G.1 C B D) (hD : D ≤ 30 * j) (hb : b < B) (F : p_FB G.1 C D b t l w a k s n) {k152 : Int32 → Int32 → Int32 → Int32 → Int32 → Int32 → Int32 → Int32 → mv_M Int32} {x1 x2 x4 x5 x6 x7 x8 x9 x10 x11 x19 : Int32} (hf : p_fg G.1 C b D n x19) (hk : p_ac j G (k152 x4 x5 x6 x7 x10 x11 1 (nI b + 1)) 1 j G) : p_ac j G (J_L_holds_506 k152 0 x1 x2 (nI D) x4 x5 x6 x7 x8 x9 x10 x11 (nI b) (mv_dn (nI a)) (mv_oN (nI n)) (G.1 (64 + 8 * b + 4)) x19) 1 j G := by
  have hj5 : j < 500 := by omega
  obtain ⟨⟨t1, t2⟩, ⟨l1, l2⟩, ⟨w1, w2, w3⟩, ⟨a1, a2⟩, ⟨k1, k2⟩, ⟨s1, s2⟩, cs, pr, ⟨n1, n2, n3, n4⟩, br⟩ := F
  have k611 : ∀ y, y = p_dl G.1 C b D → p_ac j G (J_L_holds_611 k152 0 x1 x2 (nI D) x4 x5 x6 x7 x8 x9 x10 x11 (nI b) (p_dl G.1 C b D) y) 1 j G := by
    intro y hy
    unfold J_L_holds_611
    refine p_t hy.symm (p_cl (cl_bu8 hj5 hV hD hb) ?_)
    rw [s2]
    refine p_f (nI_nlt s1 (by omega)) ?_
    unfold J_L_holds_631
    exact hk
  have k585 : p_ac j G (J_L_holds_585 k152 0 x1 x2 (nI D) x4 x5 x6 x7 x8 x9 x10 x11 (nI b) (mv_oN (nI n)) (G.1 (64 + 8 * b + 4)) x19) 1 j G := by
    unfold J_L_holds_585
    refine p_cl (cl_bu5 hj5 hV hD hb) ?_
    rcases hf with ⟨f1, f2⟩ | ⟨f1, f2, f3, f4⟩
    · exact p_t f1 (k611 _ (by unfold p_dl; rw [if_pos f2]; rfl))
    · refine p_f f1 (k611 _ ?_)
      unfold p_dl
      rw [if_neg f3, n1, show mv_oN (nI n) = nI n by unfold mv_oN; rw [if_neg (fun z => f4 ((mv_eq (by omega) (by omega)).mp z))]]
      exact p_1000 _ _
  have k547 : p_ac j G (J_L_holds_547 k152 0 x1 x2 (nI D) x4 x5 x6 x7 x8 x9 x10 x11 (nI b) (mv_oN (nI n)) (G.1 (64 + 8 * b + 4)) x19) 1 j G := by
    unfold J_L_holds_547
    rcases pr with pr | ⟨q, q1, q2, pr⟩
    · exact p_t pr k585
    · refine p_f (by rw [pr]; exact mv_n4_ne (by omega)) (p_cl (cl_bu8 hj5 hV hD hb) ?_)
      rw [s2]
      refine p_f (by rw [pr, p_i1]; exact nI_ge q1 (by omega)) (p_cl (cl_bu8 hj5 hV hD hb) ?_)
      rw [s2]
      exact p_f (show ¬ nI s + nI 30 < _ by rw [pr, nI_add]; exact nI_nlt q2 (by omega)) k585
  unfold J_L_holds_506
  refine p_cl (cl_ar1 hj5 hV hD hb) ?_
  rw [n1]
  refine p_t rfl ?_
  by_cases h1 : n = 1000000
  · exact p_t (by unfold mv_oN; rw [if_pos (by rw [h1])]; rfl) k547
  · have e : mv_oN (nI n) = nI n := by unfold mv_oN; rw [if_neg (fun z => h1 ((mv_eq (by omega) (by omega)).mp z))]
    rw [e] at k547 ⊢
    refine p_f (mv_n4_ne (by omega)) ?_
    by_cases h2 : a = 0
    · have n3 := n3 h2
      refine p_t (by rw [h2]; exact mv_dn0) (p_f (nI_ge (by omega) (by omega)) (p_f (show ¬ nI D + nI 30 < _ by rw [nI_add]; exact nI_nlt (by omega) (by omega)) k547))
    · exact p_f (by rw [mv_dnp h2 (by omega)]; exact mv_n4_ne (by omega)) k547
theorem h_324 (hj : j < 300) (hV : mv_VV G.1 C B D) (hD : D ≤ 30 * j) (hb : b < B) (F : p_FB G.1 C D b t l w a k s n) {k152 : Int32 → Int32 → Int32 → Int32 → Int32 → Int32 → Int32 → Int32 → mv_M Int32} {x1 x4 x5 x6 x7 x8 x9 x10 x11 s0 s1 x19 : Int32} (hf : p_fg G.1 C b D n x19) (hs : s0 + s1 = x11) (hk : p_ac j G (k152 x4 x5 x6 x7 x10 x11 1 (nI b + 1)) 1 j G) : p_ac j G (J_L_holds_324 k152 0 x1 (nI C) (nI D) x4 x5 x6 x7 x8 x9 x10 (nI b) (mv_dn (nI l)) (mv_dn (nI w)) (mv_dn (nI a)) (mv_oN (nI n)) (G.1 (64 + 8 * b + 4)) x19 s0 s1) 1 j G := by
  have hj5 : j < 500 := by omega
  have hC4 := hV.2.2.2.1
  have k506 := h_506 (x1 := x1) (x2 := nI C) (x8 := x8) (x9 := x9) hj hV hD hb F hf hk
  obtain ⟨⟨t1, t2⟩, ⟨l1, l2⟩, ⟨w1, w2, w3⟩, ⟨a1, a2⟩, ⟨k1, k2⟩, ⟨s1', s2⟩, cs, pr, ⟨n1, n2, n3, n4⟩, br⟩ := F
  unfold J_L_holds_324
  rw [hs]
  refine p_let (p_cl (cl_bu0 hj5 hV hD hb) ?_)
  rw [t2]
  refine p_f (nI_pos (by omega)) (p_cl (cl_bu0 hj5 hV hD hb) ?_)
  rw [t2]
  refine p_f (nI_ge (a := t) (b := 6) (by omega) (by omega)) ?_
  rcases cs with ⟨c1, c2, c3, c4, c5⟩ | ⟨c1, c2, c3, c4⟩ | ⟨c1, c2, c3, c4, c5⟩
  · have e14 := mv_dnp c1 (by omega)
    have e15 : mv_dn (nI w) = mv_n4 := by rw [c2]; exact mv_dn0
    have e16 : mv_dn (nI a) = mv_n4 := by rw [c3]; exact mv_dn0
    rw [e16] at k506
    rw [e14, e15, e16]
    refine p_f (mv_n4_ne (by omega)) (p_f (nI_pos (by omega)) (p_f (nI_ge (b := 6) (by omega) (by omega)) (p_cl (cl_bu0 hj5 hV hD hb) ?_)))
    rw [t2]
    refine p_f (fun z => by have := (mv_eq (by omega) (by omega)).mp z; omega) (p_t rfl (p_t rfl (p_cl (cl_bu7 hj5 hV hD hb) ?_)))
    rw [k2]
    refine p_t (by rw [c5]; rfl) ?_
    unfold J_L_holds_405
    refine p_t rfl ?_
    unfold J_L_holds_441
    refine p_t rfl ?_
    unfold J_L_holds_485
    exact p_f (mv_n4_ne (by omega)) k506
  · have e14 : mv_dn (nI l) = mv_n4 := by rw [c1]; exact mv_dn0
    have e15 := mv_dnp c2 (show w < 2 ^ 31 by omega)
    have e16 : mv_dn (nI a) = mv_n4 := by rw [c3]; exact mv_dn0
    rw [e16] at k506
    rw [e14, e15, e16]
    refine p_t rfl ?_
    unfold J_L_holds_405
    refine p_f (mv_n4_ne (by omega)) (p_f (nI_pos (by omega)) (p_f (nI_ge (by omega) (by omega)) (p_t rfl (p_cl (cl_bu7 hj5 hV hD hb) ?_))))
    rw [k2]
    refine p_f (nI_ge (a := 0) (by omega) (by omega)) ?_
    unfold J_L_holds_441
    refine p_t rfl ?_
    unfold J_L_holds_485
    exact p_t rfl (p_f (mv_n4_ne (by omega)) k506)
  · have e14 : mv_dn (nI l) = mv_n4 := by rw [c1]; exact mv_dn0
    have e15 : mv_dn (nI w) = mv_n4 := by rw [c2]; exact mv_dn0
    have e16 := mv_dnp c3 (show a < 2 ^ 31 by omega)
    have n4' := n4 c3
    have e17 : mv_oN (nI n) = nI (a - 1) := by unfold mv_oN; rw [n4', if_neg (fun z => by have := (mv_eq (by omega) (by omega)).mp z; omega)]
    rw [e16, e17] at k506
    rw [e14, e15, e16, e17]
    refine p_t rfl ?_
    unfold J_L_holds_405
    refine p_t rfl ?_
    unfold J_L_holds_441
    refine p_f (mv_n4_ne (by omega)) (p_cl (cl_bu8 hj5 hV hD hb) ?_)
    rw [s2]
    refine p_f (nI_ge (by omega) (by omega)) (p_f (nI_nlt (by omega) (by omega)) (p_t rfl (p_cl (cl_bu7 hj5 hV hD hb) ?_)))
    rw [k2]
    refine p_f (nI_ge (a := 0) (by omega) (by omega)) ?_
    unfold J_L_holds_485
    exact p_t rfl (p_t rfl (p_f (mv_n4_ne (by omega)) k506))
/-- one bundle: all sums a step further -/
theorem h_227 (hj : j < 300) (hV : mv_VV G.1 C B D) (hD : D ≤ 30 * j) (hb : b < B) (F : p_FB G.1 C D b t l w a k s n) {k152 : Int32 → Int32 → Int32 → Int32 → Int32 → Int32 → Int32 → Int32 → mv_M Int32} {x1 x8 x9 x19 : Int32} (hf : p_fg G.1 C b D n x19) (hk : p_ac j G (k152 (nI (p_cn G.1 1 (b + 1))) (nI (p_cn G.1 2 (b + 1))) (nI (p_cn G.1 3 (b + 1))) (nI (p_cn G.1 5 (b + 1))) (mv_it (mv_la G.1 C D) (b + 1) 0 (nI 0, 0)).1 (nI (mv_it (mv_la G.1 C D) (b + 1) 0 (nI 0, 0)).2) 1 (nI b + 1)) 1 j G) : p_ac j G (J_L_holds_227 k152 0 x1 (nI C) (nI D) (nI (p_cn G.1 1 b)) (nI (p_cn G.1 2 b)) (nI (p_cn G.1 3 b)) (nI (p_cn G.1 5 b)) x8 x9 (mv_it (mv_la G.1 C D) b 0 (nI 0, 0)).1 (nI (mv_it (mv_la G.1 C D) b 0 (nI 0, 0)).2) (nI b) (mv_dn (nI l)) (mv_dn (nI w)) (mv_dn (nI a)) (mv_oN (nI n)) (G.1 (64 + 8 * b + 4)) x19) 1 j G := by
  have hj5 : j < 500 := by omega
  have F0 := F
  obtain ⟨⟨t1, t2⟩, ⟨l1, l2⟩, ⟨w1, w2, w3⟩, ⟨a1, a2⟩, ⟨k1, k2⟩, ⟨s1', s2⟩, cs, pr, ⟨n1, n2, n3, n4⟩, br⟩ := F
  have S : ∀ x, p_cn G.1 x (b + 1) = p_cn G.1 x b + p_o (p_k G.1 (64 + 8 * b + x)) := fun _ => rfl
  have eL := mv_it_last (mv_la G.1 C D) b 0 (nI 0, 0)
  rw [Nat.zero_add] at eL
  rw [eL] at hk
  generalize mv_it (mv_la G.1 C D) b 0 (nI 0, 0) = r at hk ⊢
  have i0 : ∀ x : Nat, nI x + (0 : Int32) = nI x := fun x => Int32.add_zero _
  have c0 : ∀ y : Nat, y < 2 ^ 30 → (mv_dn (nI y) = mv_n4 ↔ y = 0) := fun y hy => mv_dn_n4 hy
  -- the sums of the delays
  have k309 : ∀ s0 s1, s0 + s1 = (mv_la G.1 C D b r).1 → p_ac j G (J_L_holds_309 k152 0 x1 (nI C) (nI D) (nI (p_cn G.1 1 (b + 1))) (nI (p_cn G.1 2 (b + 1))) (nI (p_cn G.1 3 (b + 1))) (nI (p_cn G.1 5 (b + 1))) x8 x9 (nI r.2) (nI b) (mv_dn (nI l)) (mv_dn (nI w)) (mv_dn (nI a)) (mv_oN (nI n)) (G.1 (64 + 8 * b + 4)) x19 s0 s1) 1 j G := by
    intro s0 s1 hs
    unfold J_L_holds_309
    rw [hs]
    refine p_let ?_
    rcases hf with ⟨f1, f2⟩ | ⟨f1, f2, f3, f4⟩
    · refine p_t f1 (h_324 hj hV hD hb F0 (Or.inl ⟨f1, f2⟩) (x11 := nI (mv_la G.1 C D b r).2) ?_ hk)
      unfold mv_la
      rw [if_pos f2]; exact i0 _
    · refine p_f f1 (h_324 hj hV hD hb F0 (Or.inr ⟨f1, f2, f3, f4⟩) (x11 := nI (mv_la G.1 C D b r).2) ?_ hk)
      unfold mv_la
      rw [if_neg f3]; exact p_i1 _
  have k277 : ∀ s0 s1, s0 + s1 = nI (p_cn G.1 3 (b + 1)) → p_ac j G (J_L_holds_277 k152 0 x1 (nI C) (nI D) (nI (p_cn G.1 1 (b + 1))) (nI (p_cn G.1 2 (b + 1))) (nI (p_cn G.1 5 b)) x8 x9 r.1 (nI r.2) (nI b) (mv_dn (nI l)) (mv_dn (nI w)) (mv_dn (nI a)) (mv_oN (nI n)) (G.1 (64 + 8 * b + 4)) x19 s0 s1) 1 j G := by
    intro s0 s1 hs
    unfold J_L_holds_277
    rw [hs]
    refine p_let (p_cl (cl_bu6 hj5 hV hD hb) ?_)
    have e5 : nI (p_cn G.1 5 b) + G.1 (64 + 8 * b + 5) = nI (p_cn G.1 5 (b + 1)) := by
      rw [S 5]
      rcases br with br | br
      · rw [p_k_of br (by omega), br, nI_add, p_o0]
      · rw [p_k_of br (by omega), br, nI_add, p_o1 (by omega)]
    rw [e5]
    refine p_let ?_
    rcases hf with ⟨f1, f2⟩ | ⟨f1, f2, f3, f4⟩
    · refine p_t f1 (k309 _ _ ?_)
      unfold mv_la
      rw [if_pos f2]; exact Int32.add_zero _
    · refine p_f f1 (k309 _ _ ?_)
      unfold mv_la
      rw [if_neg f3, n1, show mv_oN (nI n) = nI n by unfold mv_oN; rw [if_neg (fun z => f4 ((mv_eq (by omega) (by omega)).mp z))]]
  have k260 : ∀ s0 s1, s0 + s1 = nI (p_cn G.1 2 (b + 1)) → p_ac j G (J_L_holds_260 k152 0 x1 (nI C) (nI D) (nI (p_cn G.1 1 (b + 1))) (nI (p_cn G.1 3 b)) (nI (p_cn G.1 5 b)) x8 x9 r.1 (nI r.2) (nI b) (mv_dn (nI l)) (mv_dn (nI w)) (mv_dn (nI a)) (mv_oN (nI n)) (G.1 (64 + 8 * b + 4)) x19 s0 s1) 1 j G := by
    intro s0 s1 hs
    unfold J_L_holds_260
    rw [hs]
    refine p_let ?_
    have e := S 3
    rw [p_k_of a2 (by omega)] at e
    by_cases h : a = 0
    · refine p_t ((c0 a (by omega)).mpr h) (k277 _ _ ?_)
      rw [e, h, p_o0]; exact i0 _
    · refine p_f (fun z => h ((c0 a (by omega)).mp z)) (k277 _ _ ?_)
      rw [e, p_o1 h]; exact p_i1 _
  have k243 : ∀ s0 s1, s0 + s1 = nI (p_cn G.1 1 (b + 1)) → p_ac j G (J_L_holds_243 k152 0 x1 (nI C) (nI D) (nI (p_cn G.1 2 b)) (nI (p_cn G.1 3 b)) (nI (p_cn G.1 5 b)) x8 x9 r.1 (nI r.2) (nI b) (mv_dn (nI l)) (mv_dn (nI w)) (mv_dn (nI a)) (mv_oN (nI n)) (G.1 (64 + 8 * b + 4)) x19 s0 s1) 1 j G := by
    intro s0 s1 hs
    unfold J_L_holds_243
    rw [hs]
    refine p_let ?_
    have e := S 2
    rw [p_k_of w3 (by omega)] at e
    by_cases h : w = 0
    · refine p_t ((c0 w (by omega)).mpr h) (k260 _ _ ?_)
      rw [e, h, p_o0]; exact i0 _
    · refine p_f (fun z => h ((c0 w (by omega)).mp z)) (k260 _ _ ?_)
      rw [e, p_o1 h]; exact p_i1 _
  unfold J_L_holds_227
  have e := S 1
  rw [p_k_of l2 (by omega)] at e
  by_cases h : l = 0
  · refine p_t ((c0 l (by omega)).mpr h) (k243 _ _ ?_)
    rw [e, h, p_o0]; exact i0 _
  · refine p_f (fun z => h ((c0 l (by omega)).mp z)) (k243 _ _ ?_)
    rw [e, p_o1 h]; exact p_i1 _
end PH
