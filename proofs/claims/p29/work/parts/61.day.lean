/-- from v to v': as many have come as m grew; no seal is mended, no change of hands undone -/
def p_PR (C B : Nat) (v v' : Nat → Int32) (m m' : Nat) : Prop := p_cn v' 3 B + m = p_cn v 3 B + m' ∧ p_cn v 5 B ≤ p_cn v' 5 B ∧ p_hd v C ≤ p_hd v' C
theorem p_PR.rf {C B : Nat} {v : Nat → Int32} {m : Nat} : p_PR C B v v m m := ⟨rfl, Nat.le_refl _, Nat.le_refl _⟩
theorem p_PR.tr {C B : Nat} {v v1 v2 : Nat → Int32} {m m1 m2 : Nat} (h1 : p_PR C B v v1 m m1) (h2 : p_PR C B v1 v2 m1 m2) : p_PR C B v v2 m m2 := by
  obtain ⟨a1, a2, a3⟩ := h1
  obtain ⟨b1, b2, b3⟩ := h2
  exact ⟨by omega, by omega, by omega⟩
section PD
variable {v : Nat → Int32} {C B D E m A b c : Nat}
theorem p_lo {x : Nat} (hx : x < 10000) (h : v 2 = nI x) : mv_lo v = nI ((421 * x + 1663) % 10000) := by
  unfold mv_lo mv_rem
  rw [h, pk_mul, nI_add, pk_rem (by omega) (by omega) (by omega)]
theorem p_c1_ne {k : Nat} (h1 : k ≠ 64 + 8 * b + 1) (h2 : k ≠ 64 + 8 * b + 2) (h3 : k ≠ 64 + 8 * b + 6) (h4 : k ≠ 8) (h5 : k ≠ 16 + 12 * c + 10) (h6 : k ≠ 2) : mv_ch1 v b c k = v k := by
  unfold mv_ch1
  rw [mv_vu_ne h6, mv_vu_ne h5, mv_vu_ne h4, mv_vu_ne h3, mv_vu_ne h2, mv_vu_ne h1]
theorem p_VX_ch1 (hC4 : C ≤ 4) (hb : b < B) (hc : c < C) (hE : E < D) (hA : A < 2 ^ 29) (ha : v (64 + 8 * b + 3) = nI 0) (H : p_VX v C B D E m A) : p_VX (mv_ch1 v b c) C B D E m (A + 1) ∧ p_hd (mv_ch1 v b c) C = p_hd v C + 1 := by
  obtain ⟨⟨p1, ⟨x2, x2a, x2b⟩, p3, p4, p5⟩, q2, q3, q4⟩ := H
  obtain ⟨r, g, x, y, c1, c2, c3, c4, d8, d9, d10, d11⟩ := q3 c hc
  obtain ⟨t, l, w, a, k, s, h1, h2, e0, e1, e2, h3, e3, h4, e6, e7, r1, r2, r3, r4, r5, r6⟩ := q4 b hb
  have g1 : mv_ch1 v b c (64 + 8 * b + 1) = nI 0 := by unfold mv_ch1; simp (disch := omega) only [mv_vu_ne, mv_vu_eq]
  have g2 : mv_ch1 v b c (64 + 8 * b + 2) = nI (c + 1) := by unfold mv_ch1; simp (disch := omega) only [mv_vu_ne, mv_vu_eq]
  have g6 : mv_ch1 v b c (64 + 8 * b + 6) = nI (k + 1) := by unfold mv_ch1; simp (disch := omega) only [mv_vu_ne, mv_vu_eq]; rw [e6, nI_add]
  have g8 : mv_ch1 v b c 8 = v 8 + nI 1 := by unfold mv_ch1; simp (disch := omega) only [mv_vu_ne, mv_vu_eq]
  have g10 : mv_ch1 v b c (16 + 12 * c + 10) = nI (x + 1) := by unfold mv_ch1; simp (disch := omega) only [mv_vu_ne, mv_vu_eq]; rw [d10, nI_add]
  have gl : mv_ch1 v b c 2 = mv_lo v := by unfold mv_ch1; simp only [mv_vu_eq]
  have hx : x ≤ p_hd v C := by
    have := p_S_ge (f := fun c => p_k v (16 + 12 * c + 10)) C hc
    have e : p_k v (16 + 12 * c + 10) = x := p_k_of d10 (by omega)
    unfold p_hd
    omega
  have hd : p_hd (mv_ch1 v b c) C = p_hd v C + 1 := by
    have e := p_S_upd (f := fun c' => p_k (mv_ch1 v b c) (16 + 12 * c' + 10)) (g := fun c' => p_k v (16 + 12 * c' + 10)) C hc (fun i hi ne => p_k_congr (p_c1_ne (by omega) (by omega) (by omega) (by omega) (by omega) (by omega)))
    have e1' : p_k v (16 + 12 * c + 10) = x := p_k_of d10 (by omega)
    have e2' : p_k (mv_ch1 v b c) (16 + 12 * c + 10) = x + 1 := p_k_of g10 (by omega)
    rw [e1', e2'] at e
    unfold p_hd
    omega
  refine ⟨⟨⟨by rw [p_c1_ne (by omega) (by omega) (by omega) (by omega) (by omega) (by omega)]; exact p1, ⟨(421 * x2 + 1663) % 10000, Nat.mod_lt _ (by omega), by rw [gl, p_lo x2a x2b]⟩, ?_, by omega, by rw [hd, g8, p5, nI_add]⟩, ?_, fun c' hc' => ?_, fun b' hb' => ?_⟩, hd⟩
  · rw [p_c1_ne (by omega) (by omega) (by omega) (by omega) (by omega) (by omega), p_c1_ne (by omega) (by omega) (by omega) (by omega) (by omega) (by omega), p_c1_ne (by omega) (by omega) (by omega) (by omega) (by omega) (by omega)]; exact p3
  · exact p_VA_congr (Nat.le_succ _) (p_c1_ne (by omega) (by omega) (by omega) (by omega) (by omega) (by omega)) (fun b' hb' => p_c1_ne (by omega) (by omega) (by omega) (by omega) (by omega) (by omega)) q2
  · by_cases e : c' = c
    · subst e
      exact ⟨r, g, x + 1, y, c1, c2, by omega, by omega, by rw [p_c1_ne (by omega) (by omega) (by omega) (by omega) (by omega) (by omega)]; exact d8, by rw [p_c1_ne (by omega) (by omega) (by omega) (by omega) (by omega) (by omega)]; exact d9, g10, by rw [p_c1_ne (by omega) (by omega) (by omega) (by omega) (by omega) (by omega)]; exact d11⟩
    · exact p_VC1_congr (fun i h1 h2 => p_c1_ne (by omega) (by omega) (by omega) (by omega) (by omega) (by omega)) (q3 c' hc')
  · by_cases e : b' = b
    · subst e
      refine ⟨t, 0, c + 1, 0, k + 1, s, h1, by omega, by rw [p_c1_ne (by omega) (by omega) (by omega) (by omega) (by omega) (by omega)]; exact e0, g1, g2, by omega, by rw [p_c1_ne (by omega) (by omega) (by omega) (by omega) (by omega) (by omega)]; exact ha, by omega, g6, by rw [p_c1_ne (by omega) (by omega) (by omega) (by omega) (by omega) (by omega)]; exact e7, fun z => absurd rfl z, fun _ => ⟨by omega, by omega⟩, fun z => absurd rfl z, r4, by omega, ?_⟩
      rw [p_c1_ne (by omega) (by omega) (by omega) (by omega) (by omega) (by omega)]; exact r6
    · exact p_VB1_le (Nat.le_refl _) (Nat.le_refl _) (Nat.le_succ _) (p_VB1_congr (fun i hi => p_c1_ne (by omega) (by omega) (by omega) (by omega) (by omega) (by omega)) (q4 b' hb'))
theorem p_VX_chg (hC4 : C ≤ 4) (hb : b < B) (hc : c < C) (hE : E < D) (hA : A < 2 ^ 29) (ha : v (64 + 8 * b + 3) = nI 0) (H : p_VX v C B D E m A) : p_VX (mv_chg v b c) C B D E m (A + 1) ∧ p_PR C B v (mv_chg v b c) m m := by
  obtain ⟨K, hd⟩ := p_VX_ch1 hC4 hb hc hE hA ha H
  have c3 : p_cn (mv_ch1 v b c) 3 B = p_cn v 3 B := p_cn_congr (fun b' hb' => p_c1_ne (by omega) (by omega) (by omega) (by omega) (by omega) (by omega))
  have c5 : p_cn (mv_ch1 v b c) 5 B = p_cn v 5 B := p_cn_congr (fun b' hb' => p_c1_ne (by omega) (by omega) (by omega) (by omega) (by omega) (by omega))
  have P1 : p_PR C B v (mv_ch1 v b c) m m := ⟨by rw [c3], by omega, by omega⟩
  unfold mv_chg
  split
  · exact ⟨K, P1⟩
  · split
    · next h5 =>
      obtain ⟨r, g, x, y, a1, a2, a3, a4, d8, d9, d10, d11⟩ := H.2.2.1 c hc
      have g10 : mv_ch1 v b c (16 + 12 * c + 10) = nI (x + 1) := by unfold mv_ch1; simp (disch := omega) only [mv_vu_ne, mv_vu_eq]; rw [d10, nI_add]
      have hx : x ≤ p_hd v C := by
        have := p_S_ge (f := fun c => p_k v (16 + 12 * c + 10)) C hc
        have e : p_k v (16 + 12 * c + 10) = x := p_k_of d10 (by omega)
        unfold p_hd
        omega
      have hA2 := H.1.2.2.2.1
      rw [d11, nI_add]
      have ne : ∀ k, k ≠ 64 + 8 * b + 5 → k ≠ 16 + 12 * c + 11 → mv_vu (mv_vu (mv_ch1 v b c) (64 + 8 * b + 5) (nI 1)) (16 + 12 * c + 11) (nI (y + 1)) k = mv_ch1 v b c k := fun k q1 q2 => by rw [mv_vu_ne q2, mv_vu_ne q1]
      obtain ⟨k1, k2, k3, k4⟩ := K
      refine ⟨⟨p_VH_congr (Nat.le_refl _) (ne _ (by omega) (by omega)) (ne _ (by omega) (by omega)) (ne _ (by omega) (by omega)) (ne _ (by omega) (by omega)) (ne _ (by omega) (by omega)) (ne _ (by omega) (by omega)) (fun c' hc' => ne _ (by omega) (by omega)) k1, p_VA_congr (Nat.le_refl _) (ne _ (by omega) (by omega)) (fun b' hb' => ne _ (by omega) (by omega)) k2, fun c' hc' => ?_, fun b' hb' => ?_⟩, ?_⟩
      · by_cases e : c' = c
        · subst e
          refine ⟨r, g, x + 1, y + 1, a1, a2, by omega, by omega, ?_, ?_, ?_, mv_vu_eq⟩
          · rw [ne _ (by omega) (by omega), p_c1_ne (by omega) (by omega) (by omega) (by omega) (by omega) (by omega)]; exact d8
          · rw [ne _ (by omega) (by omega), p_c1_ne (by omega) (by omega) (by omega) (by omega) (by omega) (by omega)]; exact d9
          · rw [ne _ (by omega) (by omega)]; exact g10
        · exact p_VC1_congr (fun i h1 h2 => ne _ (by omega) (by omega)) (k3 c' hc')
      · obtain ⟨t, l, w, a, k, s, h1, h2, e0, e1, e2, h3, e3, h4, e6, e7, r⟩ := k4 b' hb'
        refine ⟨t, l, w, a, k, s, h1, h2, by rw [ne _ (by omega) (by omega)]; exact e0, by rw [ne _ (by omega) (by omega)]; exact e1, by rw [ne _ (by omega) (by omega)]; exact e2, h3, by rw [ne _ (by omega) (by omega)]; exact e3, h4, by rw [ne _ (by omega) (by omega)]; exact e6, by rw [ne _ (by omega) (by omega)]; exact e7, ?_⟩
        rw [ne _ (by omega) (by omega)]; exact r
      · refine P1.tr ⟨by rw [p_cn_congr (fun b' hb' => ne _ (by omega) (by omega))], p_S_le B (fun b' hb' => ?_), by rw [p_hd_congr (fun c' hc' => ne _ (by omega) (by omega))]; exact Nat.le_refl _⟩
        by_cases e : b' = b
        · subst e
          have e1 : p_k (mv_vu (mv_vu (mv_ch1 v b' c) (64 + 8 * b' + 5) (nI 1)) (16 + 12 * c + 11) (nI (y + 1))) (64 + 8 * b' + 5) = 1 := p_k_of (by rw [mv_vu_ne (by omega), mv_vu_eq]) (by omega)
          rw [e1]
          exact p_o_le _
        · rw [p_k_congr (ne (64 + 8 * b' + 5) (by omega) (by omega))]
          exact Nat.le_refl _
    · exact ⟨K, P1⟩
theorem p_VX_le {D' E' A' : Nat} (hD : D ≤ D') (hE : E ≤ E') (hA : A ≤ A') (H : p_VX v C B D E m A) : p_VX v C B D' E' m A' := by
  obtain ⟨⟨p1, p2, p3, p4, p5⟩, ⟨a, a1, a2, a3⟩, q3, q4⟩ := H
  exact ⟨⟨p1, p2, p3, by omega, p5⟩, ⟨a, a1, by omega, a3⟩, fun c hc => p_VC1_le hD (q3 c hc), fun b hb => p_VB1_le hD hE hA (q4 b hb)⟩
theorem p_VX_go (hC4 : C ≤ 4) (hb : b < B) (hE : E < D) (hA : A < 2 ^ 29) (ha : v (64 + 8 * b + 3) = nI 0) (H : p_VX v C B D E m A) : p_VX (mv_go v C B b D) C B D E m (A + 1) ∧ p_PR C B v (mv_go v C B b D) m m := by
  unfold mv_go
  cases e : (mv_gl v C B b D).1 with
  | none => exact ⟨p_VX_le (Nat.le_refl _) (Nat.le_refl _) (Nat.le_succ _) H, p_PR.rf⟩
  | some c => exact p_VX_chg hC4 hb (mv_gl_lt c e) hE hA ha H
theorem p_VX_df {s : Nat × (Nat → Int32)} (hV : mv_VV s.2 C B D) (hb : b < B) (hE : E < D) (hA : A < 2 ^ 29) (hD : D < 2 ^ 29) (H : p_VX s.2 C B D E s.1 A) : p_VX (mv_df C B D b s).2 C B D E (mv_df C B D b s).1 (A + 1) ∧ p_PR C B s.2 (mv_df C B D b s).2 s.1 (mv_df C B D b s).1 := by
  have hC4 := hV.2.2.2.1
  have hB8 := hV.2.2.2.2.1
  obtain ⟨-, ⟨l, w, a, q1, q2, q3, q4, q5, q6, q7⟩, p5⟩ := hV.2.2.2.2.2.2.2 b hb
  unfold mv_df
  split
  · next hc =>
    have hw : w ≠ 0 := by
      rintro rfl
      rw [q5] at hc
      exact absurd hc.1 (by decide)
    have ha0 : a = 0 := by omega
    obtain ⟨k1, ⟨a', a1, a2, a3⟩, k3, k4⟩ := H
    have ne : ∀ k, k ≠ 64 + 8 * b + 2 → k ≠ 64 + 8 * b + 3 → mv_vu (mv_vu s.2 (64 + 8 * b + 2) (nI 0)) (64 + 8 * b + 3) (nI (D + 1)) k = s.2 k := fun k q1 q2 => by rw [mv_vu_ne q2, mv_vu_ne q1]
    have cn : p_cn (mv_vu (mv_vu s.2 (64 + 8 * b + 2) (nI 0)) (64 + 8 * b + 3) (nI (D + 1))) 3 B = p_cn s.2 3 B + 1 := by
      have e := p_S_upd (f := fun b' => p_o (p_k (mv_vu (mv_vu s.2 (64 + 8 * b + 2) (nI 0)) (64 + 8 * b + 3) (nI (D + 1))) (64 + 8 * b' + 3))) (g := fun b' => p_o (p_k s.2 (64 + 8 * b' + 3))) B hb (fun i hi nei => by rw [p_k_congr (ne (64 + 8 * i + 3) (by omega) (by omega))])
      rw [p_k_of mv_vu_eq (by omega), p_k_of q6 (by omega), ha0, p_o0, p_o1 (by omega)] at e
      unfold p_cn
      omega
    show p_VX (mv_vu (mv_vu s.2 (64 + 8 * b + 2) (nI 0)) (64 + 8 * b + 3) (nI (D + 1))) C B D E (s.1 + 1) (A + 1) ∧ p_PR C B s.2 (mv_vu (mv_vu s.2 (64 + 8 * b + 2) (nI 0)) (64 + 8 * b + 3) (nI (D + 1))) s.1 (s.1 + 1)
    refine ⟨⟨p_VH_congr (Nat.le_succ _) (ne _ (by omega) (by omega)) (ne _ (by omega) (by omega)) (ne _ (by omega) (by omega)) (ne _ (by omega) (by omega)) (ne _ (by omega) (by omega)) (ne _ (by omega) (by omega)) (fun c' hc' => ne _ (by omega) (by omega)) k1, ⟨a', ?_, by show a' + (s.1 + 1) ≤ A + 1; omega, by show mv_vu (mv_vu s.2 (64 + 8 * b + 2) (nI 0)) (64 + 8 * b + 3) (nI (D + 1)) 6 = _; rw [ne _ (by omega) (by omega)]; exact a3⟩, fun c' hc' => p_VC1_congr (fun i h1 h2 => ne _ (by omega) (by omega)) (k3 c' hc'), fun b' hb' => ?_⟩, ?_⟩
    · show p_cn (mv_vu (mv_vu s.2 (64 + 8 * b + 2) (nI 0)) (64 + 8 * b + 3) (nI (D + 1))) 3 B ≤ a' + (s.1 + 1)
      rw [cn]; omega
    · show p_VB1 (mv_vu (mv_vu s.2 (64 + 8 * b + 2) (nI 0)) (64 + 8 * b + 3) (nI (D + 1))) D E (A + 1) b'
      by_cases e : b' = b
      · subst e
        obtain ⟨t, l', w', a'', k, sb, h1, h2, e0, e1, e2, h3, e3, h4, e6, e7, r1, r2, r3, r4, r5, r6⟩ := k4 b' hb'
        have ew : w' = w := (mv_eq (by omega) (by omega)).mp (e2.symm.trans q5)
        have r2' := r2 (by omega)
        refine ⟨t, l', 0, D + 1, k, sb, h1, h2, by rw [ne _ (by omega) (by omega)]; exact e0, by rw [ne _ (by omega) (by omega)]; exact e1, by rw [mv_vu_ne (by omega), mv_vu_eq], by omega, mv_vu_eq, Nat.le_refl _, by rw [ne _ (by omega) (by omega)]; exact e6, by rw [ne _ (by omega) (by omega)]; exact e7, r1, fun z => absurd rfl z, fun _ => ⟨r2'.1, by omega⟩, r4, by omega, ?_⟩
        rw [ne _ (by omega) (by omega)]; exact r6
      · exact p_VB1_le (Nat.le_refl _) (Nat.le_refl _) (Nat.le_succ _) (p_VB1_congr (fun i hi => ne _ (by omega) (by omega)) (k4 b' hb'))
    · show p_PR C B s.2 (mv_vu (mv_vu s.2 (64 + 8 * b + 2) (nI 0)) (64 + 8 * b + 3) (nI (D + 1))) s.1 (s.1 + 1)
      exact ⟨by rw [cn]; omega, by rw [p_cn_congr (fun b' hb' => ne _ (by omega) (by omega))]; exact Nat.le_refl _, by rw [p_hd_congr (fun c' hc' => ne _ (by omega) (by omega))]; exact Nat.le_refl _⟩
  · split
    · next hc => exact p_VX_go hC4 hb hE hA hc H
    · exact ⟨p_VX_le (Nat.le_refl _) (Nat.le_refl _) (Nat.le_succ _) H, p_PR.rf⟩
theorem p_VX_it {A0 : Nat} (hB8 : B ≤ 8) (hE : E < D) (hA : A0 + B < 2 ^ 29) (hD : D < 2 ^ 29) : ∀ (k b : Nat) (s : Nat × (Nat → Int32)), b + k = B → mv_VV s.2 C B D → p_VX s.2 C B D E s.1 (A0 + b) → p_VX (mv_it (mv_df C B D) k b s).2 C B D E (mv_it (mv_df C B D) k b s).1 (A0 + B) ∧ p_PR C B s.2 (mv_it (mv_df C B D) k b s).2 s.1 (mv_it (mv_df C B D) k b s).1
  | 0, b, s, h, _, H => by
    have : b = B := by omega
    subst this
    exact ⟨H, p_PR.rf⟩
  | k + 1, b, s, h, hV, H => by
    obtain ⟨h1, h2⟩ := p_VX_df hV (show b < B by omega) hE (by omega) hD H
    obtain ⟨h3, h4⟩ := p_VX_it hB8 hE hA hD k (b + 1) (mv_df C B D b s) (by omega) (mv_VV_df hV (by omega)) (by rw [← Nat.add_assoc]; exact h1)
    exact ⟨h3, h2.tr h4⟩
theorem p_VR_dy (hV : mv_VV v C B D) (hD : D < 100000) (H : p_VR v C B D) : p_VR (mv_dy C B (D + 1) v).2 C B (D + 1) ∧ p_PR C B v (mv_dy C B (D + 1) v).2 0 (mv_dy C B (D + 1) v).1 := by
  have hB8 := hV.2.2.2.2.1
  have ne0 : ∀ k, k ≠ 0 → mv_vu v 0 (nI (D + 1)) k = v k := fun k h => mv_vu_ne h
  have H0 : p_VX (mv_vu v 0 (nI (D + 1))) C B (D + 1) D 0 (8 * D + 0) := by
    obtain ⟨k1, k2, k3, k4⟩ := p_VX_le (Nat.le_succ D) (Nat.le_refl _) (Nat.le_refl _) H
    exact ⟨p_VH_congr (Nat.le_refl _) (ne0 _ (by omega)) (ne0 _ (by omega)) (ne0 _ (by omega)) (ne0 _ (by omega)) (ne0 _ (by omega)) (ne0 _ (by omega)) (fun c' hc' => ne0 _ (by omega)) k1, p_VA_congr (Nat.le_refl _) (ne0 _ (by omega)) (fun b' hb' => ne0 _ (by omega)) k2, fun c' hc' => p_VC1_congr (fun i h1 h2 => ne0 _ (by omega)) (k3 c' hc'), fun b' hb' => p_VB1_congr (fun i hi => ne0 _ (by omega)) (k4 b' hb')⟩
  obtain ⟨h1, h2⟩ := p_VX_it hB8 (Nat.lt_succ_self D) (by omega) (by omega) B 0 (0, mv_vu v 0 (nI (D + 1))) (by omega) (mv_VV_day hV) H0
  have h1' : p_VX (mv_dl C B (D + 1) v).2 C B (D + 1) D (mv_dl C B (D + 1) v).1 (8 * D + B) := h1
  have h2' : p_PR C B (mv_vu v 0 (nI (D + 1))) (mv_dl C B (D + 1) v).2 0 (mv_dl C B (D + 1) v).1 := h2
  show p_VR (mv_vu (mv_dl C B (D + 1) v).2 6 ((mv_dl C B (D + 1) v).2 6 + nI (mv_dl C B (D + 1) v).1)) C B (D + 1) ∧ p_PR C B v (mv_vu (mv_dl C B (D + 1) v).2 6 ((mv_dl C B (D + 1) v).2 6 + nI (mv_dl C B (D + 1) v).1)) 0 (mv_dl C B (D + 1) v).1
  generalize mv_dl C B (D + 1) v = r at h1' h2'
  have ne6 : ∀ k, k ≠ 6 → mv_vu r.2 6 (r.2 6 + nI r.1) k = r.2 k := fun k h => mv_vu_ne h
  obtain ⟨k1, ⟨a, a1, a2, a3⟩, k3, k4⟩ := p_VX_le (D' := D + 1) (E' := D + 1) (A' := 8 * (D + 1)) (Nat.le_refl _) (Nat.le_succ _) (by omega) h1'
  refine ⟨⟨p_VH_congr (Nat.le_refl _) (ne6 _ (by omega)) (ne6 _ (by omega)) (ne6 _ (by omega)) (ne6 _ (by omega)) (ne6 _ (by omega)) (ne6 _ (by omega)) (fun c' hc' => ne6 _ (by omega)) k1, ⟨a + r.1, ?_, by omega, by rw [mv_vu_eq, a3, nI_add]⟩, fun c' hc' => p_VC1_congr (fun i h1 h2 => ne6 _ (by omega)) (k3 c' hc'), fun b' hb' => p_VB1_congr (fun i hi => ne6 _ (by omega)) (k4 b' hb')⟩, ?_⟩
  · rw [p_cn_congr (fun b' hb' => ne6 _ (by omega))]; omega
  · obtain ⟨z1, z2, z3⟩ := h2'
    refine ⟨?_, ?_, ?_⟩
    · rw [p_cn_congr (fun b' hb' => ne6 _ (by omega)), z1, p_cn_congr (fun b' hb' => ne0 _ (by omega))]
    · rw [p_cn_congr (fun b' hb' => ne6 _ (by omega))]
      rw [p_cn_congr (fun b' hb' => ne0 _ (by omega))] at z2
      exact z2
    · rw [p_hd_congr (fun b' hb' => ne6 _ (by omega))]
      rw [p_hd_congr (fun b' hb' => ne0 _ (by omega))] at z3
      exact z3
theorem p_VR_it : ∀ (k c : Nat) (s : Nat × Nat × (Nat → Int32)), s.1 + k < 100000 → mv_VV s.2.2 C B s.1 → p_VR s.2.2 C B s.1 → p_VR (mv_it (mv_ds C B) k c s).2.2 C B (s.1 + k) ∧ p_PR C B s.2.2 (mv_it (mv_ds C B) k c s).2.2 s.2.1 (mv_it (mv_ds C B) k c s).2.1
  | 0, _, s, _, _, H => ⟨H, p_PR.rf⟩
  | k + 1, c, s, hk, hV, H => by
    obtain ⟨h1, h2⟩ := p_VR_dy hV (by omega) H
    obtain ⟨h3, h4⟩ := p_VR_it k (c + 1) (mv_ds C B c s) (by show s.1 + 1 + k < 100000; omega) (mv_VV_dy hV) h1
    have e : (mv_ds C B c s).1 + k = s.1 + (k + 1) := by show s.1 + 1 + k = s.1 + (k + 1); omega
    rw [e] at h3
    refine ⟨h3, p_PR.tr ?_ h4⟩
    obtain ⟨z1, z2, z3⟩ := h2
    refine ⟨?_, z2, z3⟩
    show p_cn (mv_dy C B (s.1 + 1) s.2.2).2 3 B + s.2.1 = p_cn s.2.2 3 B + (s.2.1 + (mv_dy C B (s.1 + 1) s.2.2).1)
    omega
theorem p_VR_ps {N : Nat} (hV : mv_VV v C B D) (hD : D + N < 100000) (H : p_VR v C B D) : p_VR (mv_ps C B D N v).2.2 C B (D + N) ∧ p_PR C B v (mv_ps C B D N v).2.2 0 (mv_ps C B D N v).2.1 := p_VR_it N 0 (D, 0, v) hD hV H
end PD
