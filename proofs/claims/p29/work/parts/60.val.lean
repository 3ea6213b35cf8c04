/-! what is so of a vector beside its shape: the accounts -/
def p_k (v : Nat → Int32) (k : Nat) : Nat := (v k).toNatClampNeg
theorem p_k_of {v : Nat → Int32} {k n : Nat} (h : v k = nI n) (hn : n < 2 ^ 31) : p_k v k = n := by unfold p_k; rw [h, nI_clamp hn]
theorem p_k_congr {v v' : Nat → Int32} {k k' : Nat} (h : v' k' = v k) : p_k v' k' = p_k v k := by unfold p_k; rw [h]
def p_S (f : Nat → Nat) : Nat → Nat
  | 0 => 0
  | n + 1 => p_S f n + f n
theorem p_S_congr {f g : Nat → Nat} : ∀ n, (∀ i, i < n → f i = g i) → p_S f n = p_S g n
  | 0, _ => rfl
  | n + 1, h => by
    show p_S f n + f n = p_S g n + g n
    rw [p_S_congr n (fun i hi => h i (by omega)), h n (by omega)]
theorem p_S_upd {f g : Nat → Nat} {c : Nat} : ∀ n, c < n → (∀ i, i < n → i ≠ c → f i = g i) → p_S f n + g c = p_S g n + f c
  | 0, h, _ => absurd h (Nat.not_lt_zero _)
  | n + 1, h, e => by
    show p_S f n + f n + g c = p_S g n + g n + f c
    by_cases q : c = n
    · subst q
      rw [p_S_congr c (fun i hi => e i (by omega) (by omega))]
      omega
    · have := p_S_upd n (by omega) (fun i hi ne => e i (by omega) ne)
      rw [e n (by omega) (fun z => q z.symm)]
      omega
theorem p_S_ge {f : Nat → Nat} {c : Nat} : ∀ n, c < n → f c ≤ p_S f n
  | 0, h => absurd h (Nat.not_lt_zero _)
  | n + 1, h => by
    show f c ≤ p_S f n + f n
    by_cases q : c = n
    · subst q; omega
    · have := p_S_ge (f := f) n (show c < n by omega)
      omega
theorem p_S_le {f g : Nat → Nat} : ∀ n, (∀ i, i < n → f i ≤ g i) → p_S f n ≤ p_S g n
  | 0, _ => Nat.le_refl _
  | n + 1, h => by
    have := p_S_le n (fun i hi => h i (by omega))
    have := h n (by omega)
    show p_S f n + f n ≤ p_S g n + g n
    omega
def p_o (n : Nat) : Nat := if n = 0 then 0 else 1
theorem p_o0 : p_o 0 = 0 := rfl
theorem p_o1 {n : Nat} (h : n ≠ 0) : p_o n = 1 := if_neg h
theorem p_o_le (n : Nat) : p_o n ≤ 1 := by unfold p_o; split <;> omega
def p_cn (v : Nat → Int32) (w B : Nat) : Nat := p_S (fun b => p_o (p_k v (64 + 8 * b + w))) B
def p_hd (v : Nat → Int32) (C : Nat) : Nat := p_S (fun c => p_k v (16 + 12 * c + 10)) C
theorem p_cn_le (v : Nat → Int32) (w : Nat) : ∀ B, p_cn v w B ≤ B
  | 0 => Nat.le_refl _
  | B + 1 => by
    have h1 := p_cn_le v w B
    have h2 := p_o_le (p_k v (64 + 8 * B + w))
    show p_cn v w B + p_o (p_k v (64 + 8 * B + w)) ≤ B + 1
    omega
theorem p_cn_congr {v v' : Nat → Int32} {w B : Nat} (h : ∀ b, b < B → v' (64 + 8 * b + w) = v (64 + 8 * b + w)) : p_cn v' w B = p_cn v w B := p_S_congr B (fun b hb => by rw [p_k_congr (h b hb)])
theorem p_hd_congr {v v' : Nat → Int32} {C : Nat} (h : ∀ c, c < C → v' (16 + 12 * c + 10) = v (16 + 12 * c + 10)) : p_hd v' C = p_hd v C := p_S_congr C (fun c hc => p_k_congr (h c hc))
/-- one bundle on the day D: posted on E at the latest, no more than A changes of hands in all -/
def p_VB1 (v : Nat → Int32) (D E A b : Nat) : Prop := ∃ t l w a k s, t ≤ 5 ∧ l ≤ 6 ∧ v (64 + 8 * b + 0) = nI t ∧ v (64 + 8 * b + 1) = nI l ∧ v (64 + 8 * b + 2) = nI w ∧ w ≤ 4 ∧ v (64 + 8 * b + 3) = nI a ∧ a ≤ D + 1 ∧ v (64 + 8 * b + 6) = nI k ∧ v (64 + 8 * b + 7) = nI s ∧ (l ≠ 0 → l ≠ t + 1 ∧ k = 0) ∧ (w ≠ 0 → 0 < k ∧ s < D) ∧ (a ≠ 0 → 0 < k ∧ s + 1 < a) ∧ s ≤ E ∧ k ≤ A ∧ (v (64 + 8 * b + 4) = mv_n4 ∨ ∃ q, s + 1 < q ∧ q ≤ s + 30 ∧ v (64 + 8 * b + 4) = nI q)
def p_VC1 (v : Nat → Int32) (D c : Nat) : Prop := ∃ r g x y, r ≤ 9 ∧ g ≤ D + 31 ∧ y ≤ x ∧ x < 2 ^ 30 ∧ v (16 + 12 * c + 8) = nI r ∧ v (16 + 12 * c + 9) = nI g ∧ v (16 + 12 * c + 10) = nI x ∧ v (16 + 12 * c + 11) = nI y
def p_VH (v : Nat → Int32) (C A : Nat) : Prop := (∃ l, 1 ≤ l ∧ l ≤ 8 ∧ v 1 = nI l) ∧ (∃ x, x < 10000 ∧ v 2 = nI x) ∧ v 5 = v 4 + v 7 ∧ p_hd v C ≤ A ∧ v 8 = nI (p_hd v C)
def p_VA (v : Nat → Int32) (B m A : Nat) : Prop := ∃ a, p_cn v 3 B ≤ a + m ∧ a + m ≤ A ∧ v 6 = nI a
def p_VX (v : Nat → Int32) (C B D E m A : Nat) : Prop := p_VH v C A ∧ p_VA v B m A ∧ (∀ c, c < C → p_VC1 v D c) ∧ ∀ b, b < B → p_VB1 v D E A b
def p_VR (v : Nat → Int32) (C B D : Nat) : Prop := p_VX v C B D D 0 (8 * D)
section PV
variable {v v' : Nat → Int32} {C B D E m A : Nat}
theorem p_VB1_congr {b b' : Nat} (h : ∀ i, i < 8 → v' (64 + 8 * b' + i) = v (64 + 8 * b + i)) (H : p_VB1 v D E A b) : p_VB1 v' D E A b' := by
  unfold p_VB1 at H ⊢
  rw [h 0 (by omega), h 1 (by omega), h 2 (by omega), h 3 (by omega), h 4 (by omega), h 6 (by omega), h 7 (by omega)]
  exact H
theorem p_VB1_le {D' E' A' b : Nat} (hD : D ≤ D') (hE : E ≤ E') (hA : A ≤ A') (H : p_VB1 v D E A b) : p_VB1 v D' E' A' b := by
  obtain ⟨t, l, w, a, k, s, h1, h2, e0, e1, e2, h3, e3, h4, e6, e7, q1, q2, q3, q4, q5, q6⟩ := H
  exact ⟨t, l, w, a, k, s, h1, h2, e0, e1, e2, h3, e3, by omega, e6, e7, q1, fun z => ⟨(q2 z).1, by have := (q2 z).2; omega⟩, q3, by omega, by omega, q6⟩
theorem p_VC1_congr {c c' : Nat} (h : ∀ i, 8 ≤ i → i < 12 → v' (16 + 12 * c' + i) = v (16 + 12 * c + i)) (H : p_VC1 v D c) : p_VC1 v' D c' := by
  unfold p_VC1 at H ⊢
  rw [h 8 (by omega) (by omega), h 9 (by omega) (by omega), h 10 (by omega) (by omega), h 11 (by omega) (by omega)]
  exact H
theorem p_VC1_le {D' c : Nat} (hD : D ≤ D') (H : p_VC1 v D c) : p_VC1 v D' c := by
  obtain ⟨r, g, x, y, h1, h2, h3⟩ := H
  exact ⟨r, g, x, y, h1, by omega, h3⟩
theorem p_VH_congr {A' : Nat} (hA : A ≤ A') (h1 : v' 1 = v 1) (h2 : v' 2 = v 2) (h4 : v' 4 = v 4) (h5 : v' 5 = v 5) (h7 : v' 7 = v 7) (h8 : v' 8 = v 8) (hc : ∀ c, c < C → v' (16 + 12 * c + 10) = v (16 + 12 * c + 10)) (H : p_VH v C A) : p_VH v' C A' := by
  obtain ⟨q1, q2, q3, q4, q5⟩ := H
  refine ⟨by rw [h1]; exact q1, by rw [h2]; exact q2, by rw [h4, h5, h7]; exact q3, ?_, ?_⟩
  · rw [p_hd_congr hc]; omega
  · rw [p_hd_congr hc, h8]; exact q5
theorem p_VA_congr {A' : Nat} (hA : A ≤ A') (h6 : v' 6 = v 6) (h : ∀ b, b < B → v' (64 + 8 * b + 3) = v (64 + 8 * b + 3)) (H : p_VA v B m A) : p_VA v' B m A' := by
  obtain ⟨a, q1, q2, q3⟩ := H
  exact ⟨a, by rw [p_cn_congr h]; exact q1, by omega, by rw [h6]; exact q3⟩
/-- the days of the stall don't matter for it -/
theorem p_VR_st {w : Nat} {x : Int32} (hw : w < 7) (H : p_VR v C B D) : p_VR (mv_vu v (9 + w) x) C B D := by
  obtain ⟨q1, q2, q3, q4⟩ := H
  refine ⟨p_VH_congr (Nat.le_refl _) (mv_vu_ne (by omega)) (mv_vu_ne (by omega)) (mv_vu_ne (by omega)) (mv_vu_ne (by omega)) (mv_vu_ne (by omega)) (mv_vu_ne (by omega)) (fun c hc => mv_vu_ne (by omega)) q1, p_VA_congr (Nat.le_refl _) (mv_vu_ne (by omega)) (fun b hb => mv_vu_ne (by omega)) q2, fun c hc => p_VC1_congr (fun i h1 h2 => mv_vu_ne (by omega)) (q3 c hc), fun b hb => p_VB1_congr (fun i hi => mv_vu_ne (by omega)) (q4 b hb)⟩
theorem p_VR_lo {d : Nat} (d1 : 1 ≤ d) (d2 : d ≤ 8) (H : p_VR v C B D) : p_VR (mv_vu v 1 (nI d)) C B D := by
  obtain ⟨⟨p1, p2, p3, p4, p5⟩, q2, q3, q4⟩ := H
  refine ⟨⟨⟨d, d1, d2, mv_vu_eq⟩, by rw [mv_vu_ne (by omega)]; exact p2, by rw [mv_vu_ne (by omega), mv_vu_ne (by omega), mv_vu_ne (by omega)]; exact p3, ?_, ?_⟩, p_VA_congr (Nat.le_refl _) (mv_vu_ne (by omega)) (fun b hb => mv_vu_ne (by omega)) q2, fun c hc => p_VC1_congr (fun i h1 h2 => mv_vu_ne (by omega)) (q3 c hc), fun b hb => p_VB1_congr (fun i hi => mv_vu_ne (by omega)) (q4 b hb)⟩
  · rw [p_hd_congr (fun c hc => mv_vu_ne (by omega))]; exact p4
  · rw [p_hd_congr (fun c hc => mv_vu_ne (by omega)), mv_vu_ne (by omega)]; exact p5
theorem p_VR_il {c g : Nat} (hC4 : C ≤ 4) (hc : c < C) (hg : g ≤ D + 31) (H : p_VR v C B D) : p_VR (mv_vu v (16 + 12 * c + 9) (nI g)) C B D := by
  obtain ⟨q1, q2, q3, q4⟩ := H
  refine ⟨p_VH_congr (Nat.le_refl _) (mv_vu_ne (by omega)) (mv_vu_ne (by omega)) (mv_vu_ne (by omega)) (mv_vu_ne (by omega)) (mv_vu_ne (by omega)) (mv_vu_ne (by omega)) (fun c hc => mv_vu_ne (by omega)) q1, p_VA_congr (Nat.le_refl _) (mv_vu_ne (by omega)) (fun b hb => mv_vu_ne (by omega)) q2, fun c' hc' => ?_, fun b hb => p_VB1_congr (fun i hi => mv_vu_ne (by omega)) (q4 b hb)⟩
  by_cases e : c' = c
  · subst e
    obtain ⟨r, g', x, y, h1, h2, h3, h4, e1, e2, e3, e4⟩ := q3 c' hc'
    exact ⟨r, g, x, y, h1, hg, h3, h4, by rw [mv_vu_ne (by omega)]; exact e1, mv_vu_eq, by rw [mv_vu_ne (by omega)]; exact e3, by rw [mv_vu_ne (by omega)]; exact e4⟩
  · exact p_VC1_congr (fun i h1 h2 => mv_vu_ne (by omega)) (q3 c' hc')
theorem p_VR_ro {c r : Nat} (hC4 : C ≤ 4) (hc : c < C) (hr : r ≤ 9) (H : p_VR v C B D) : p_VR (mv_vu v (16 + 12 * c + 8) (nI r)) C B D := by
  obtain ⟨q1, q2, q3, q4⟩ := H
  refine ⟨p_VH_congr (Nat.le_refl _) (mv_vu_ne (by omega)) (mv_vu_ne (by omega)) (mv_vu_ne (by omega)) (mv_vu_ne (by omega)) (mv_vu_ne (by omega)) (mv_vu_ne (by omega)) (fun c hc => mv_vu_ne (by omega)) q1, p_VA_congr (Nat.le_refl _) (mv_vu_ne (by omega)) (fun b hb => mv_vu_ne (by omega)) q2, fun c' hc' => ?_, fun b hb => p_VB1_congr (fun i hi => mv_vu_ne (by omega)) (q4 b hb)⟩
  by_cases e : c' = c
  · subst e
    obtain ⟨r', g', x, y, h1, h2, h3, h4, e1, e2, e3, e4⟩ := q3 c' hc'
    exact ⟨r, g', x, y, hr, h2, h3, h4, mv_vu_eq, by rw [mv_vu_ne (by omega)]; exact e2, by rw [mv_vu_ne (by omega)]; exact e3, by rw [mv_vu_ne (by omega)]; exact e4⟩
  · exact p_VC1_congr (fun i h1 h2 => mv_vu_ne (by omega)) (q3 c' hc')
/-- a promise -/
theorem p_AR0 (v : Nat → Int32) (C : Nat) (to lies : Int32) (n D : Nat) : mv_AR v C to lies (n + 1) 0 D = 1000000 ∨ (D + 2 ≤ mv_AR v C to lies (n + 1) 0 D ∧ mv_AR v C to lies (n + 1) 0 D ≤ D + (n + 1)) := by
  rw [mv_AR, Nat.zero_and, if_pos rfl]
  rcases mv_AR_rng v C to lies n (mv_st1 v C lies 0 (D + 1)) (D + 1) with h | h
  · exact Or.inl h
  · exact Or.inr (by omega)
theorem p_pp (v : Nat → Int32) (C D f t : Nat) (hD : D < 900000) : mv_pp v C D f t = mv_n4 ∨ ∃ q, D + 1 < q ∧ q ≤ D + 30 ∧ mv_pp v C D f t = nI q := by
  unfold mv_pp mv_oN
  have h := p_AR0 v C (nI t) (nI f) 29 D
  rw [show 29 + 1 = 30 from rfl] at h
  rcases h with h | h
  · exact Or.inl (by rw [if_pos (by rw [h])])
  · refine Or.inr ⟨mv_AR v C (nI t) (nI f) 30 0 D, by omega, by omega, ?_⟩
    rw [if_neg (fun z => by have := (mv_eq (by omega) (by omega)).mp z; omega)]
theorem p_VR_po {f t : Nat} (hV : mv_VV v C B D) (hB : B < 8) (hD : D < 900000) (hf : f < 6) (ht : t < 6) (ne : f ≠ t) (H : p_VR v C B D) : p_VR (mv_pw v B D f t (mv_pp v C D f t)) C (B + 1) D := by
  have hC4 := hV.2.2.2.1
  obtain ⟨⟨p1, p2, p3, p4, p5⟩, ⟨a, a1, a2, a3⟩, q3, q4⟩ := H
  have hp := p_pp v C D f t hD
  generalize mv_pp v C D f t = p at hp
  have lo : ∀ k, k < 64 + 8 * B → k ≠ 4 → k ≠ 5 → mv_pw v B D f t p k = v k := fun k h1 h2 h3 => by
    unfold mv_pw
    simp (disch := omega) only [mv_vu_ne]
  have g : ∀ i x, (i = 0 ∧ x = nI t) ∨ (i = 1 ∧ x = nI (f + 1)) ∨ (i = 2 ∧ x = nI 0) ∨ (i = 3 ∧ x = nI 0) ∨ (i = 4 ∧ x = p) ∨ (i = 6 ∧ x = nI 0) ∨ (i = 7 ∧ x = nI D) → mv_pw v B D f t p (64 + 8 * B + i) = x := by
    rintro i x (⟨rfl, rfl⟩ | ⟨rfl, rfl⟩ | ⟨rfl, rfl⟩ | ⟨rfl, rfl⟩ | ⟨rfl, rfl⟩ | ⟨rfl, rfl⟩ | ⟨rfl, rfl⟩) <;> (unfold mv_pw; simp (disch := omega) only [mv_vu_ne, mv_vu_eq])
  have g4 : mv_pw v B D f t p 4 = nI (B + 1) := by unfold mv_pw; simp (disch := omega) only [mv_vu_ne, mv_vu_eq]
  have g5 : mv_pw v B D f t p 5 = v 5 + nI 1 := by unfold mv_pw; simp (disch := omega) only [mv_vu_eq]
  refine ⟨⟨by rw [lo 1 (by omega) (by omega) (by omega)]; exact p1, by rw [lo 2 (by omega) (by omega) (by omega)]; exact p2, ?_, ?_, ?_⟩, ⟨a, ?_, a2, by rw [lo 6 (by omega) (by omega) (by omega)]; exact a3⟩, fun c hc => p_VC1_congr (fun i h1 h2 => lo _ (by omega) (by omega) (by omega)) (q3 c hc), fun b hb => ?_⟩
  · rw [g4, g5, lo 7 (by omega) (by omega) (by omega), p3, hV.2.2.1, ← nI_add, Int32.add_assoc, Int32.add_assoc, Int32.add_comm (v 7)]
  · rw [p_hd_congr (fun c hc => lo _ (by omega) (by omega) (by omega))]; exact p4
  · rw [p_hd_congr (fun c hc => lo _ (by omega) (by omega) (by omega)), lo 8 (by omega) (by omega) (by omega)]; exact p5
  · have e : p_cn (mv_pw v B D f t p) 3 (B + 1) = p_cn v 3 B := by
      show p_cn (mv_pw v B D f t p) 3 B + p_o (p_k (mv_pw v B D f t p) (64 + 8 * B + 3)) = _
      rw [p_cn_congr (fun b hb => lo _ (by omega) (by omega) (by omega)), p_k_of (g 3 (nI 0) (by simp)) (by omega), p_o0]
      rfl
    rw [e]; exact a1
  · by_cases e : b = B
    · subst e
      refine ⟨t, f + 1, 0, 0, 0, D, by omega, by omega, g 0 _ (by simp), g 1 _ (by simp), g 2 _ (by simp), by omega, g 3 _ (by simp), by omega, g 6 _ (by simp), g 7 _ (by simp), fun _ => ⟨by omega, rfl⟩, fun z => absurd rfl z, fun z => absurd rfl z, Nat.le_refl _, Nat.zero_le _, ?_⟩
      rw [g 4 p (by simp)]; exact hp
    · exact p_VB1_congr (fun i hi => lo _ (by omega) (by omega) (by omega)) (q4 b (by omega))
theorem p_VR_fo {b : Nat} (hV : mv_VV v C B D) (hb : b < B) (H : p_VR v C B D) : p_VR (mv_rv v b B) C (B - 1) D := by
  have hC4 := hV.2.2.2.1
  have hB8 := hV.2.2.2.2.1
  obtain ⟨⟨p1, p2, p3, p4, p5⟩, ⟨a, a1, a2, a3⟩, q3, q4⟩ := H
  have lo : ∀ k, k < 64 + 8 * b → k ≠ 4 → k ≠ 7 → mv_rv v b B k = v k := fun k h1 h2 h3 => by
    unfold mv_rv; rw [if_neg (by omega), if_neg h2, if_neg h3]
  have hi : ∀ b' i, b ≤ b' → b' < B - 1 → i < 8 → mv_rv v b B (64 + 8 * b' + i) = v (64 + 8 * (b' + 1) + i) := fun b' i h1 h2 h3 => by
    unfold mv_rv; rw [if_pos (by omega), if_pos (by omega)]; congr 1; omega
  have g4 : mv_rv v b B 4 = nI (B - 1) := by unfold mv_rv; rw [if_neg (by omega), if_pos rfl]
  have g7 : mv_rv v b B 7 = v 7 + nI 1 := by unfold mv_rv; rw [if_neg (by omega), if_neg (by omega), if_pos rfl]
  have cn : ∀ w, w < 8 → ∀ n, n ≤ B - 1 → p_cn (mv_rv v b B) w n + (if b < n then p_o (p_k v (64 + 8 * b + w)) else 0) = (if b < n then p_cn v w (n + 1) else p_cn v w n) := by
    intro w hw n
    induction n with
    | zero => intro _; rfl
    | succ n ih =>
      intro hn
      have ih := ih (by omega)
      have s1 : p_cn (mv_rv v b B) w (n + 1) = p_cn (mv_rv v b B) w n + p_o (p_k (mv_rv v b B) (64 + 8 * n + w)) := rfl
      have s2 : ∀ n, p_cn v w (n + 1) = p_cn v w n + p_o (p_k v (64 + 8 * n + w)) := fun _ => rfl
      rw [s1]
      by_cases h1 : b < n
      · rw [if_pos h1, if_pos h1] at ih
        rw [if_pos (by omega), if_pos (by omega), p_k_congr (hi n w (by omega) (by omega) hw)]
        unfold p_k at *
        have e1 := s2 (n + 1)
        omega
      · rw [if_neg h1, if_neg h1] at ih
        by_cases h2 : b = n
        · subst h2
          rw [if_pos (by omega), if_pos (by omega), p_k_congr (hi b w (by omega) (by omega) hw)]
          have e1 := s2 (b + 1)
          have e2 := s2 b
          unfold p_k at *
          omega
        · rw [if_neg (by omega), if_neg (by omega), p_k_congr (lo (64 + 8 * n + w) (by omega) (by omega) (by omega))]
          have e2 := s2 n
          unfold p_k at *
          omega
  have cn' : p_cn (mv_rv v b B) 3 (B - 1) ≤ p_cn v 3 B := by
    have e := cn 3 (by omega) (B - 1) (Nat.le_refl _)
    by_cases h : b < B - 1
    · rw [if_pos h, if_pos h, show B - 1 + 1 = B by omega] at e; omega
    · rw [if_neg h, if_neg h] at e
      have s2 : p_cn v 3 (B - 1 + 1) = p_cn v 3 (B - 1) + p_o (p_k v (64 + 8 * (B - 1) + 3)) := rfl
      rw [show B - 1 + 1 = B by omega] at s2
      omega
  refine ⟨⟨by rw [lo 1 (by omega) (by omega) (by omega)]; exact p1, by rw [lo 2 (by omega) (by omega) (by omega)]; exact p2, ?_, ?_, ?_⟩, ⟨a, by omega, a2, by rw [lo 6 (by omega) (by omega) (by omega)]; exact a3⟩, fun c hc => p_VC1_congr (fun i h1 h2 => lo _ (by omega) (by omega) (by omega)) (q3 c hc), fun b' hb' => ?_⟩
  · have e : nI B = nI (B - 1) + nI 1 := by rw [nI_add, show B - 1 + 1 = B by omega]
    rw [g4, g7, lo 5 (by omega) (by omega) (by omega), p3, hV.2.2.1, e, Int32.add_assoc, Int32.add_comm (nI 1)]
  · rw [p_hd_congr (fun c hc => lo _ (by omega) (by omega) (by omega))]; exact p4
  · rw [p_hd_congr (fun c hc => lo _ (by omega) (by omega) (by omega)), lo 8 (by omega) (by omega) (by omega)]; exact p5
  · by_cases h : b ≤ b'
    · exact p_VB1_congr (fun i hi' => hi b' i h hb' hi') (q4 (b' + 1) (by omega))
    · exact p_VB1_congr (fun i hi' => lo _ (by omega) (by omega) (by omega)) (q4 b' (by omega))
end PV
