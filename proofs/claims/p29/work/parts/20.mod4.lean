/-- the places of a vector on which its validity rests -/
def mv_rel (k : Nat) : Prop := k = 0 ∨ k = 3 ∨ k = 4 ∨ (9 ≤ k ∧ k < 16) ∨ (16 ≤ k ∧ k < 64 ∧ (k - 16) % 12 < 8) ∨ (64 ≤ k ∧ ((k - 64) % 8 < 4 ∨ (k - 64) % 8 = 5))
theorem mv_VC_congr {v v' : Nat → Int32} {C : Nat} (hC : C ≤ 4) (hV : mv_VC v C) (h : ∀ k, 16 ≤ k → k < 64 → (k - 16) % 12 < 8 → v' k = v k) : mv_VC v' C := by
  intro c hc
  obtain ⟨n, h1, h7, e, ht⟩ := hV c hc
  refine ⟨n, h1, h7, by rw [h _ (by omega) (by omega) (by omega)]; exact e, fun j hj => ?_⟩
  obtain ⟨t, ht1, ht2⟩ := ht j hj
  exact ⟨t, ht1, by rw [h _ (by omega) (by omega) (by omega)]; exact ht2⟩
theorem mv_VV_b {v v' : Nat → Int32} {C B D b : Nat} (hV : mv_VV v C B D) (h : ∀ k, mv_rel k → k ≠ 64 + 8 * b + 1 → k ≠ 64 + 8 * b + 2 → k ≠ 64 + 8 * b + 3 → k ≠ 64 + 8 * b + 5 → v' k = v k)
    (hb : b < B → ∃ l w a, l ≤ 6 ∧ w ≤ C ∧ a ≤ D + 1 ∧ v' (64 + 8 * b + 1) = nI l ∧ v' (64 + 8 * b + 2) = nI w ∧ v' (64 + 8 * b + 3) = nI a ∧ ((l ≠ 0 ∧ w = 0 ∧ a = 0) ∨ (l = 0 ∧ w ≠ 0 ∧ a = 0) ∨ (l = 0 ∧ w = 0 ∧ a ≠ 0))) (h5 : b < B → v' (64 + 8 * b + 5) = nI 0 ∨ v' (64 + 8 * b + 5) = nI 1) : mv_VV v' C B D := by
  obtain ⟨e0, e3, e4, hC4, hB8, hW, hVC, hVB⟩ := hV
  have g : ∀ k, k < 64 → mv_rel k → v' k = v k := fun k hk hr => h k hr (by omega) (by omega) (by omega) (by omega)
  refine ⟨by rw [g 0 (by omega) (by unfold mv_rel; omega)]; exact e0, by rw [g 3 (by omega) (by unfold mv_rel; omega)]; exact e3, by rw [g 4 (by omega) (by unfold mv_rel; omega)]; exact e4, hC4, hB8, fun w hw => ?_, mv_VC_congr hC4 hVC (fun k h1 h2 h3 => g k h2 (by unfold mv_rel; omega)), fun b' hb' => ?_⟩
  · obtain ⟨t, h1, h2⟩ := hW w hw
    exact ⟨t, h1, by rw [g _ (by omega) (by unfold mv_rel; omega)]; exact h2⟩
  · obtain ⟨⟨t, t1, t2⟩, ⟨l, w, a, q1, q2, q3, q4, q5, q6, q7⟩, p5⟩ := hVB b' hb'
    by_cases e : b' = b
    · subst e
      exact ⟨⟨t, t1, by rw [h _ (by unfold mv_rel; omega) (by omega) (by omega) (by omega) (by omega)]; exact t2⟩, hb hb', h5 hb'⟩
    · exact ⟨⟨t, t1, by rw [h _ (by unfold mv_rel; omega) (by omega) (by omega) (by omega) (by omega)]; exact t2⟩, ⟨l, w, a, q1, q2, q3, by rw [h _ (by unfold mv_rel; omega) (by omega) (by omega) (by omega) (by omega)]; exact q4, by rw [h _ (by unfold mv_rel; omega) (by omega) (by omega) (by omega) (by omega)]; exact q5, by rw [h _ (by unfold mv_rel; omega) (by omega) (by omega) (by omega) (by omega)]; exact q6, q7⟩, by rw [h _ (by unfold mv_rel; omega) (by omega) (by omega) (by omega) (by omega)]; exact p5⟩
theorem mv_VV_of {v v' : Nat → Int32} {C B D : Nat} (hV : mv_VV v C B D) (h : ∀ k, mv_rel k → v' k = v k) : mv_VV v' C B D :=
  mv_VV_b (b := B) hV (fun k hr _ _ _ _ => h k hr) (fun z => absurd z (Nat.lt_irrefl _)) (fun z => absurd z (Nat.lt_irrefl _))
theorem mv_ch1_ne {v : Nat → Int32} {b c k : Nat} (hc : c < 4) (hr : mv_rel k) (h1 : k ≠ 64 + 8 * b + 1) (h2 : k ≠ 64 + 8 * b + 2) : mv_ch1 v b c k = v k := by
  unfold mv_rel at hr
  unfold mv_ch1
  rw [mv_vu_ne (by omega), mv_vu_ne (by omega), mv_vu_ne (by omega), mv_vu_ne (by omega), mv_vu_ne (by omega), mv_vu_ne (by omega)]
theorem mv_VV_chg {v : Nat → Int32} {C B D b c : Nat} (hV : mv_VV v C B D) (hb : b < B) (hc : c < C) (ha : v (64 + 8 * b + 3) = nI 0) : mv_VV (mv_chg v b c) C B D := by
  have hC4 := hV.2.2.2.1
  have hB8 := hV.2.2.2.2.1
  have hVB := hV.2.2.2.2.2.2.2
  obtain ⟨-, -, p5⟩ := hVB b hb
  have e1 : mv_ch1 v b c (64 + 8 * b + 1) = nI 0 := by unfold mv_ch1; simp (disch := omega) only [mv_vu_ne, mv_vu_eq]
  have e2 : mv_ch1 v b c (64 + 8 * b + 2) = nI (c + 1) := by unfold mv_ch1; simp (disch := omega) only [mv_vu_ne, mv_vu_eq]
  have e3 : mv_ch1 v b c (64 + 8 * b + 3) = nI 0 := by unfold mv_ch1; simp (disch := omega) only [mv_vu_ne, mv_vu_eq]; exact ha
  have e5 : mv_ch1 v b c (64 + 8 * b + 5) = v (64 + 8 * b + 5) := by unfold mv_ch1; simp (disch := omega) only [mv_vu_ne, mv_vu_eq]
  have h1 : mv_VV (mv_ch1 v b c) C B D := mv_VV_b (b := b) hV (fun k hr h1 h2 _ _ => mv_ch1_ne (by omega) hr h1 h2) (fun _ => ⟨0, c + 1, 0, by omega, by omega, by omega, e1, e2, e3, by omega⟩) (fun _ => by rw [e5]; exact p5)
  unfold mv_chg
  split
  · exact h1
  · split
    · refine mv_VV_b (b := b) h1 (fun k hr q1 q2 q3 q5 => by unfold mv_rel at hr; rw [mv_vu_ne (by omega), mv_vu_ne (by omega)]) (fun _ => ⟨0, c + 1, 0, by omega, by omega, by omega, ?_, ?_, ?_, by omega⟩) (fun _ => Or.inr ?_)
      · rw [mv_vu_ne (by omega), mv_vu_ne (by omega)]; exact e1
      · rw [mv_vu_ne (by omega), mv_vu_ne (by omega)]; exact e2
      · rw [mv_vu_ne (by omega), mv_vu_ne (by omega)]; exact e3
      · rw [mv_vu_ne (by omega), mv_vu_eq]
    · exact h1
theorem mv_gl_lt {v : Nat → Int32} {C B b D : Nat} : ∀ x, (mv_gl v C B b D).1 = some x → x < C := by
  have key : ∀ (k c : Nat) (s : Option Nat × Nat), c + k = C → (∀ x, s.1 = some x → x < C) → ∀ x, (mv_it (mv_gf v C B b D) k c s).1 = some x → x < C := by
    intro k
    induction k with
    | zero => intro c s _ h x hx; exact h x hx
    | succ k ih =>
      intro c s hc h x hx
      refine ih (c + 1) (mv_gf v C B b D c s) (by omega) (fun y hy => ?_) x hx
      unfold mv_gf at hy
      split at hy
      · exact h y hy
      · have : c = y := Option.some.inj hy
        omega
  exact key C 0 _ (by omega) (fun x h => by cases h)
theorem mv_VV_go {v : Nat → Int32} {C B D b : Nat} (hV : mv_VV v C B D) (hb : b < B) (ha : v (64 + 8 * b + 3) = nI 0) : mv_VV (mv_go v C B b D) C B D := by
  unfold mv_go
  cases e : (mv_gl v C B b D).1 with
  | none => exact hV
  | some c => exact mv_VV_chg hV hb (mv_gl_lt c e) ha
/-- one bundle on a day; a day; days -/
def mv_df (C B D : Nat) (b : Nat) (s : Nat × (Nat → Int32)) : Nat × (Nat → Int32) :=
  if nI 0 ≤ s.2 (64 + 8 * b + 2) - nI 1 ∧ mv_tw s.2 ((s.2 (64 + 8 * b + 2)).toNatClampNeg - 1) D = s.2 (64 + 8 * b + 0) then (s.1 + 1, mv_vu (mv_vu s.2 (64 + 8 * b + 2) (nI 0)) (64 + 8 * b + 3) (nI (D + 1)))
  else if s.2 (64 + 8 * b + 3) = nI 0 then (s.1, mv_go s.2 C B b D) else s
def mv_dl (C B D : Nat) (v : Nat → Int32) : Nat × (Nat → Int32) := mv_it (mv_df C B D) B 0 (0, mv_vu v 0 (nI D))
def mv_dy (C B D : Nat) (v : Nat → Int32) : Nat × (Nat → Int32) := ((mv_dl C B D v).1, mv_vu (mv_dl C B D v).2 6 ((mv_dl C B D v).2 6 + nI (mv_dl C B D v).1))
def mv_ds (C B : Nat) (_ : Nat) (s : Nat × Nat × (Nat → Int32)) : Nat × Nat × (Nat → Int32) := (s.1 + 1, s.2.1 + (mv_dy C B (s.1 + 1) s.2.2).1, (mv_dy C B (s.1 + 1) s.2.2).2)
def mv_ps (C B D n : Nat) (v : Nat → Int32) : Nat × Nat × (Nat → Int32) := mv_it (mv_ds C B) n 0 (D, 0, v)
theorem mv_w_cases {w : Nat} (hw : w ≤ 4) : (w = 0 ∧ nI w - nI 1 = mv_n1) ∨ (1 ≤ w ∧ nI w - nI 1 = nI (w - 1)) := by
  rcases Nat.eq_zero_or_pos w with rfl | h
  · exact Or.inl ⟨rfl, by decide⟩
  · exact Or.inr ⟨h, pk_sub h⟩
theorem mv_VV_df {C B D b : Nat} {s : Nat × (Nat → Int32)} (hV : mv_VV s.2 C B D) (hb : b < B) : mv_VV (mv_df C B D b s).2 C B D := by
  have hB8 := hV.2.2.2.2.1
  have hVB := hV.2.2.2.2.2.2.2
  obtain ⟨-, ⟨l, w, a, q1, q2, q3, q4, q5, q6, q7⟩, p5⟩ := hVB b hb
  unfold mv_df
  split
  · next hc =>
    have hw : w ≠ 0 := by
      rintro rfl
      rw [q5] at hc
      exact absurd hc.1 (by decide)
    show mv_VV (mv_vu (mv_vu s.2 (64 + 8 * b + 2) (nI 0)) (64 + 8 * b + 3) (nI (D + 1))) C B D
    refine mv_VV_b (b := b) hV (fun k hr h1 h2 h3 h5 => by rw [mv_vu_ne h3, mv_vu_ne h2]) (fun _ => ⟨0, 0, D + 1, by omega, by omega, by omega, ?_, ?_, ?_, by omega⟩) (fun _ => ?_)
    · rw [mv_vu_ne (by omega), mv_vu_ne (by omega), q4, show l = 0 by omega]
    · rw [mv_vu_ne (by omega), mv_vu_eq]
    · rw [mv_vu_eq]
    · rw [mv_vu_ne (by omega), mv_vu_ne (by omega)]; exact p5
  · split
    · next hc => exact mv_VV_go hV hb hc
    · exact hV
theorem mv_VV_day {v : Nat → Int32} {C B D : Nat} (hV : mv_VV v C B D) : mv_VV (mv_vu v 0 (nI (D + 1))) C B (D + 1) := by
  obtain ⟨e0, e3, e4, hC4, hB8, hW, hVC, hVB⟩ := hV
  refine ⟨mv_vu_eq, by rw [mv_vu_ne (by omega)]; exact e3, by rw [mv_vu_ne (by omega)]; exact e4, hC4, hB8, fun w hw => ?_, mv_VC_congr hC4 hVC (fun k h1 h2 h3 => mv_vu_ne (by omega)), fun b hb => ?_⟩
  · obtain ⟨t, h1, h2⟩ := hW w hw
    exact ⟨t, h1, by rw [mv_vu_ne (by omega)]; exact h2⟩
  · obtain ⟨⟨t, t1, t2⟩, ⟨l, w, a, q1, q2, q3, q4, q5, q6, q7⟩, p5⟩ := hVB b hb
    exact ⟨⟨t, t1, by rw [mv_vu_ne (by omega)]; exact t2⟩, ⟨l, w, a, q1, q2, by omega, by rw [mv_vu_ne (by omega)]; exact q4, by rw [mv_vu_ne (by omega)]; exact q5, by rw [mv_vu_ne (by omega)]; exact q6, q7⟩, by rw [mv_vu_ne (by omega)]; exact p5⟩
theorem mv_VV_it {C B D : Nat} : ∀ (k b : Nat) (s : Nat × (Nat → Int32)), b + k = B → mv_VV s.2 C B D → mv_VV (mv_it (mv_df C B D) k b s).2 C B D
  | 0, _, _, _, h => h
  | k + 1, b, s, hb, h => mv_VV_it k (b + 1) (mv_df C B D b s) (by omega) (mv_VV_df h (by omega))
theorem mv_VV_dl {v : Nat → Int32} {C B D : Nat} (hV : mv_VV v C B D) : mv_VV (mv_dl C B (D + 1) v).2 C B (D + 1) := mv_VV_it B 0 _ (by omega) (mv_VV_day hV)
theorem mv_VV_dy {v : Nat → Int32} {C B D : Nat} (hV : mv_VV v C B D) : mv_VV (mv_dy C B (D + 1) v).2 C B (D + 1) := mv_VV_of (mv_VV_dl hV) (fun k hr => by unfold mv_rel at hr; exact mv_vu_ne (by omega))
theorem mv_ps_D {C B : Nat} : ∀ (k c : Nat) (s : Nat × Nat × (Nat → Int32)), (mv_it (mv_ds C B) k c s).1 = s.1 + k
  | 0, _, _ => rfl
  | k + 1, c, s => by
    show (mv_it (mv_ds C B) k (c + 1) (mv_ds C B c s)).1 = _
    rw [mv_ps_D k (c + 1)]
    show s.1 + 1 + k = _
    omega
theorem mv_VV_ps {C B : Nat} : ∀ (k c : Nat) (s : Nat × Nat × (Nat → Int32)), mv_VV s.2.2 C B s.1 → mv_VV (mv_it (mv_ds C B) k c s).2.2 C B (s.1 + k)
  | 0, _, _, h => h
  | k + 1, c, s, h => by
    have e := mv_VV_ps k (c + 1) (mv_ds C B c s) (mv_VV_dy h)
    rw [show s.1 + (k + 1) = (mv_ds C B c s).1 + k by show s.1 + (k + 1) = s.1 + 1 + k; omega]
    exact e
section M5
variable {h0 : mv_Hp} {I : Nat → Nat → Int32} {C B D : Nat} {β : Type}
end M5
