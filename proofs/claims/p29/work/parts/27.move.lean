/-! the class's changes of a block; what stays outside it -/
def mv_fr (r : Nat) (I I' : Nat → Nat → Int32) : Prop := ∀ i, (i < r ∨ r + 20 ≤ i) → i ≠ 145 → i ≠ 146 → I' i = I i
theorem mv_fr_rfl {r : Nat} {I : Nat → Nat → Int32} : mv_fr r I I := fun _ _ _ _ => rfl
theorem mv_fr_trans {r : Nat} {I I' I2 : Nat → Nat → Int32} (h1 : mv_fr r I I') (h2 : mv_fr r I' I2) : mv_fr r I I2 := fun i a b c => (h2 i a b c).trans (h1 i a b c)
theorem mv_fr_si {r a : Nat} {I : Nat → Nat → Int32} {f : Nat → Int32} (h1 : r ≤ a) (h2 : a < r + 20) : mv_fr r I (mv_si I a f) := fun i h _ _ => mv_si_ne (by omega)
theorem mv_fr_fo {r : Nat} {I : Nat → Nat → Int32} {f g : Nat → Int32} : mv_fr r I (mv_fo I f g) := fun _ _ h1 h2 => mv_fo_ne h1 h2
theorem mv_vu_comm {v : Nat → Int32} {k j : Nat} {x y : Int32} (h : k ≠ j) : mv_vu (mv_vu v k x) j y = mv_vu (mv_vu v j y) k x := by
  funext i
  by_cases h1 : i = j
  · subst h1; rw [mv_vu_eq, mv_vu_ne (fun z => h z.symm), mv_vu_eq]
  · by_cases h2 : i = k
    · subst h2; rw [mv_vu_ne h1, mv_vu_eq, mv_vu_eq]
    · rw [mv_vu_ne h1, mv_vu_ne h2, mv_vu_ne h2, mv_vu_ne h1]
theorem mv_vu_vu {v : Nat → Int32} {k : Nat} {x y : Int32} : mv_vu (mv_vu v k x) k y = mv_vu v k y := by
  funext i
  by_cases h1 : i = k
  · subst h1; rw [mv_vu_eq, mv_vu_eq]
  · rw [mv_vu_ne h1, mv_vu_ne h1, mv_vu_ne h1]
theorem mv_vu_self {v : Nat → Int32} {k : Nat} : mv_vu v k (v k) = v := by
  funext i
  by_cases h1 : i = k
  · subst h1; rw [mv_vu_eq]
  · rw [mv_vu_ne h1]
section R1
variable {h0 : mv_Hp} {I : Nat → Nat → Int32} {r C B D : Nat} {v : Nat → Int32} {x y : Int32}
theorem mv_RV_r (hR : mv_RS h0 r) (hB : B ≤ 8) {k p : Nat} (hk : (k = 3 ∧ p = 3) ∨ (k = 4 ∧ p = 4) ∨ (k = 5 ∧ p = 0) ∨ (k = 6 ∧ p = 1) ∨ (k = 7 ∧ p = 2) ∨ (k = 8 ∧ p = 5) ∨ (k = 9 ∧ p = 6) ∨ (k = 10 ∧ p = 7) ∨ (k = 11 ∧ p = 8)) (hW : mv_RV h0 I r v C B) : mv_RV h0 (mv_si I r (mv_vu (I r) k x)) r (mv_vu v p x) C B := by
  obtain ⟨⟨a1, a2, a3, a4, a5, a6, a7, a8, a9⟩, w2, w3, w4⟩ := hW
  have hp : p < 9 := by omega
  refine ⟨?_, fun w hw => ?_, fun c hc => ?_, fun b hb => ?_⟩
  · rcases hk with ⟨rfl, rfl⟩ | ⟨rfl, rfl⟩ | ⟨rfl, rfl⟩ | ⟨rfl, rfl⟩ | ⟨rfl, rfl⟩ | ⟨rfl, rfl⟩ | ⟨rfl, rfl⟩ | ⟨rfl, rfl⟩ | ⟨rfl, rfl⟩ <;> (simp only [mv_si_eq]; refine ⟨?_, ?_, ?_, ?_, ?_, ?_, ?_, ?_, ?_⟩ <;> first | (rw [mv_vu_eq, mv_vu_eq]; done) | (rw [mv_vu_ne (by decide), mv_vu_ne (by decide)]; assumption))
  · rw [mv_si_ne (by omega), mv_vu_ne (by omega)]; exact w2 w hw
  · obtain ⟨q1, q2, q3, q4, q5, q6⟩ := w3 c hc
    unfold mv_RC
    rw [mv_si_ne (by omega), mv_si_ne (by omega), mv_vu_ne (by omega), mv_vu_ne (by omega), mv_vu_ne (by omega), mv_vu_ne (by omega), mv_vu_ne (by omega)]
    exact ⟨q1, q2, q3, q4, q5, fun j h1 h2 => by rw [mv_vu_ne (by omega)]; exact q6 j h1 h2⟩
  · obtain ⟨-, z1, z2, -⟩ := hR.2.2.2.2.2.2.2.2.1 b (by omega)
    unfold mv_RB
    rw [mv_si_ne (by omega), mv_vu_ne (by omega), mv_vu_ne (by omega), mv_vu_ne (by omega), mv_vu_ne (by omega), mv_vu_ne (by omega), mv_vu_ne (by omega), mv_vu_ne (by omega), mv_vu_ne (by omega)]
    exact w4 b hb
theorem mv_RV_w (hR : mv_RS h0 r) (hB : B ≤ 8) {k : Nat} (hk : k < 7) (hW : mv_RV h0 I r v C B) : mv_RV h0 (mv_si I (r + 1) (mv_vu (I (r + 1)) k x)) r (mv_vu v (9 + k) x) C B := by
  obtain ⟨⟨a1, a2, a3, a4, a5, a6, a7, a8, a9⟩, w2, w3, w4⟩ := hW
  refine ⟨?_, fun w hw => ?_, fun c hc => ?_, fun b hb => ?_⟩
  · rw [mv_si_ne (by omega), mv_vu_ne (by omega), mv_vu_ne (by omega), mv_vu_ne (by omega), mv_vu_ne (by omega), mv_vu_ne (by omega), mv_vu_ne (by omega), mv_vu_ne (by omega), mv_vu_ne (by omega), mv_vu_ne (by omega)]
    exact ⟨a1, a2, a3, a4, a5, a6, a7, a8, a9⟩
  · rw [mv_si_eq]
    by_cases e : w = k
    · subst e; rw [mv_vu_eq, mv_vu_eq]
    · rw [mv_vu_ne e, mv_vu_ne (by omega)]; exact w2 w hw
  · obtain ⟨q1, q2, q3, q4, q5, q6⟩ := w3 c hc
    unfold mv_RC
    rw [mv_si_ne (by omega), mv_si_ne (by omega), mv_vu_ne (by omega), mv_vu_ne (by omega), mv_vu_ne (by omega), mv_vu_ne (by omega), mv_vu_ne (by omega)]
    exact ⟨q1, q2, q3, q4, q5, fun j h1 h2 => by rw [mv_vu_ne (by omega)]; exact q6 j h1 h2⟩
  · obtain ⟨-, z1, z2, -⟩ := hR.2.2.2.2.2.2.2.2.1 b (by omega)
    unfold mv_RB
    rw [mv_si_ne (by omega), mv_vu_ne (by omega), mv_vu_ne (by omega), mv_vu_ne (by omega), mv_vu_ne (by omega), mv_vu_ne (by omega), mv_vu_ne (by omega), mv_vu_ne (by omega), mv_vu_ne (by omega)]
    exact w4 b hb
theorem mv_RV_c (hR : mv_RS h0 r) (hC : C ≤ 4) (hB : B ≤ 8) {c k : Nat} (hc : c < C) (hk : 2 ≤ k ∧ k < 6) (hW : mv_RV h0 I r v C B) : mv_RV h0 (mv_si I (r + 4 + 2 * c) (mv_vu (I (r + 4 + 2 * c)) k x)) r (mv_vu v (16 + 12 * c + (k + 6)) x) C B := by
  obtain ⟨⟨a1, a2, a3, a4, a5, a6, a7, a8, a9⟩, w2, w3, w4⟩ := hW
  refine ⟨?_, fun w hw => ?_, fun c' hc' => ?_, fun b hb => ?_⟩
  · rw [mv_si_ne (by omega), mv_vu_ne (by omega), mv_vu_ne (by omega), mv_vu_ne (by omega), mv_vu_ne (by omega), mv_vu_ne (by omega), mv_vu_ne (by omega), mv_vu_ne (by omega), mv_vu_ne (by omega), mv_vu_ne (by omega)]
    exact ⟨a1, a2, a3, a4, a5, a6, a7, a8, a9⟩
  · rw [mv_si_ne (by omega), mv_vu_ne (by omega)]; exact w2 w hw
  · obtain ⟨q1, q2, q3, q4, q5, q6⟩ := w3 c' hc'
    unfold mv_RC
    by_cases e : c' = c
    · subst e
      rw [mv_si_eq, mv_si_ne (by omega), mv_vu_ne (show 16 + 12 * c' + 0 ≠ 16 + 12 * c' + (k + 6) by omega), mv_vu_ne (show 1 ≠ k by omega)]
      have tail : ∀ j, j < 7 → j < (v (16 + 12 * c' + 0)).toNatClampNeg → I (r + 5 + 2 * c') j = mv_vu v (16 + 12 * c' + (k + 6)) x (16 + 12 * c' + (1 + j)) := fun j h1 h2 => by rw [mv_vu_ne (by omega)]; exact q6 j h1 h2
      rcases (show k = 2 ∨ k = 3 ∨ k = 4 ∨ k = 5 by omega) with rfl | rfl | rfl | rfl
      · exact ⟨q1, by rw [mv_vu_eq, mv_vu_eq], by rw [mv_vu_ne (by omega), mv_vu_ne (by omega)]; exact q3, by rw [mv_vu_ne (by omega), mv_vu_ne (by omega)]; exact q4, by rw [mv_vu_ne (by omega), mv_vu_ne (by omega)]; exact q5, tail⟩
      · exact ⟨q1, by rw [mv_vu_ne (by omega), mv_vu_ne (by omega)]; exact q2, by rw [mv_vu_eq, mv_vu_eq], by rw [mv_vu_ne (by omega), mv_vu_ne (by omega)]; exact q4, by rw [mv_vu_ne (by omega), mv_vu_ne (by omega)]; exact q5, tail⟩
      · exact ⟨q1, by rw [mv_vu_ne (by omega), mv_vu_ne (by omega)]; exact q2, by rw [mv_vu_ne (by omega), mv_vu_ne (by omega)]; exact q3, by rw [mv_vu_eq, mv_vu_eq], by rw [mv_vu_ne (by omega), mv_vu_ne (by omega)]; exact q5, tail⟩
      · exact ⟨q1, by rw [mv_vu_ne (by omega), mv_vu_ne (by omega)]; exact q2, by rw [mv_vu_ne (by omega), mv_vu_ne (by omega)]; exact q3, by rw [mv_vu_ne (by omega), mv_vu_ne (by omega)]; exact q4, by rw [mv_vu_eq, mv_vu_eq], tail⟩
    · rw [mv_si_ne (by omega), mv_si_ne (by omega), mv_vu_ne (by omega), mv_vu_ne (by omega), mv_vu_ne (by omega), mv_vu_ne (by omega), mv_vu_ne (by omega)]
      exact ⟨q1, q2, q3, q4, q5, fun j h1 h2 => by rw [mv_vu_ne (by omega)]; exact q6 j h1 h2⟩
  · obtain ⟨-, z1, z2, -⟩ := hR.2.2.2.2.2.2.2.2.1 b (by omega)
    unfold mv_RB
    rw [mv_si_ne (by omega), mv_vu_ne (by omega), mv_vu_ne (by omega), mv_vu_ne (by omega), mv_vu_ne (by omega), mv_vu_ne (by omega), mv_vu_ne (by omega), mv_vu_ne (by omega), mv_vu_ne (by omega)]
    exact w4 b hb
theorem mv_RV_b (hR : mv_RS h0 r) (hC : C ≤ 4) (hB : B ≤ 8) {b k : Nat} (hb : b < B) (hk : k < 8) (hx : x = if 1 ≤ k ∧ k ≤ 3 then mv_dn y else y) (hW : mv_RV h0 I r v C B) : mv_RV h0 (mv_si I (mv_bi h0 r b) (mv_vu (I (mv_bi h0 r b)) k x)) r (mv_vu v (64 + 8 * b + k) y) C B := by
  obtain ⟨⟨a1, a2, a3, a4, a5, a6, a7, a8, a9⟩, w2, w3, w4⟩ := hW
  obtain ⟨-, z1, z2, -⟩ := hR.2.2.2.2.2.2.2.2.1 b (by omega)
  refine ⟨?_, fun w hw => ?_, fun c' hc' => ?_, fun b' hb' => ?_⟩
  · rw [mv_si_ne (by omega), mv_vu_ne (by omega), mv_vu_ne (by omega), mv_vu_ne (by omega), mv_vu_ne (by omega), mv_vu_ne (by omega), mv_vu_ne (by omega), mv_vu_ne (by omega), mv_vu_ne (by omega), mv_vu_ne (by omega)]
    exact ⟨a1, a2, a3, a4, a5, a6, a7, a8, a9⟩
  · rw [mv_si_ne (by omega), mv_vu_ne (by omega)]; exact w2 w hw
  · obtain ⟨q1, q2, q3, q4, q5, q6⟩ := w3 c' hc'
    unfold mv_RC
    rw [mv_si_ne (by omega), mv_si_ne (by omega), mv_vu_ne (by omega), mv_vu_ne (by omega), mv_vu_ne (by omega), mv_vu_ne (by omega), mv_vu_ne (by omega)]
    exact ⟨q1, q2, q3, q4, q5, fun j h1 h2 => by rw [mv_vu_ne (by omega)]; exact q6 j h1 h2⟩
  · obtain ⟨p0, p1, p2, p3, p4, p5, p6, p7⟩ := w4 b' hb'
    unfold mv_RB
    by_cases e : b' = b
    · subst e
      rw [mv_si_eq]
      rcases (show k = 0 ∨ k = 1 ∨ k = 2 ∨ k = 3 ∨ k = 4 ∨ k = 5 ∨ k = 6 ∨ k = 7 by omega) with rfl | rfl | rfl | rfl | rfl | rfl | rfl | rfl <;> refine ⟨?_, ?_, ?_, ?_, ?_, ?_, ?_, ?_⟩ <;> first | (rw [mv_vu_eq, mv_vu_eq]; exact hx) | (rw [mv_vu_ne (by omega), mv_vu_ne (by omega)]; assumption)
    · have ne : mv_bi h0 r b' ≠ mv_bi h0 r b := fun z => e (hR.2.2.2.2.2.2.2.2.2 b' b (by omega) (by omega) z)
      rw [mv_si_ne ne, mv_vu_ne (by omega), mv_vu_ne (by omega), mv_vu_ne (by omega), mv_vu_ne (by omega), mv_vu_ne (by omega), mv_vu_ne (by omega), mv_vu_ne (by omega), mv_vu_ne (by omega)]
      exact ⟨p0, p1, p2, p3, p4, p5, p6, p7⟩
end R1
