section Q5
variable {h0 : mv_Hp} {I : Nat → Nat → Int32} {M : Nat} {sg : Nat → Nat}
theorem mv_enT (hin : ∀ k, sg k ≠ 0 → k < M) {i : Nat} (h : mv_faT sg i = none) : i + 1 ≤ mv_en sg i ∧ mv_en sg i ≤ M ∧ ¬ mv_nT sg i = 0 ∧ (sg (i + mv_nT sg i) = 42 → mv_Dg (sg (i + mv_nT sg i + 1)) = true) := by
  unfold mv_faT at h
  by_cases h1 : mv_nT sg i = 0
  · rw [if_pos h1] at h; cases h
  · rw [if_neg h1] at h
    by_cases h2 : sg (i + mv_nT sg i) = 42 ∧ ¬ mv_Dg (sg (i + mv_nT sg i + 1)) = true
    · rw [if_pos h2] at h; cases h
    · have hd : sg (i + mv_nT sg i) = 42 → mv_Dg (sg (i + mv_nT sg i + 1)) = true := fun z => by
        apply Classical.byContradiction
        intro w
        exact h2 ⟨z, w⟩
      refine ⟨?_, ?_, h1, hd⟩
      · unfold mv_en; split <;> omega
      · unfold mv_en
        by_cases h42 : sg (i + mv_nT sg i) = 42
        · rw [if_pos h42]
          have := hin (i + mv_nT sg i + 1) (fun z => by have := hd h42; rw [z] at this; exact absurd this (by decide))
          omega
        · rw [if_neg h42]
          have h3 := mv_tn_T sg 7 i (mv_nT sg i - 1) (by show mv_nT sg i - 1 < mv_nT sg i; omega)
          have := hin (i + (mv_nT sg i - 1)) (fun z => by rw [z] at h3; exact absurd h3 (by decide))
          omega
theorem mv_enL (hin : ∀ k, sg k ≠ 0 → k < M) {i : Nat} (h : mv_faL sg i = none) : i + 3 ≤ M ∧ mv_T (sg i) = true ∧ sg (i + 1) = 62 ∧ mv_T (sg (i + 2)) = true ∧ ¬ sg (i + 2) = sg i := by
  unfold mv_faL at h
  by_cases h1 : mv_T (sg i) = true
  · rw [if_neg (fun z => z h1)] at h
    by_cases h2 : sg (i + 1) = 62
    · rw [if_neg (fun z => z h2)] at h
      by_cases h3 : mv_T (sg (i + 2)) = true ∧ ¬ sg (i + 2) = sg i
      · have := hin (i + 2) (fun z => by have h4 := h3.1; rw [z] at h4; exact absurd h4 (by decide))
        exact ⟨by omega, h1, h2, h3.1, h3.2⟩
      · rw [if_pos h3] at h; cases h
    · rw [if_pos h2] at h; cases h
  · rw [if_pos h1] at h; cases h
theorem re_isT (hM : mv_MS h0) (hs : mv_SM I M sg) (h7 : I 147 7 = nI M) : ∃ f' g' ok', F_X7_isText 147 (nI 1) (mv_hp h0 I) = some (nI ok', mv_hp h0 (mv_tI I f' g')) ∧ (∀ k, k < 8 → f' k = I 147 k) ∧ ((mv_tx sg M 100 0).1 = none → ok' = 1 ∧ f' 10 = nI (mv_tx sg M 100 0).2 ∧ ∀ u, u < (mv_tx sg M 100 0).2 → mv_TR sg g' u (mv_stt (mv_en sg) u 0)) ∧ (∀ p, (mv_tx sg M 100 0).1 = some p → ok' = 0 ∧ f' 8 = nI p) := by
  have h60 := hs.1
  have r0 : mv_rs8 (mv_vu (mv_vu (mv_vu (I 147) 8 (nI 0)) 9 (nI 1)) 10 (nI 0)) M 0 1 0 := ⟨by rw [mv_vu_ne (by omega), mv_vu_ne (by omega), mv_vu_ne (by omega)]; exact h7, by rw [mv_vu_ne (by omega), mv_vu_ne (by omega), mv_vu_eq], by rw [mv_vu_ne (by omega), mv_vu_eq], mv_vu_eq, by omega⟩
  obtain ⟨f', g', ok', e, a1, a2, a3, a4⟩ := re_text (x1 := 1) (w := 9) (sep := 59) (T := F_X7_takesTour 147) (fa := mv_faT sg) (en := mv_en sg) (RD := mv_TR sg) hM hs (Or.inr ⟨rfl, rfl, rfl⟩) (fun f g i t h1 h2 h3 => re_tour2 hM hs h1 h2 h3)
    (fun g g' t i _ h hR => by
      have hn7 : mv_nT sg i ≤ 7 := mv_tn_le sg 7 i
      exact ⟨by rw [h _ (by omega)]; exact hR.1, fun j hj => by rw [h _ (by omega)]; exact hR.2.1 j hj, by rw [h _ (by omega)]; exact hR.2.2⟩)
    (fun i h => by have := mv_enT (fun k hk => mv_SM_in hs hk) h; exact ⟨this.1, this.2.1⟩) (by omega) 100 0 0 mv_FU _ (I 153) (by omega) (by omega) (by omega) (by decide) r0
  rw [← mv_tx_gx] at a3 a4
  refine ⟨f', g', ok', ?_, fun k hk => by rw [a1 k hk, mv_vu_ne (by omega), mv_vu_ne (by omega), mv_vu_ne (by omega)], fun h => ?_, a4⟩
  · unfold F_X7_isText
    have e' : mv_hp h0 (mv_tI I (mv_vu (mv_vu (mv_vu (I 147) 8 (nI 0)) 9 (nI 1)) 10 (nI 0)) (I 153)) = mv_hp h0 (mv_si (mv_si (mv_si I 147 (mv_vu (I 147) 8 (nI 0))) 147 (mv_vu (mv_vu (I 147) 8 (nI 0)) 9 (nI 1))) 147 (mv_vu (mv_vu (mv_vu (I 147) 8 (nI 0)) 9 (nI 1)) 10 (nI 0))) := by
      rw [mv_si_si, mv_si_si]
      have := mv_tI_s1 (I := I) (f := I 147) (g := I 153) (f' := mv_vu (mv_vu (mv_vu (I 147) 8 (nI 0)) 9 (nI 1)) 10 (nI 0))
      rw [mv_tI_self] at this
      rw [this]
    rw [li0, li1, mo_sI hM, mo_sZ hM (show nI 1 = 0 ∨ nI 1 = 1 from Or.inr rfl), mv_si_eq, mo_sI hM, mv_si_eq, ← e', e]
  · obtain ⟨b1, b2, b3⟩ := a3 h
    rw [Nat.zero_add] at b2
    exact ⟨b1, b2, fun u hu => by have := b3 u hu; rw [Nat.zero_add] at this; exact this⟩
theorem re_isL (hM : mv_MS h0) (hs : mv_SM I M sg) (h7 : I 147 7 = nI M) : ∃ f' g' ok', F_X7_isText 147 (nI 0) (mv_hp h0 I) = some (nI ok', mv_hp h0 (mv_tI I f' g')) ∧ (∀ k, k < 8 → f' k = I 147 k) ∧ ((mv_ly sg M 100 0).1 = none → ok' = 1 ∧ f' 10 = nI (mv_ly sg M 100 0).2 ∧ ∀ u, u < (mv_ly sg M 100 0).2 → mv_LR sg g' u (mv_stt (fun i => i + 3) u 0)) ∧ (∀ p, (mv_ly sg M 100 0).1 = some p → ok' = 0 ∧ f' 8 = nI p) := by
  have h60 := hs.1
  have r0 : mv_rs8 (mv_vu (mv_vu (mv_vu (I 147) 8 (nI 0)) 9 (nI 1)) 10 (nI 0)) M 0 1 0 := ⟨by rw [mv_vu_ne (by omega), mv_vu_ne (by omega), mv_vu_ne (by omega)]; exact h7, by rw [mv_vu_ne (by omega), mv_vu_ne (by omega), mv_vu_eq], by rw [mv_vu_ne (by omega), mv_vu_eq], mv_vu_eq, by omega⟩
  obtain ⟨f', g', ok', e, a1, a2, a3, a4⟩ := re_text (x1 := 0) (w := 2) (sep := 44) (T := F_X7_takesLetter 147) (fa := mv_faL sg) (en := fun i => i + 3) (RD := mv_LR sg) hM hs (Or.inl ⟨rfl, rfl, rfl⟩) (fun f g i t h1 h2 h3 => re_letter hM hs h1 h2 h3)
    (fun g g' t i _ h hR => ⟨by rw [h _ (by omega)]; exact hR.1, by rw [h _ (by omega)]; exact hR.2⟩)
    (fun i h => by have := mv_enL (fun k hk => mv_SM_in hs hk) h; exact ⟨by omega, this.1⟩) (by omega) 100 0 0 mv_FU _ (I 153) (by omega) (by omega) (by omega) (by decide) r0
  rw [← mv_ly_gx] at a3 a4
  refine ⟨f', g', ok', ?_, fun k hk => by rw [a1 k hk, mv_vu_ne (by omega), mv_vu_ne (by omega), mv_vu_ne (by omega)], fun h => ?_, a4⟩
  · unfold F_X7_isText
    have e' : mv_hp h0 (mv_tI I (mv_vu (mv_vu (mv_vu (I 147) 8 (nI 0)) 9 (nI 1)) 10 (nI 0)) (I 153)) = mv_hp h0 (mv_si (mv_si (mv_si I 147 (mv_vu (I 147) 8 (nI 0))) 147 (mv_vu (mv_vu (I 147) 8 (nI 0)) 9 (nI 1))) 147 (mv_vu (mv_vu (mv_vu (I 147) 8 (nI 0)) 9 (nI 1)) 10 (nI 0))) := by
      rw [mv_si_si, mv_si_si]
      have := mv_tI_s1 (I := I) (f := I 147) (g := I 153) (f' := mv_vu (mv_vu (mv_vu (I 147) 8 (nI 0)) 9 (nI 1)) 10 (nI 0))
      rw [mv_tI_self] at this
      rw [this]
    rw [li0, li1, mo_sI hM, mo_sZ hM (show nI 1 = 0 ∨ nI 1 = 1 from Or.inr rfl), mv_si_eq, mo_sI hM, mv_si_eq, ← e', e]
  · obtain ⟨b1, b2, b3⟩ := a3 h
    rw [Nat.zero_add] at b2
    exact ⟨b1, b2, fun u hu => by have := b3 u hu; rw [Nat.zero_add] at this; exact this⟩
end Q5
theorem mv_SM_of {I J : Nat → Nat → Int32} {M : Nat} {sg : Nat → Nat} (hs : mv_SG I M sg) (h : ∀ k, k < M → J 152 k = nI (sg k)) : mv_SM J M sg := ⟨hs.2.1, fun k hk => ⟨(hs.2.2.1 k hk).2.1, h k hk⟩, hs.2.2.2⟩
theorem mv_lkt {j : Nat} {h0 : mv_Hp} {I : Nat → Nat → Int32} {f g : Nat → Int32} (hI : mv_Inv j (mv_hp h0 I)) (hf : ∀ k, k < 8 → f k = I 147 k) : mv_Inv (j + 1) (mv_hp h0 (mv_tI I f g)) :=
  mv_look hI (fun i h1 _ _ _ => mv_tI_ne (by omega) (by omega)) (mv_tI_ne (by omega) (by omega)) (mv_tI_ne (by omega) (by omega)) (mv_tI_ne (by omega) (by omega)) (mv_tI_ne (by omega) (by omega)) (by rw [mv_tI_1]; exact hf 3 (by omega)) (by rw [mv_tI_1]; exact hf 5 (by omega)) (by rw [mv_tI_1]; exact hf 7 (by omega))
theorem ag_9 : mv_Ag_9 mv_Inv := by
  intro a
  refine mv_A1_of (fun j h0 I hj hI => ?_)
  obtain ⟨D, C, B, hD, hDj, hS, hV, hP, hW⟩ := mv_un hj hI
  obtain ⟨M, sg, hs, h152, h7⟩ := mv_un3 hI
  have hM := hS.2.1
  have hp := mv_PS_of hS
  have h60 := hs.2.1
  have hsm := mv_SM_of hs h152
  by_cases a0 : a = (0 : Int32)
  · obtain ⟨f', g', ok', e, b1, b2, b3⟩ := re_isT hM hsm h7
    refine ⟨mv_fv (mv_tx sg M 100 0).1, h0, I, mv_tI I f' g', ?_, rfl, rfl, ?_, mv_lkt hI b1⟩
    · unfold F_X6_fault J_X6_fault_11 J_X6_fault_32
      rw [ev_t a0, ev_t a0, xo_g4 hS, pa_rc hp, ev_bd (pa_tours hp hs)]
      rfl
    · unfold F_X7_fault J_X7_fault_21 J_X7_fault_36
      have hb' : (if a < nI 0 then nI 0 else if nI 1 < a then nI 0 else nI 1) = nI 1 := by rw [show a = nI 0 from a0]; decide
      rw [li0, li1, mo_in', hb', ev_f (by decide), ev_t (show a = nI 0 from a0), mo_rc hM, ev_bd e]
      cases h : (mv_tx sg M 100 0).1 with
      | none => rw [(b2 h).1, ev_f (by decide)]; rfl
      | some p => obtain ⟨c1, c2⟩ := b3 p h; rw [c1, ev_t rfl, mo_gI hM, mv_tI_1, c2]; rfl
  by_cases a1 : a = (1 : Int32)
  · obtain ⟨f', g', ok', e, b1, b2, b3⟩ := re_isL hM hsm h7
    refine ⟨mv_fv (mv_ly sg M 100 0).1, h0, I, mv_tI I f' g', ?_, rfl, rfl, ?_, mv_lkt hI b1⟩
    · unfold F_X6_fault J_X6_fault_11 J_X6_fault_32
      rw [ev_f a0, ev_t a1, ev_f a0, xo_g4 hS, pa_rc hp, ev_bd (pa_letters hp hs)]
      rfl
    · unfold F_X7_fault J_X7_fault_21 J_X7_fault_36
      have hb' : (if a < nI 0 then nI 0 else if nI 1 < a then nI 0 else nI 1) = nI 1 := by rw [show a = nI 1 from a1]; decide
      rw [li0, li1, mo_in', hb', ev_f (by decide), ev_f (show ¬ a = nI 0 from a0), mo_rc hM, ev_bd e]
      cases h : (mv_ly sg M 100 0).1 with
      | none => rw [(b2 h).1, ev_f (by decide)]; rfl
      | some p => obtain ⟨c1, c2⟩ := b3 p h; rw [c1, ev_t rfl, mo_gI hM, mv_tI_1, c2]; rfl
  · refine ⟨mv_n1, h0, I, I, ?_, rfl, rfl, ?_, mv_lk0 hI⟩
    · unfold F_X6_fault
      rw [ev_f a0, ev_f a1]; rfl
    · have hb' : (if a < nI 0 then nI 0 else if nI 1 < a then nI 0 else nI 1) = nI 0 := by
        refine mv_in_no2 (n := 1) (by omega) ?_
        rcases mv_ix a (n := 1 + 1) (by omega) with h | ⟨k, hk, rfl⟩
        · exact h
        · rcases (show k = 0 ∨ k = 1 by omega) with rfl | rfl
          · exact absurd rfl a0
          · exact absurd rfl a1
      unfold F_X7_fault
      rw [li0, li1, mo_in', hb', ev_t rfl]; rfl
