theorem two_no {a b : Int32} (h : (a < 0 ∨ nI 6 ≤ a) ∨ (b < 0 ∨ nI 6 ≤ b) ∨ a = b) (k : mv_Hp) : F_X6_areTwoTowns a b k = some (nI 0, k) := by
  unfold F_X6_areTwoTowns J_X6_areTwoTowns_29 J_X6_areTwoTowns_30
  rw [li6, ev_rz (Or.inl rfl : (0 : Int32) = 0 ∨ (0 : Int32) = 1)]
  by_cases a1 : a < 0
  · rw [ev_t a1]; rfl
  by_cases a2 : nI 6 ≤ a
  · rw [ev_f a1, ev_t a2]; rfl
  by_cases b1 : b < 0
  · rw [ev_f a1, ev_f a2, ev_t b1]; rfl
  by_cases b2 : nI 6 ≤ b
  · rw [ev_f a1, ev_f a2, ev_f b1, ev_t b2]; rfl
  have e : a = b := by
    rcases h with (h | h) | (h | h) | h
    · exact absurd h a1
    · exact absurd h a2
    · exact absurd h b1
    · exact absurd h b2
    · exact h
  rw [ev_f a1, ev_f a2, ev_f b1, ev_f b2, ev_t e]; rfl
theorem two_yes {f t : Nat} (hf : f < 6) (ht : t < 6) (ne : f ≠ t) (k : mv_Hp) : F_X6_areTwoTowns (nI f) (nI t) k = some (nI 1, k) := by
  unfold F_X6_areTwoTowns J_X6_areTwoTowns_30
  rw [li6, ev_f (nI_pos (by omega)), ev_f (nI_ge (by omega) (by omega)), ev_f (nI_pos (by omega)), ev_f (nI_ge (by omega) (by omega)), ev_f (fun z => ne ((mv_eq (by omega) (by omega)).mp z)), ev_rz (Or.inr rfl)]
  rfl
theorem mo_isTown (x : Int32) (k : mv_Hp) : F_X7_isTown x k = some (if x < nI 0 then nI 0 else if nI 5 < x then nI 0 else nI 1, k) := by
  unfold F_X7_isTown
  rw [li0, li5, mo_in', ev_rz (by split; exact Or.inl rfl; split; exact Or.inl rfl; exact Or.inr rfl)]
  rfl
theorem mo_isTown' {β : Type} (x : Int32) (k : mv_Hp) {g : Int32 → mv_M β} : mv_bd (F_X7_isTown x) g k = g (if x < nI 0 then nI 0 else if nI 5 < x then nI 0 else nI 1) k := ev_bd (mo_isTown x k)
theorem way_no {a b : Int32} (h : (a < 0 ∨ nI 6 ≤ a) ∨ (b < 0 ∨ nI 6 ≤ b) ∨ a = b) (k : mv_Hp) : F_X7_isWay a b k = some (nI 0, k) := by
  unfold F_X7_isWay J_X7_isWay_23 J_X7_isWay_24
  rw [mo_isTown', ev_rz (Or.inl rfl : (0 : Int32) = 0 ∨ (0 : Int32) = 1), ev_rz (Or.inr rfl : (1 : Int32) = 0 ∨ (1 : Int32) = 1)]
  by_cases ha : a < 0 ∨ nI 6 ≤ a
  · rw [mv_in_no2 (n := 5) (by omega) ha, ev_t mv_z0]; rfl
  rcases mv_ix a (n := 6) (by omega) with h1 | ⟨f, hf, rfl⟩
  · exact absurd h1 ha
  rw [mv_in_yes2 (by omega) (by omega), ev_f mv_z1, mo_isTown']
  by_cases hb : b < 0 ∨ nI 6 ≤ b
  · rw [mv_in_no2 (n := 5) (by omega) hb, ev_t mv_z0]; rfl
  rcases mv_ix b (n := 6) (by omega) with h1 | ⟨t, ht, rfl⟩
  · exact absurd h1 hb
  rw [mv_in_yes2 (by omega) (by omega), ev_f mv_z1]
  have e : nI f = nI t := by
    rcases h with h | h | h
    · exact absurd h ha
    · exact absurd h hb
    · exact h
  rw [ev_t e]; rfl
theorem way_yes {f t : Nat} (hf : f < 6) (ht : t < 6) (ne : f ≠ t) (k : mv_Hp) : F_X7_isWay (nI f) (nI t) k = some (nI 1, k) := by
  unfold F_X7_isWay J_X7_isWay_24
  rw [mo_isTown', mv_in_yes2 (by omega) (by omega), ev_f mv_z1, mo_isTown', mv_in_yes2 (by omega) (by omega), ev_f mv_z1, ev_f (fun z => ne ((mv_eq (by omega) (by omega)).mp z)), ev_rz (Or.inr rfl)]
  rfl
theorem mv_two (a b : Int32) : ((a < 0 ∨ nI 6 ≤ a) ∨ (b < 0 ∨ nI 6 ≤ b) ∨ a = b) ∨ ∃ f t : Nat, f < 6 ∧ t < 6 ∧ f ≠ t ∧ a = nI f ∧ b = nI t := by
  rcases mv_ix a (n := 6) (by omega) with h1 | ⟨f, hf, rfl⟩
  · exact Or.inl (Or.inl h1)
  rcases mv_ix b (n := 6) (by omega) with h1 | ⟨t, ht, rfl⟩
  · exact Or.inl (Or.inr (Or.inl h1))
  by_cases e : f = t
  · subst e; exact Or.inl (Or.inr (Or.inr rfl))
  · exact Or.inr ⟨f, t, hf, ht, e, rfl, rfl⟩
theorem ag_19 : mv_Ag_19 mv_Inv := by
  intro a b d
  refine mv_A1_of (fun j h0 I hj hI => ?_)
  obtain ⟨D, C, B, hD, hDj, hS, hV, hP, hW⟩ := mv_un hj hI
  have hM := hS.2.1
  have hR := xo_R1 hS
  have hF := hS.2.2.2.1
  have hC4 := hV.2.2.2.1
  have e0 := hV.1
  rcases mv_two a b with h | ⟨f, t, hf, ht, ne, rfl, rfl⟩
  · refine ⟨mv_n1, h0, I, I, ?_, rfl, rfl, ?_, mv_lk0 hI⟩
    · unfold F_X6_ifPosted J_X6_ifPosted_18
      rw [ev_bd (two_no h _), ev_t mv_z0]; rfl
    · unfold F_X7_ifPosted J_X7_ifPosted_39 J_X7_ifPosted_40
      rw [ev_bd (way_no h _), ev_t mv_z0]; rfl
  rcases mv_ix d (n := 30 + 1) (by omega) with hd | ⟨n, hn, rfl⟩
  · refine ⟨mv_n1, h0, I, I, ?_, rfl, rfl, ?_, mv_lk0 hI⟩
    · unfold F_X6_ifPosted J_X6_ifPosted_18
      rw [ev_bd (two_yes hf ht ne _), ev_f mv_z1, li30]
      by_cases h1 : d < 0
      · rw [ev_t h1]; rfl
      · rw [ev_f h1, ev_f (mv_hi (by omega) (hd.resolve_left h1)).2]; rfl
    · unfold F_X7_ifPosted J_X7_ifPosted_39 J_X7_ifPosted_40
      rw [ev_bd (way_yes hf ht ne _), ev_f mv_z1, li30, li0, mo_in', mv_in_no2 (by omega) hd, ev_t rfl]; rfl
  obtain ⟨f2, g2, e⟩ := fo_ifLying hF (by omega) hR hW hV (show D + n < 100000 by omega) (show f ≤ 5 by omega) (show t ≤ 5 by omega)
  refine ⟨mv_pp (I 148) C (D + n) f t, h0, mv_fo I f2 g2, mv_fo I f2 g2, ?_, rfl, rfl, ?_, mv_lkf hI⟩
  · unfold F_X6_ifPosted
    rw [ev_bd (two_yes hf ht ne _), ev_f mv_z1, li30, ev_f (nI_pos (by omega)), ev_t (nI_le (by omega) (by omega)), xo_g5 hS, xo_g0 hS, xo_g0 hS, ro_gI hR, hW.1.2.2.1, e0, nI_add, fo_rc hF, ev_bd e]
    rfl
  · unfold F_X7_ifPosted J_X7_ifPosted_40
    rw [ev_bd (way_yes hf ht ne _), ev_f mv_z1, li30, li0, mo_in', mv_in_yes2 (by omega) (by omega), ev_f (show ¬ nI 1 = nI 0 by decide), mo_g0 hM, mo_r148 hM (by omega), mv_fo148, e0, nI_add, mo_rc hM, mo_arrivalOf' hM (by rw [mv_fo148]; exact hV.2.2.2.2.2.2.1) hC4 (by rw [mv_fo148]; exact hV.2.1) (by omega) (by omega), mv_fo148, mo_orNone']
    rfl
theorem mv_AR_rng (v : Nat → Int32) (C : Nat) (to lies : Int32) : ∀ n S D, mv_AR v C to lies n S D = 1000000 ∨ (D + 1 ≤ mv_AR v C to lies n S D ∧ mv_AR v C to lies n S D ≤ D + n)
  | 0, _, _ => Or.inl rfl
  | n + 1, S, D => by
    unfold mv_AR
    by_cases h : S &&& mv_tb v C to (D + 1) = 0
    · rw [if_pos h]
      rcases mv_AR_rng v C to lies n (mv_st1 v C lies S (D + 1)) (D + 1) with h | h
      · exact Or.inl h
      · exact Or.inr (by omega)
    · rw [if_neg h]; exact Or.inr (by omega)
def mv_bd1 (v : Nat → Int32) (C D f t : Nat) (c : Nat) (s : Int32 × Nat) : Int32 × Nat := if mv_AR v C (nI t) (nI f) 30 0 (D + c) - (D + c) < s.2 then (nI c, mv_AR v C (nI t) (nI f) 30 0 (D + c) - (D + c)) else s
theorem ag_20 : mv_Ag_20 mv_Inv := by
  intro a b
  refine mv_A1_of (fun j h0 I hj hI => ?_)
  obtain ⟨D, C, B, hD, hDj, hS, hV, hP, hW⟩ := mv_un hj hI
  have hM := hS.2.1
  have hR := xo_R1 hS
  have hF := hS.2.2.2.1
  have hC4 := hV.2.2.2.1
  have hB8 := hV.2.2.2.2.1
  have e0 := hV.1
  rcases mv_two a b with h | ⟨f, t, hf, ht, ne, rfl, rfl⟩
  · refine ⟨mv_n1, h0, I, I, ?_, rfl, rfl, ?_, mv_lk0 hI⟩
    · unfold F_X6_bestDay
      rw [ev_bd (two_no h _), ev_t mv_z0]; rfl
    · unfold F_X7_bestDay
      rw [ev_bd (way_no h _), ev_t mv_z0]; rfl
  have hW' : ∀ f g, mv_RV h0 (mv_fo I f g) 1 (I 148) C B := fun f g => mv_RV_fo (by omega) hR hC4 hB8 hW
  have s31 : ∀ c, (mv_it (mv_bd1 (I 148) C D f t) c 0 (mv_n4, 31)).2 ≤ 31 := by
    intro c
    induction c with
    | zero => exact Nat.le_refl _
    | succ c ih =>
      rw [mv_it_last]
      unfold mv_bd1
      split
      · next q => exact Nat.le_of_lt (Nat.lt_of_lt_of_le q ih)
      · exact ih
  have hX : ∃ f2 g2, F_X6_bestDay 0 (nI f) (nI t) (mv_hp h0 I) = some ((mv_it (mv_bd1 (I 148) C D f t) 14 0 (mv_n4, 31)).1, mv_hp h0 (mv_fo I f2 g2)) := by
    unfold F_X6_bestDay
    rw [ev_bd (two_yes hf ht ne _), ev_f mv_z1, li4, lin4, li2147483647, li0]
    obtain ⟨n, ⟨⟨x, y⟩, ⟨f2, g2⟩⟩, e1, hx, hy⟩ := mv_lp (L := fun n c (s : (Int32 × Nat) × (Nat → Int32) × (Nat → Int32)) => Lp_X6_bestDay_20 0 (nI f) (nI t) n s.1.1 (if s.1.2 = 31 then nI 2147483647 else nI s.1.2) (nI c) (mv_hp h0 (mv_fo I s.2.1 s.2.2))) (fun c s => s.1.1 = (mv_it (mv_bd1 (I 148) C D f t) c 0 (mv_n4, 31)).1 ∧ s.1.2 = (mv_it (mv_bd1 (I 148) C D f t) c 0 (mv_n4, 31)).2) 14 (by omega)
      (fun n c s hc hP => by
        obtain ⟨⟨x, y⟩, ⟨f1, g1⟩⟩ := s
        obtain ⟨p1, p2⟩ := hP
        dsimp only at p1 p2
        have e9 := mv_it_last (mv_bd1 (I 148) C D f t) c 0 (mv_n4, 31)
        rw [Nat.zero_add] at e9
        have h31 := s31 c
        have exy : mv_it (mv_bd1 (I 148) C D f t) c 0 (mv_n4, 31) = (x, y) := by rw [p1, p2]
        rw [exy] at e9 h31
        obtain ⟨f2, g2, e⟩ := fo_ifLying hF (by omega) hR (hW' f1 g1) hV (show D + c < 100000 by omega) (show f ≤ 5 by omega) (show t ≤ 5 by omega)
        rw [mv_fo_fo] at e
        dsimp only
        rw [Lp_X6_bestDay_20, li14, ev_f (nI_ge hc (by omega)), xo_g0 hS, ro_gI hR, (hW' f1 g1).1.2.2.1, e0, nI_add, ev_bpu, xo_g5 hS, xo_g0 hS, fo_rc hF, ev_bd e, li4, lin4]
        unfold J_X6_bestDay_83 mv_pp
        rcases mv_AR_rng (I 148) C (nI t) (nI f) 30 0 (D + c) with q | ⟨q1, q2⟩
        · rw [q, show mv_oN (nI 1000000) = mv_n4 from if_pos rfl, ev_t rfl, li1, nI_add]
          have : mv_bd1 (I 148) C D f t c (x, y) = (x, y) := by unfold mv_bd1; rw [q, if_neg]; show ¬ (1000000 - (D + c) < y); have : y ≤ 31 := h31; omega
          exact ⟨((x, y), (f2, g2)), rfl, by rw [e9, this], by rw [e9, this]⟩
        · have hoN : mv_oN (nI (mv_AR (I 148) C (nI t) (nI f) 30 0 (D + c))) = nI (mv_AR (I 148) C (nI t) (nI f) 30 0 (D + c)) := if_neg (fun z => by have := (mv_eq (by omega) (by omega)).mp z; omega)
          rw [hoN, ev_f (mv_n4_ne (by omega)), pk_sub (by omega)]
          have hle : ((if y = 31 then nI 2147483647 else nI y) ≤ nI (mv_AR (I 148) C (nI t) (nI f) 30 0 (D + c) - (D + c))) ↔ ¬ (mv_AR (I 148) C (nI t) (nI f) 30 0 (D + c) - (D + c) < y) := by
            by_cases h : y = 31
            · rw [if_pos h, mv_le (by omega) (by omega)]; omega
            · have : y ≤ 31 := h31
              rw [if_neg h, mv_le (by omega) (by omega)]; omega
          by_cases z : mv_AR (I 148) C (nI t) (nI f) 30 0 (D + c) - (D + c) < y
          · rw [ev_f (fun w => hle.mp w z), ev_bpu, li1, nI_add]
            have : mv_bd1 (I 148) C D f t c (x, y) = (nI c, mv_AR (I 148) C (nI t) (nI f) 30 0 (D + c) - (D + c)) := by unfold mv_bd1; rw [if_pos z]
            refine ⟨((nI c, mv_AR (I 148) C (nI t) (nI f) 30 0 (D + c) - (D + c)), (f2, g2)), ?_, by rw [e9, this], by rw [e9, this]⟩
            dsimp only
            rw [if_neg (by omega)]
          · rw [ev_t (hle.mpr z), li1, nI_add]
            have : mv_bd1 (I 148) C D f t c (x, y) = (x, y) := by unfold mv_bd1; rw [if_neg z]
            exact ⟨((x, y), (f2, g2)), rfl, by rw [e9, this], by rw [e9, this]⟩)
      ((mv_n4, 31), (I 145, I 146)) ⟨rfl, rfl⟩
    dsimp only at e1 hx hy
    rw [mv_fo_self, if_pos rfl] at e1
    rw [e1, Lp_X6_bestDay_20, li14, ev_t (nI_le (Nat.le_refl _) (by omega)), hx]
    exact ⟨f2, g2, rfl⟩
  obtain ⟨f2, g2, eX⟩ := hX
  refine ⟨_, h0, mv_fo I f2 g2, mv_fo I f2 g2, eX, rfl, rfl, ?_, mv_lkf hI⟩
  unfold F_X7_bestDay
  rw [ev_bd (way_yes hf ht ne _), ev_f mv_z1, li4, lin4, li31, li0]
  obtain ⟨n, ⟨x, y⟩, e1, hx⟩ := mv_lp (L := fun n c (s : Int32 × Nat) => Lp_X7_bestDay_20 147 (nI f) (nI t) n s.1 (nI s.2) (nI c) (mv_hp h0 (mv_fo I f2 g2))) (fun c s => s = mv_it (mv_bd1 (I 148) C D f t) c 0 (mv_n4, 31)) 14 (by omega)
    (fun n c s hc hP => by
      have h31 := s31 c
      have e9 := mv_it_last (mv_bd1 (I 148) C D f t) c 0 (mv_n4, 31)
      rw [Nat.zero_add] at e9
      rw [← hP] at e9 h31
      obtain ⟨x, y⟩ := s
      have hy : y ≤ 31 := h31
      dsimp only
      rw [Lp_X7_bestDay_20, li14, ev_f (nI_ge hc (by omega)), mo_g0 hM, li0, mo_r148 hM (by omega), mv_fo148, e0, nI_add, mo_rc hM, mo_arrivalOf' hM (by rw [mv_fo148]; exact hV.2.2.2.2.2.2.1) hC4 (by rw [mv_fo148]; exact hV.2.1) (by omega) (by omega), mv_fo148, mo_g0 hM, mo_r148 hM (by omega), mv_fo148, e0, ev_bpu]
      have hsub : nI (mv_AR (I 148) C (nI t) (nI f) 30 0 (D + c)) - nI D - nI c = nI (mv_AR (I 148) C (nI t) (nI f) 30 0 (D + c) - (D + c)) := by
        rcases mv_AR_rng (I 148) C (nI t) (nI f) 30 0 (D + c) with q | ⟨q1, q2⟩
        · rw [q, pk_sub (by omega), pk_sub (by omega), show 1000000 - D - c = 1000000 - (D + c) by omega]
        · rw [pk_sub (by omega), pk_sub (by omega), show mv_AR (I 148) C (nI t) (nI f) 30 0 (D + c) - D - c = mv_AR (I 148) C (nI t) (nI f) 30 0 (D + c) - (D + c) by omega]
      have hbig : mv_AR (I 148) C (nI t) (nI f) 30 0 (D + c) ≤ 1000000 := mv_AR_le _ _ _ _ _ _ _ (by omega)
      rw [hsub]
      unfold J_X7_bestDay_68 J_X7_bestDay_83
      by_cases z : mv_AR (I 148) C (nI t) (nI f) 30 0 (D + c) - (D + c) < y
      · have : mv_bd1 (I 148) C D f t c (x, y) = (nI c, mv_AR (I 148) C (nI t) (nI f) 30 0 (D + c) - (D + c)) := by unfold mv_bd1; rw [if_pos z]
        rw [ev_f (nI_ge z (by omega)), ev_f (nI_ge z (by omega)), li1, nI_add]
        exact ⟨(nI c, mv_AR (I 148) C (nI t) (nI f) 30 0 (D + c) - (D + c)), rfl, by rw [e9, this]⟩
      · have : mv_bd1 (I 148) C D f t c (x, y) = (x, y) := by unfold mv_bd1; rw [if_neg z]
        rw [ev_t (nI_le (by omega) (by omega)), ev_t (nI_le (by omega) (by omega)), li1, nI_add]
        exact ⟨(x, y), rfl, by rw [e9, this]⟩)
    (mv_n4, 31) rfl
  dsimp only at e1
  rw [e1, Lp_X7_bestDay_20, li14, ev_t (nI_le (Nat.le_refl _) (by omega)), ← hx]
  rfl
