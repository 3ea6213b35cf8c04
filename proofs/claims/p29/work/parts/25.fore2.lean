theorem mv_dec {a : Nat} : nI (a + 1) + (-1 : Int32) = nI a := by
  rw [← Int32.sub_eq_add_neg, li1, pk_sub (by omega)]; rfl
theorem mv_sw_t {v : Nat → Int32} {C B D : Nat} (hV : mv_VV v C B D) (D1 : Nat) : ∃ t, t ≤ 6 ∧ mv_sw v D1 = nI t := hV.2.2.2.2.2.1 (D1 % 7) (Nat.mod_lt _ (by decide))
theorem mv_sw_ok {v : Nat → Int32} {C B D : Nat} (hV : mv_VV v C B D) (D1 : Nat) : mv_ok (mv_sw v D1) := by
  obtain ⟨t, h1, h2⟩ := mv_sw_t hV D1
  rw [h2]; exact mv_ok_nI (by omega)
theorem mv_tc_val {v : Nat → Int32} {C B D : Nat} (hV : mv_VV v C B D) (c D1 : Nat) : mv_tc v C c D1 = mv_n1 ∨ ∃ t, t ≤ 5 ∧ mv_tc v C c D1 = nI t := by
  unfold mv_tc
  by_cases hc : c < C
  · rw [if_pos hc]
    obtain ⟨n, h1, h7, e, ht⟩ := hV.2.2.2.2.2.2.1 c hc
    by_cases ha : v (16 + 12 * c + 9) ≤ nI D1
    · rw [if_pos ha, e, nI_clamp (by omega)]
      obtain ⟨t, h5, h6⟩ := ht (D1 % n) (Nat.mod_lt _ (by omega))
      exact Or.inr ⟨t, h5, h6⟩
    · rw [if_neg ha]; exact Or.inl rfl
  · rw [if_neg hc]; exact Or.inl rfl
theorem mv_tbc_tb {v : Nat → Int32} {C D : Nat} {t : Int32} (ht : mv_ok t) : mv_tbc v C t D = mv_tb v C t D := by
  apply Nat.eq_of_testBit_eq
  intro c
  unfold mv_tbc mv_tb
  rw [mv_bits_test, mv_bits_test]
  have := mv_tc_tw (v := v) (C := C) (c := c) (D := D) ht
  by_cases hc : c < C
  · by_cases h : mv_tc v C c D = t
    · simp [h, (this.mp h).2]
    · have h2 : ¬ mv_tw v c D = t := fun z => h (this.mpr ⟨hc, z⟩)
      simp [h, h2]
  · simp [hc]
theorem mv_tbc_n4 {v : Nat → Int32} {C B D D1 : Nat} (hV : mv_VV v C B D) : mv_tbc v C mv_n4 D1 = 0 := by
  apply Nat.eq_of_testBit_eq
  intro c
  unfold mv_tbc
  rw [mv_bits_test, Nat.zero_testBit]
  have : ¬ mv_tc v C c D1 = mv_n4 := by
    rcases mv_tc_val hV c D1 with h | ⟨t, h1, h2⟩
    · rw [h]; decide
    · rw [h2]; exact mv_n4_ne (by omega)
  simp [this]
def mv_LO (v : Nat → Int32) (C b D : Nat) : (Nat → Nat) × Nat := mv_LB v C (mv_dn (v (64 + 8 * b + 1))) (v (64 + 8 * b + 0)) 30 D
section F2
variable {β : Type} {h0 : mv_Hp} {I : Nat → Nat → Int32} {r C B D : Nat} {v : Nat → Int32}
theorem fo_fill (hF : mv_FS h0) {f g : Nat → Int32} : ∃ g', F_J7_fill_53178 (some 146) (nI 2147483647) (mv_hp h0 (mv_fo I f g)) = some ((), mv_hp h0 (mv_fo I f g')) ∧ ∀ c, c < 4 → g' c = nI 2147483647 := by
  unfold F_J7_fill_53178
  rw [fo_l hF, li0]
  obtain ⟨n, g1, e1, h1⟩ := mv_lp (L := fun n c (g : Nat → Int32) => Lp_J7_fill_53178_5 (some 146) (nI 2147483647) (nI 4) n (nI c) (mv_hp h0 (mv_fo I f g))) (fun c g => ∀ i, i < c → g i = nI 2147483647) 4 (by omega)
    (fun n c g hc hP => by
      rw [Lp_J7_fill_53178_5, ev_f (nI_ge hc (by omega)), fo_s hF hc, mv_fo_2, mv_fo_s2, li1, nI_add]
      refine ⟨_, rfl, fun i hi => ?_⟩
      by_cases e : i = c
      · subst e; rw [mv_vu_eq]
      · rw [mv_vu_ne e]; exact hP i (by omega))
    g (fun i hi => by omega)
  rw [e1, Lp_J7_fill_53178_5, ev_t (nI_le (Nat.le_refl _) (by omega))]
  exact ⟨g1, rfl, h1⟩
theorem fo_look (hF : mv_FS h0) (hr : r + 20 ≤ 145) (hR : mv_RS h0 r) (hW : mv_RV h0 I r v C B) (hV : mv_VV v C B D) {fr to : Int32} {D1 : Nat} (hD : D1 < 100000) : ∃ f g, F_X2_lookBack 145 (some r) fr to (nI D1) (mv_hp h0 I) = some ((), mv_hp h0 (mv_fo I f g)) ∧ f 1 = mv_cv (mv_LB v C fr to 30 D1).2 ∧ (∀ c, c < 4 → g c = mv_cv ((mv_LB v C fr to 30 D1).1 c)) ∧ f 2 = I 145 2 ∧ f 3 = I 145 3 := by
  have key : ∀ (a k n : Nat) (f g : Nat → Int32), a + k = 30 → a < n → f 1 = mv_cv (mv_LB v C fr to k (D1 + a)).2 → (∀ c, c < 4 → g c = mv_cv ((mv_LB v C fr to k (D1 + a)).1 c)) → ∃ f' g', Lp_X2_lookBack_19 145 (some r) fr to (nI D1) n (nI a) (mv_hp h0 (mv_fo I f g)) = some ((), mv_hp h0 (mv_fo I f' g')) ∧ f' 1 = mv_cv (mv_LB v C fr to 30 D1).2 ∧ (∀ c, c < 4 → g' c = mv_cv ((mv_LB v C fr to 30 D1).1 c)) ∧ f' 2 = f 2 ∧ f' 3 = f 3 := by
    intro a
    induction a with
    | zero =>
      intro k n f g hk hn hf hg
      obtain ⟨n, rfl⟩ := Nat.exists_eq_succ_of_ne_zero (show n ≠ 0 by omega)
      have hk' : k = 30 := by omega
      subst hk'
      rw [Lp_X2_lookBack_19, ev_t (by decide)]
      exact ⟨f, g, rfl, hf, hg, rfl, rfl⟩
    | succ a ih =>
      intro k n f g hk hn hf hg
      obtain ⟨n, rfl⟩ := Nat.exists_eq_succ_of_ne_zero (show n ≠ 0 by omega)
      have le := mv_LB_le v C fr to k (D1 + (a + 1)) (by omega)
      obtain ⟨f1, g1, e1, h1, h2, h3, h4⟩ := fo_step (fr := fr) (to := to) (D1 := D1 + (a + 1)) hF hr hR hW hV (by omega) le.2 le.1 hf hg
      obtain ⟨f2, g2, e2, q1, q2, q3, q4⟩ := ih (k + 1) n f1 g1 (by omega) (by omega) (by rw [mv_LB_2]; exact h1) h2
      rw [Lp_X2_lookBack_19, ev_f (by rw [li1]; exact nI_nlt (by omega) (by omega)), fo_rc hF, nI_add, ev_bd e1, mv_dec]
      exact ⟨f2, g2, e2, q1, q2, q3.trans h3, q4.trans h4⟩
  unfold F_X2_lookBack
  obtain ⟨g0, e0, h0'⟩ := fo_fill (I := I) (f := I 145) (g := I 146) hF
  rw [mv_fo_self] at e0
  rw [fo_g0 hF, li2147483647, ev_bd e0, fo_sI hF, mv_fo_1, mv_fo_s1, li30]
  obtain ⟨f2, g2, e2, q1, q2, q3, q4⟩ := key 30 0 mv_FU (mv_vu (I 145) 1 (nI 2147483647)) g0 (by omega) (by decide) mv_vu_eq h0'
  rw [e2]
  exact ⟨f2, g2, rfl, q1, q2, by rw [q3, mv_vu_ne (by omega)], by rw [q4, mv_vu_ne (by omega)]⟩
theorem fo_ifLying (hF : mv_FS h0) (hr : r + 20 ≤ 145) (hR : mv_RS h0 r) (hW : mv_RV h0 I r v C B) (hV : mv_VV v C B D) {fr to D1 : Nat} (hD : D1 < 100000) (h1 : fr ≤ 5) (h2 : to ≤ 5) : ∃ f g, F_X2_ifLying 145 (some r) (nI fr) (nI to) (nI D1) (mv_hp h0 I) = some (mv_pp v C D1 fr to, mv_hp h0 (mv_fo I f g)) := by
  obtain ⟨f, g, e, q1, -⟩ := fo_look (fr := nI fr) (to := nI to) hF hr hR hW hV hD
  have le := mv_LB_le v C (nI fr) (nI to) 30 D1 (by omega)
  refine ⟨f, g, ?_⟩
  unfold F_X2_ifLying J_X2_ifLying_27 mv_pp
  rw [fo_rc hF, ev_bd e, fo_gI hF, mv_fo_1, q1, li2147483647, mv_dp_lies hV.2.2.2.1 (mv_ok_nI (by omega)) (mv_sw_ok hV) (show ¬ nI fr < nI 0 from nI_pos (by omega)) (mv_ok_nI (by omega)) (by omega), ← mv_cv_oN le.2]
  by_cases c : mv_cv (mv_LB v C (nI fr) (nI to) 30 D1).2 = nI 2147483647
  · rw [ev_t c, if_pos c]; rfl
  · rw [ev_f c, if_neg c, fo_gI hF, mv_fo_1, q1]; rfl
/-- a bundle that has not come: its arrival by the rows of lookBack -/
theorem mv_AB_LO (hV : mv_VV v C B D) {b w D1 : Nat} (hD0 : D < 90000) (hb : b < B) (hD : D1 < 100000) (hw : v (64 + 8 * b + 2) = nI w) (hw4 : w ≤ C) (ha : v (64 + 8 * b + 3) = nI 0) : mv_AB v C b D1 = if w = 0 then (mv_LO v C b D1).2 else (mv_LO v C b D1).1 (w - 1) := by
  obtain ⟨⟨t, t1, t2⟩, ⟨l, w', a, q1, q2, q3, q4, q5, q6, q7⟩, -⟩ := hV.2.2.2.2.2.2.2 b hb
  have hC4 := hV.2.2.2.1
  have e1 : w' = w := (mv_eq (by omega) (by omega)).mp (q5.symm.trans hw)
  subst e1
  have e2 : a = 0 := (mv_eq (by omega) (by omega)).mp (q6.symm.trans ha)
  unfold mv_AB mv_wm mv_LO
  rw [q4, q5, t2]
  by_cases h : w' = 0
  · subst h
    obtain ⟨l, rfl⟩ := Nat.exists_eq_succ_of_ne_zero (show l ≠ 0 by omega)
    rw [if_pos rfl, if_pos rfl, mv_dns (by omega), pk_sub (by omega), show l + 1 - 1 = l by omega, mv_dp_lies hC4 (mv_ok_nI (by omega)) (mv_sw_ok hV) (show ¬ nI l < nI 0 from nI_pos (by omega)) (mv_ok_nI (by omega)) (by omega)]
  · have : l = 0 := by omega
    subst this
    rw [if_neg (fun z => h ((mv_eq (by omega) (by omega)).mp z)), if_neg h, nI_clamp (by omega), mv_dn0]
    exact mv_dp_hand hC4 (mv_ok_nI (by omega)) (mv_sw_ok hV) (by decide) (by omega) (by omega)
theorem fo_stay (hF : mv_FS h0) (hr : r + 20 ≤ 145) (hR : mv_RS h0 r) (hW : mv_RV h0 I r v C B) (hV : mv_VV v C B D) {b D1 : Nat} {f g : Nat → Int32} (hD0 : D < 90000) (hb : b < B) (hD : D1 < 100000) (ha : v (64 + 8 * b + 3) = nI 0) (h1 : f 1 = mv_cv (mv_LO v C b D1).2) (h2 : ∀ c, c < 4 → g c = mv_cv ((mv_LO v C b D1).1 c)) : F_X2_ifStaying 145 (some (mv_bi h0 r b)) (mv_hp h0 (mv_fo I f g)) = some (mv_cv (mv_AB v C b D1), mv_hp h0 (mv_fo I f g)) := by
  obtain ⟨⟨t, t1, t2⟩, ⟨l, w, a, q1, q2, q3, q4, q5, q6, q7⟩, -⟩ := hV.2.2.2.2.2.2.2 b hb
  have hC4 := hV.2.2.2.1
  have hB8 := hV.2.2.2.2.1
  have hW' := (mv_RV_fo (f := f) (g := g) hr hR hC4 hB8 hW).2.2.2 b hb
  unfold F_X2_ifStaying J_X2_ifStaying_47
  rw [mv_AB_LO hV hD0 hb hD q5 q2 ha, ro_bI hR (by omega), hW'.2.2.1, q5, li4, lin4]
  by_cases h : w = 0
  · rw [ev_t ((mv_dn_n4 (by omega)).mpr h), fo_gI hF, mv_fo_1, h1, if_pos h]; rfl
  · obtain ⟨w, rfl⟩ := Nat.exists_eq_succ_of_ne_zero h
    rw [ev_f (fun z => h ((mv_dn_n4 (by omega)).mp z)), ro_bI hR (by omega), hW'.2.2.1, q5, mv_dns (by omega), ev_f (nI_pos (by omega)), ro_bI hR (by omega), hW'.2.2.1, q5, mv_dns (by omega), fo_g0 hF, fo_l hF, ev_f (nI_ge (by omega) (by omega)), fo_g0 hF, ro_bI hR (by omega), hW'.2.2.1, q5, mv_dns (by omega), fo_a hF (by omega), mv_fo_2, h2 w (by omega), if_neg h]
    rfl
theorem mv_AB_le (hV : mv_VV v C B D) {b D1 : Nat} (hD : D1 < 100000) : mv_AB v C b D1 ≤ 1000000 := mv_AR_le _ _ _ _ _ _ _ (by omega)
theorem fo_arrivalOf (hF : mv_FS h0) (hr : r + 20 ≤ 145) (hR : mv_RS h0 r) (hW : mv_RV h0 I r v C B) (hV : mv_VV v C B D) {b : Nat} (hb : b < B) (hD : D < 90000) : ∃ f g, F_X2_arrivalOf 145 (some r) (some (mv_bi h0 r b)) (mv_hp h0 I) = some (mv_oN (mv_AN v C b D), mv_hp h0 (mv_fo I f g)) ∧ f 2 = I 145 2 ∧ f 3 = I 145 3 := by
  obtain ⟨⟨t, t1, t2⟩, ⟨l, w, a, q1, q2, q3, q4, q5, q6, q7⟩, -⟩ := hV.2.2.2.2.2.2.2 b hb
  have hB8 := hV.2.2.2.2.1
  have hW' := hW.2.2.2 b hb
  unfold F_X2_arrivalOf J_X2_arrivalOf_49 mv_AN
  rw [ro_bI hR (by omega), hW'.2.2.2.1, q6, li4, lin4]
  by_cases h : a = 0
  · subst h
    obtain ⟨f, g, e, p1, p2, p3, p4⟩ := fo_look (fr := mv_dn (v (64 + 8 * b + 1))) (to := v (64 + 8 * b + 0)) hF hr hR hW hV (show D < 100000 by omega)
    refine ⟨f, g, ?_, p3, p4⟩
    rw [ev_t mv_dn0, if_pos (nI_le (Nat.le_refl _) (by omega)), ro_bI hR (by omega), hW'.2.1, ro_bI hR (by omega), hW'.1, ro_gI hR, hW.1.2.2.1, hV.1, fo_rc hF, ev_bd e, fo_rc hF, ev_bd (fo_stay hF hr hR hW hV hD hb (by omega) q6 p1 p2), li2147483647, ← mv_cv_oN (mv_AB_le hV (by omega))]
    by_cases c : mv_cv (mv_AB v C b D) = nI 2147483647
    · rw [ev_t c, if_pos c]; rfl
    · rw [ev_f c, if_neg c]; rfl
  · refine ⟨I 145, I 146, ?_, rfl, rfl⟩
    obtain ⟨a, rfl⟩ := Nat.exists_eq_succ_of_ne_zero h
    rw [ev_f (fun z => h ((mv_dn_n4 (by omega)).mp z)), if_neg (nI_ge (by omega) (by omega)), ro_bI hR (by omega), hW'.2.2.2.1, q6, mv_dns (by omega), mv_fo_self, pk_sub (by omega), show a + 1 - 1 = a by omega]
    unfold mv_oN
    rw [if_neg (fun z => by have := (mv_eq (by omega) (by omega)).mp z; omega)]
    rfl
end F2
