theorem mv_CI_hp {j : Nat} {h0 : mv_Hp} {I J : Nat → Nat → Int32} {v : Nat → Int32} {L : Nat} {p : Nat → Int32} {z : Int32} {ks : Nat → Int32} {M : Nat} {pd : Nat → Int32} (h : mv_CI j h0 I v L p z ks M pd) : mv_CI j (mv_hp h0 J) I v L p z ks M pd := h
theorem mv_CI_of {j : Nat} {h0 : mv_Hp} {I J : Nat → Nat → Int32} {v : Nat → Int32} {L : Nat} {p : Nat → Int32} {z : Int32} {ks : Nat → Int32} {M : Nat} {pd : Nat → Int32} (h : mv_CI j (mv_hp h0 J) I v L p z ks M pd) : mv_CI j h0 I v L p z ks M pd := h
/-- rows on which the invariant does not rest may change -/
theorem mv_CI_rows {j j' : Nat} {h0 : mv_Hp} {I J : Nat → Nat → Int32} {v : Nat → Int32} {L : Nat} {p : Nat → Int32} {z : Int32} {ks : Nat → Int32} {M : Nat} {pd : Nat → Int32} (hj : j ≤ j') (hF : ∀ i, i < 147 → ¬ (21 ≤ i ∧ i < 41) → i ≠ 145 → i ≠ 146 → J i = I i) (h : mv_CI j h0 I v L p z ks M pd) : mv_CI j' h0 J v L p z ks M pd := by
  obtain ⟨hC, hO, ⟨a1, a2, a3⟩, ⟨b1, b2⟩, c1⟩ := h
  refine ⟨hC, mv_OK_le hj (mv_OK_congr (hC.2.2.2.2.2.2 1 (by unfold mv_blk; omega)) (fun _ => rfl) (fun i q1 q2 => hF i (by omega) (by omega) (by omega) (by omega)) hO), ⟨by rw [hF 61 (by omega) (by omega) (by omega) (by omega)]; exact a1, a2, fun k hk => ?_⟩, ⟨by rw [hF 0 (by omega) (by omega) (by omega) (by omega)]; exact b1, b2.imp id (fun b => ⟨b.1, ?_⟩)⟩, mv_PD_congr (hF 143 (by omega) (by omega) (by omega) (by omega)) (hF 144 (by omega) (by omega) (by omega) (by omega)) c1⟩
  · have := mv_sr_rng hC (show k < 4 by omega)
    exact mv_OK_le hj (mv_OK_congr (mv_st63 hC (by omega)) (fun _ => rfl) (fun i q1 q2 => hF i (by omega) (by omega) (by omega) (by omega)) (a3 k hk))
  · exact mv_OK_le hj (mv_OK_congr (hC.2.2.2.2.2.2 41 (by unfold mv_blk; omega)) (fun _ => rfl) (fun i q1 q2 => hF i (by omega) (by omega) (by omega) (by omega)) b.2)
section X1
variable {β : Type} {h0 : mv_Hp} {I : Nat → Nat → Int32}
theorem xo_k (hC : mv_CS h0) : h0.1[0]? = some (6, 7) := by rw [hC.1]; rfl
theorem xo_rc {g : Nat → mv_M β} (hC : mv_CS h0) : mv_bd (mv_rc 6 7 (some 0)) g (mv_hp h0 I) = g 0 (mv_hp h0 I) := ev_rc (xo_k hC)
theorem xo_gI {k : Nat} {g : Int32 → mv_M β} (hC : mv_CS h0) : mv_bd (mv_gI 6 7 k (some 0)) g (mv_hp h0 I) = g (I 0 k) (mv_hp h0 I) := ev_gI (xo_k hC)
theorem xo_g0 {g : Option Nat → mv_M β} (hC : mv_CS h0) : mv_bd (mv_gR 6 7 0 (some 0)) g (mv_hp h0 I) = g (some 1) (mv_hp h0 I) := (ev_gR (xo_k hC)).trans (by rw [hC.2.2.1.1])
theorem xo_g1 {g : Option Nat → mv_M β} (hC : mv_CS h0) : mv_bd (mv_gR 6 7 1 (some 0)) g (mv_hp h0 I) = g (some 21) (mv_hp h0 I) := (ev_gR (xo_k hC)).trans (by rw [hC.2.2.1.2.1])
theorem xo_g2 {g : Option Nat → mv_M β} (hC : mv_CS h0) : mv_bd (mv_gR 6 7 2 (some 0)) g (mv_hp h0 I) = g (some 41) (mv_hp h0 I) := (ev_gR (xo_k hC)).trans (by rw [hC.2.2.1.2.2.1])
theorem xo_g3 {g : Option Nat → mv_M β} (hC : mv_CS h0) : mv_bd (mv_gR 6 7 3 (some 0)) g (mv_hp h0 I) = g (some 61) (mv_hp h0 I) := (ev_gR (xo_k hC)).trans (by rw [hC.2.2.1.2.2.2.1])
theorem xo_g4 {g : Option Nat → mv_M β} (hC : mv_CS h0) : mv_bd (mv_gR 6 7 4 (some 0)) g (mv_hp h0 I) = g (some 143) (mv_hp h0 I) := (ev_gR (xo_k hC)).trans (by rw [hC.2.2.1.2.2.2.2.1])
theorem xo_g5 {g : Option Nat → mv_M β} (hC : mv_CS h0) : mv_bd (mv_gR 6 7 5 (some 0)) g (mv_hp h0 I) = g (some 145) (mv_hp h0 I) := (ev_gR (xo_k hC)).trans (by rw [hC.2.2.1.2.2.2.2.2])
theorem xo_R1 (hC : mv_CS h0) : mv_RS h0 1 := hC.2.2.2.2.2.2 1 (by unfold mv_blk; omega)
theorem xo_R21 (hC : mv_CS h0) : mv_RS h0 21 := hC.2.2.2.2.2.2 21 (by unfold mv_blk; omega)
theorem xo_R41 (hC : mv_CS h0) : mv_RS h0 41 := hC.2.2.2.2.2.2 41 (by unfold mv_blk; omega)
theorem mv_in_no {x : Int32} {n : Nat} (hn : n < 2 ^ 30) (h : x < 0 ∨ nI n ≤ x) : (if x < nI 0 then nI 0 else if nI n - nI 1 < x then nI 0 else nI 1) = nI 0 := by
  by_cases h1 : x < nI 0
  · rw [if_pos h1]
  · rw [if_neg h1]
    have h2 := h.resolve_left h1
    obtain ⟨k, hk, rfl⟩ := nI_of h1
    have hnk := (mv_le (by omega) hk).mp h2
    rw [if_pos]
    by_cases h3 : n = 0
    · subst h3
      have : nI 0 - nI 1 = mv_n1 := by decide
      rw [this, Int32.lt_iff_toInt_lt, nI_toInt hk]
      have : mv_n1.toInt = -1 := by decide
      omega
    · rw [pk_sub (by omega)]; exact nI_lt (by omega) hk
theorem mv_in_yes {k n : Nat} (hk : k < n) (hn : n < 2 ^ 30) : (if nI k < nI 0 then nI 0 else if nI n - nI 1 < nI k then nI 0 else nI 1) = nI 1 := by
  rw [if_neg (nI_nlt (Nat.zero_le _) (by omega)), pk_sub (by omega), if_neg (nI_nlt (by omega) (by omega))]
theorem mv_in_no2 {x : Int32} {n : Nat} (hn : n + 1 < 2 ^ 30) (h : x < 0 ∨ nI (n + 1) ≤ x) : (if x < nI 0 then nI 0 else if nI n < x then nI 0 else nI 1) = nI 0 := by
  have := mv_in_no (n := n + 1) hn h
  rw [pk_sub (by omega)] at this
  exact this
theorem mv_in_yes2 {k n : Nat} (hk : k < n + 1) (hn : n < 2 ^ 30) : (if nI k < nI 0 then nI 0 else if nI n < nI k then nI 0 else nI 1) = nI 1 := by
  rw [if_neg (nI_nlt (Nat.zero_le _) (by omega)), if_neg (nI_nlt (by omega) (by omega))]
theorem ro_hasNo' {r C B D : Nat} {v : Nat → Int32} (hR : mv_RS h0 r) (hW : mv_RV h0 I r v C B) (hV : mv_VV v C B D) {x : Int32} {g : Int32 → mv_M β} (hx : x < 0 ∨ nI C ≤ x) : mv_bd (F_X5_hasCarrier r x) g (mv_hp h0 I) = g (nI 0) (mv_hp h0 I) := ev_bd (by
  unfold F_X5_hasCarrier J_X5_hasCarrier_16 J_X5_hasCarrier_17
  by_cases h1 : x < 0
  · rw [ev_t h1, ev_rz (Or.inl rfl)]; rfl
  · rw [ev_f h1, ro_gI hR, hW.1.1, hV.2.1, ev_t (hx.resolve_left h1), ev_rz (Or.inl rfl)]; rfl)
theorem ro_has' {r C B D : Nat} {v : Nat → Int32} (hR : mv_RS h0 r) (hW : mv_RV h0 I r v C B) (hV : mv_VV v C B D) {c : Nat} {g : Int32 → mv_M β} (hc : c < C) : mv_bd (F_X5_hasCarrier r (nI c)) g (mv_hp h0 I) = g (nI 1) (mv_hp h0 I) := ev_bd (by
  have hC4 := hV.2.2.2.1
  unfold F_X5_hasCarrier J_X5_hasCarrier_17
  rw [ev_f (nI_pos (by omega)), ro_gI hR, hW.1.1, hV.2.1, ev_f (nI_ge hc (by omega)), ev_rz (Or.inr rfl)]; rfl)
end X1
theorem mv_hi {x : Int32} {n : Nat} (hn : n + 1 < 2 ^ 31) (h : nI (n + 1) ≤ x) : ¬ x < 0 ∧ ¬ x ≤ nI n := by
  have h1 : ¬ x < 0 := fun z => nI_pos (n := n + 1) hn (Int32.lt_of_le_of_lt h z)
  refine ⟨h1, fun z => ?_⟩
  obtain ⟨k, hk, rfl⟩ := nI_of h1
  have a1 := (mv_le hn hk).mp h
  have a2 := (mv_le hk (by omega)).mp z
  omega
theorem mv_tw_tc {v : Nat → Int32} {C B D : Nat} (hV : mv_VV v C B D) {c : Nat} (hc : c < C) (D1 : Nat) : (mv_tc v C c D1 = mv_n1 ∧ mv_tw v c D1 = mv_n4) ∨ ∃ t, t ≤ 5 ∧ mv_tc v C c D1 = nI t ∧ mv_tw v c D1 = nI t := by
  obtain ⟨n, h1, h7, e, ht⟩ := hV.2.2.2.2.2.2.1 c hc
  unfold mv_tc mv_tw
  rw [if_pos hc]
  by_cases ha : v (16 + 12 * c + 9) ≤ nI D1
  · rw [if_pos ha, if_pos ha, e, nI_clamp (by omega)]
    obtain ⟨t, h5, h6⟩ := ht (D1 % n) (Nat.mod_lt _ (by omega))
    exact Or.inr ⟨t, h5, h6, h6⟩
  · rw [if_neg ha, if_neg ha]; exact Or.inl ⟨rfl, rfl⟩
