/-! what holds between the calls -/
def mv_Inv (j : Nat) (h : mv_Hp) : Prop := h.2.1 = mv_S0 ∧ ∃ L M z, mv_CI j h h.2.2.1 (h.2.2.1 148) L (h.2.2.1 150) z (h.2.2.1 151) M (h.2.2.1 152) ∧ h.2.2.1 147 3 = nI L ∧ h.2.2.1 147 5 = z ∧ h.2.2.1 147 7 = nI M
theorem mv_CI_hp {j : Nat} {h0 : mv_Hp} {I J : Nat → Nat → Int32} {v : Nat → Int32} {L : Nat} {p : Nat → Int32} {z : Int32} {ks : Nat → Int32} {M : Nat} {pd : Nat → Int32} (h : mv_CI j h0 I v L p z ks M pd) : mv_CI j (mv_hp h0 J) I v L p z ks M pd := h
theorem mv_CI_of {j : Nat} {h0 : mv_Hp} {I J : Nat → Nat → Int32} {v : Nat → Int32} {L : Nat} {p : Nat → Int32} {z : Int32} {ks : Nat → Int32} {M : Nat} {pd : Nat → Int32} (h : mv_CI j (mv_hp h0 J) I v L p z ks M pd) : mv_CI j h0 I v L p z ks M pd := h
theorem mv_A1_of {β : Type} {X Y : mv_M β} (H : ∀ (j : Nat) (h0 : mv_Hp) (I : Nat → Nat → Int32), j < 512 → mv_Inv j (mv_hp h0 I) → ∃ (r : β) (h0' : mv_Hp) (I' J : Nat → Nat → Int32), X (mv_hp h0 I) = some (r, mv_hp h0' I') ∧ h0'.1 = h0.1 ∧ h0'.2.1 = h0.2.1 ∧ Y (mv_hp h0' I') = some (r, mv_hp h0' J) ∧ mv_Inv (j + 1) (mv_hp h0' J)) : mv_A1 mv_Inv X Y := by
  intro j h hj hI
  obtain ⟨r, h0', I', J, e1, e2, e3, e4, e5⟩ := H j h h.2.2.1 hj hI
  exact ⟨r, _, _, e1, e2, e3, e4, e5⟩
/-- rows on which the invariant does not rest may change -/
theorem mv_CI_rows {j j' : Nat} {h0 : mv_Hp} {I J : Nat → Nat → Int32} {v : Nat → Int32} {L : Nat} {p : Nat → Int32} {z : Int32} {ks : Nat → Int32} {M : Nat} {pd : Nat → Int32} (hj : j ≤ j') (hF : ∀ i, i < 147 → ¬ (21 ≤ i ∧ i < 41) → i ≠ 145 → i ≠ 146 → J i = I i) (h : mv_CI j h0 I v L p z ks M pd) : mv_CI j' h0 J v L p z ks M pd := by
  obtain ⟨hC, hO, ⟨a1, a2, a3⟩, ⟨b1, b2⟩, c1⟩ := h
  refine ⟨hC, mv_OK_le hj (mv_OK_congr (hC.2.2.2.2.2.2 1 (by unfold mv_blk; omega)) (fun _ => rfl) (fun i q1 q2 => hF i (by omega) (by omega) (by omega) (by omega)) hO), ⟨by rw [hF 61 (by omega) (by omega) (by omega) (by omega)]; exact a1, a2, fun k hk => ?_⟩, ⟨by rw [hF 0 (by omega) (by omega) (by omega) (by omega)]; exact b1, b2.imp id (fun b => ⟨b.1, ?_⟩)⟩, mv_PD_congr (hF 143 (by omega) (by omega) (by omega) (by omega)) (hF 144 (by omega) (by omega) (by omega) (by omega)) c1⟩
  · have := mv_sr_rng hC (show k < 4 by omega)
    exact mv_OK_le hj (mv_OK_congr (mv_st63 hC (by omega)) (fun _ => rfl) (fun i q1 q2 => hF i (by omega) (by omega) (by omega) (by omega)) (a3 k hk))
  · exact mv_OK_le hj (mv_OK_congr (hC.2.2.2.2.2.2 41 (by unfold mv_blk; omega)) (fun _ => rfl) (fun i q1 q2 => hF i (by omega) (by omega) (by omega) (by omega)) b.2)
theorem mv_look {j : Nat} {h0 : mv_Hp} {I J : Nat → Nat → Int32} (hI : mv_Inv j (mv_hp h0 I)) (hF : ∀ i, i < 147 → ¬ (21 ≤ i ∧ i < 41) → i ≠ 145 → i ≠ 146 → J i = I i) (h1 : J 148 = I 148) (h2 : J 150 = I 150) (h3 : J 151 = I 151) (h4 : J 152 = I 152) (h5 : J 147 3 = I 147 3) (h6 : J 147 5 = I 147 5) (h7 : J 147 7 = I 147 7) : mv_Inv (j + 1) (mv_hp h0 J) := by
  obtain ⟨hs, L, M, z, hc, q1, q2, q3⟩ := hI
  refine ⟨hs, L, M, z, ?_, h5.trans q1, h6.trans q2, h7.trans q3⟩
  show mv_CI (j + 1) (mv_hp h0 J) J (J 148) L (J 150) z (J 151) M (J 152)
  rw [h1, h2, h3, h4]
  exact mv_CI_hp (mv_CI_rows (Nat.le_succ j) hF (mv_CI_of hc))
theorem mv_lk0 {j : Nat} {h0 : mv_Hp} {I : Nat → Nat → Int32} (hI : mv_Inv j (mv_hp h0 I)) : mv_Inv (j + 1) (mv_hp h0 I) := mv_look hI (fun _ _ _ _ _ => rfl) rfl rfl rfl rfl rfl rfl rfl
theorem mv_lkf {j : Nat} {h0 : mv_Hp} {I : Nat → Nat → Int32} {f g : Nat → Int32} (hI : mv_Inv j (mv_hp h0 I)) : mv_Inv (j + 1) (mv_hp h0 (mv_fo I f g)) := mv_look hI (fun i _ _ h1 h2 => mv_fo_ne h1 h2) (mv_fo_ne (by omega) (by omega)) (mv_fo_ne (by omega) (by omega)) (mv_fo_ne (by omega) (by omega)) (mv_fo_ne (by omega) (by omega)) (by rw [mv_fo_ne (by omega) (by omega)]) (by rw [mv_fo_ne (by omega) (by omega)]) (by rw [mv_fo_ne (by omega) (by omega)])
def mv_rd (I : Nat → Nat → Int32) (L : Nat) : Nat → Nat → Int32 := mv_si (mv_si I 150 (mv_rp (I 148) (I 150) L)) 147 (mv_vu (I 147) 3 (nI (mv_rk L)))
theorem mv_rd_ne {I : Nat → Nat → Int32} {L i : Nat} (h1 : i ≠ 150) (h2 : i ≠ 147) : mv_rd I L i = I i := by unfold mv_rd; rw [mv_si_ne h2, mv_si_ne h1]
/-- what a call of a change has to begin with -/
theorem mv_ck {j : Nat} {h0 : mv_Hp} {I : Nat → Nat → Int32} (hI : mv_Inv j (mv_hp h0 I)) {C B : Nat} (hC4 : C ≤ 4) (hB8 : B ≤ 8) (hW : mv_RV h0 I 1 (I 148) C B) : ∃ h0' I1 L, F_X3_keep 61 (some 1) (mv_hp h0 I) = some ((), mv_hp h0' I1) ∧ h0'.1 = h0.1 ∧ h0'.2.1 = h0.2.1 ∧ mv_CS h0' ∧ L ≤ 4 ∧ mv_RV h0' I1 1 (I 148) C B ∧ (∀ i, 143 ≤ i ∨ i < 61 → i ≠ 145 → i ≠ 146 → I1 i = I i) ∧ I 147 3 = nI L ∧ (∀ x, x ≠ 62 → h0'.2.2.2 x = h0.2.2.2 x) ∧ (∀ I2 v', mv_fr 1 I1 I2 → mv_OK (j + 1) h0' I2 1 v' → mv_Inv (j + 1) (mv_hp h0' (mv_si (mv_rd I2 L) 148 v'))) ∧ (∃ M z, mv_CI j h0' I1 (I 148) (mv_rk L) (mv_rp (I 148) (I 150) L) z (I 151) M (I 152) ∧ I 147 5 = z ∧ I 147 7 = nI M) := by
  obtain ⟨hs, L, M, z, hc, q1, q2, q3⟩ := hI
  have hc' := mv_CI_of hc
  obtain ⟨h0', I1, e, a1, a2, a3, a4, a5⟩ := hi_keep hc'
  refine ⟨h0', I1, L, e, a1, a2, a5.1, hc'.2.2.1.2.1, mv_RV_congr (hc'.1.2.2.2.2.2.2 1 (by unfold mv_blk; omega)) hC4 hB8 (fun b _ => mv_bi_congr (by rw [a3 _ (by omega)])) (fun i w1 w2 => a4 i (by omega) (by omega) (by omega)) hW, a4, q1, a3, fun I2 v' hF hO => ?_, M, z, a5, q2, q3⟩
  have f : ∀ i, 147 ≤ i → I2 i = I i := fun i hi => (hF i (by omega) (by omega) (by omega)).trans (a4 i (by omega) (by omega) (by omega))
  refine ⟨a2.trans hs, mv_rk L, M, z, ?_, ?_, ?_, ?_⟩
  · show mv_CI (j + 1) (mv_hp h0' _) (mv_si (mv_rd I2 L) 148 v') (mv_si (mv_rd I2 L) 148 v' 148) _ (mv_si (mv_rd I2 L) 148 v' 150) _ (mv_si (mv_rd I2 L) 148 v' 151) _ (mv_si (mv_rd I2 L) 148 v' 152)
    rw [mv_si_eq, mv_si_ne (by omega), mv_si_ne (by omega), mv_si_ne (by omega), mv_rd_ne (show 151 ≠ 150 by omega) (by omega), mv_rd_ne (show 152 ≠ 150 by omega) (by omega), f 151 (by omega), f 152 (by omega), show mv_rd I2 L 150 = mv_rp (I 148) (I 150) L by unfold mv_rd; rw [mv_si_ne (by omega), mv_si_eq, f 148 (by omega), f 150 (by omega)]]
    refine mv_CI_hp (mv_CI_rows (Nat.le_refl _) (I := I2) (fun i w1 _ _ _ => by rw [mv_si_ne (by omega), mv_rd_ne (by omega) (by omega)]) ?_)
    exact mv_CI_now (Nat.le_succ j) hF hO a5
  · show mv_si (mv_rd I2 L) 148 v' 147 3 = _
    rw [mv_si_ne (by omega)]; unfold mv_rd; rw [mv_si_eq, mv_vu_eq]
  · show mv_si (mv_rd I2 L) 148 v' 147 5 = _
    rw [mv_si_ne (by omega)]; unfold mv_rd; rw [mv_si_eq, mv_vu_ne (by omega), f 147 (by omega)]; exact q2
  · show mv_si (mv_rd I2 L) 148 v' 147 7 = _
    rw [mv_si_ne (by omega)]; unfold mv_rd; rw [mv_si_eq, mv_vu_ne (by omega), f 147 (by omega)]; exact q3
section X1
variable {β : Type} {h0 : mv_Hp} {I : Nat → Nat → Int32}
theorem xo_k (hC : mv_CS h0) : h0.1[0]? = some (6, 7) := by rw [hC.1]; rfl
theorem xo_rc {g : Nat → mv_M β} (hC : mv_CS h0) : mv_bd (mv_rc 6 7 (some 0)) g (mv_hp h0 I) = g 0 (mv_hp h0 I) := ev_rc (xo_k hC)
theorem xo_gI {k : Nat} {g : Int32 → mv_M β} (hC : mv_CS h0) : mv_bd (mv_gI 6 7 k (some 0)) g (mv_hp h0 I) = g (I 0 k) (mv_hp h0 I) := ev_gI (xo_k hC)
theorem xo_g0 {g : Option Nat → mv_M β} (hC : mv_CS h0) : mv_bd (mv_gR 6 7 0 (some 0)) g (mv_hp h0 I) = g (some 1) (mv_hp h0 I) := (ev_gR (xo_k hC)).trans (by rw [hC.2.2.1.1])
theorem xo_g1 {g : Option Nat → mv_M β} (hC : mv_CS h0) : mv_bd (mv_gR 6 7 1 (some 0)) g (mv_hp h0 I) = g (some 21) (mv_hp h0 I) := (ev_gR (xo_k hC)).trans (by rw [hC.2.2.1.2.1])
theorem xo_g2 {g : Option Nat → mv_M β} (hC : mv_CS h0) : mv_bd (mv_gR 6 7 2 (some 0)) g (mv_hp h0 I) = g (some 41) (mv_hp h0 I) := (ev_gR (xo_k hC)).trans (by rw [hC.2.2.1.2.2.1])
theorem xo_g3 {g : Option Nat → mv_M β} (hC : mv_CS h0) : mv_bd (mv_gR 6 7 3 (some 0)) g (mv_hp h0 I) = g (some 61) (mv_hp h0 I) := (ev_gR (xo_k hC)).trans (by rw [hC.2.2.1.2.2.2.1])
theorem xo_g4 {g : Option Nat → mv_M β} (hC : mv_CS h0) : mv_bd (mv_gR 6 7 4 (some 0)) g (mv_hp h0 I) = g (some 143) (mv_hp h0 I) := (ev_gR (xo_k hC)).trans (by rw [hC.2.2.1.2.2.2.2.1])
theorem xo_g5 {g : Option Nat → mv_M β} (hC : mv_CS h0) : mv_bd (mv_gR 6 7 5 (some 0)) g (mv_hp h0 I) = g (some 145) (mv_hp h0 I) := (ev_gR (xo_k hC)).trans (by rw [hC.2.2.1.2.2.2.2.2])
theorem xo_R1 (hC : mv_CS h0) : mv_RS h0 1 := hC.2.2.2.2.2.2 1 (by unfold mv_blk; omega)
theorem xo_R21 (hC : mv_CS h0) : mv_RS h0 21 := hC.2.2.2.2.2.2 21 (by unfold mv_blk; omega)
theorem xo_R41 (hC : mv_CS h0) : mv_RS h0 41 := hC.2.2.2.2.2.2 41 (by unfold mv_blk; omega)
theorem mo_in (x a b : Int32) (h : mv_Hp) : F_X7_in x a b h = some (if x < a then nI 0 else if b < x then nI 0 else nI 1, h) := by
  unfold F_X7_in J_X7_in_14 J_X7_in_15
  by_cases h1 : x < a
  · rw [ev_t h1, if_pos h1, ev_rz (Or.inl rfl)]; rfl
  · rw [ev_f h1, if_neg h1]
    by_cases h2 : b < x
    · rw [ev_t h2, if_pos h2, ev_rz (Or.inl rfl)]; rfl
    · rw [ev_f h2, if_neg h2, ev_rz (Or.inr rfl)]; rfl
theorem mo_in' (x a b : Int32) (h : mv_Hp) {g : Int32 → mv_M β} : mv_bd (F_X7_in x a b) g h = g (if x < a then nI 0 else if b < x then nI 0 else nI 1) h := ev_bd (mo_in x a b h)
theorem mv_in_no {x : Int32} {n : Nat} (hn : n < 2 ^ 30) (h : x < 0 ∨ nI n ≤ x) : (if x < nI 0 then nI 0 else if nI n - nI 1 < x then nI 0 else nI 1) = nI 0 := by
  by_cases h1 : x < nI 0
  · rw [if_pos h1]
  · rw [if_neg h1]
    have h2 := h.resolve_left h1
    obtain ⟨k, hk, rfl⟩ := nI_of h1
    have hnk := (mv_le (by omega) hk).mp h2
    rw [if_pos]
    by_cases h3 : n = 0
    · subst h3
      have : nI 0 - nI 1 = mv_n1 := by decide
      rw [this, Int32.lt_iff_toInt_lt, nI_toInt hk]
      have : mv_n1.toInt = -1 := by decide
      omega
    · rw [pk_sub (by omega)]; exact nI_lt (by omega) hk
theorem mv_in_yes {k n : Nat} (hk : k < n) (hn : n < 2 ^ 30) : (if nI k < nI 0 then nI 0 else if nI n - nI 1 < nI k then nI 0 else nI 1) = nI 1 := by
  rw [if_neg (nI_nlt (Nat.zero_le _) (by omega)), pk_sub (by omega), if_neg (nI_nlt (by omega) (by omega))]
theorem mv_in_no2 {x : Int32} {n : Nat} (hn : n + 1 < 2 ^ 30) (h : x < 0 ∨ nI (n + 1) ≤ x) : (if x < nI 0 then nI 0 else if nI n < x then nI 0 else nI 1) = nI 0 := by
  have := mv_in_no (n := n + 1) hn h
  rw [pk_sub (by omega)] at this
  exact this
theorem mv_in_yes2 {k n : Nat} (hk : k < n + 1) (hn : n < 2 ^ 30) : (if nI k < nI 0 then nI 0 else if nI n < nI k then nI 0 else nI 1) = nI 1 := by
  rw [if_neg (nI_nlt (Nat.zero_le _) (by omega)), if_neg (nI_nlt (by omega) (by omega))]
theorem mo_isC' (hM : mv_MS h0) {C : Nat} (hC : I 148 3 = nI C) {x : Int32} {g : Int32 → mv_M β} : mv_bd (F_X7_isCarrier 147 x) g (mv_hp h0 I) = g (if x < nI 0 then nI 0 else if nI C - nI 1 < x then nI 0 else nI 1) (mv_hp h0 I) := ev_bd (by
  unfold F_X7_isCarrier
  rw [mo_g0 hM, li3, mo_r148 hM (by omega), hC, li0, li1, mo_in', ev_rz (by split; exact Or.inl rfl; split; exact Or.inl rfl; exact Or.inr rfl)]
  rfl)
theorem mo_isB' (hM : mv_MS h0) {B : Nat} (hB : I 148 4 = nI B) {x : Int32} {g : Int32 → mv_M β} : mv_bd (F_X7_isBundle 147 x) g (mv_hp h0 I) = g (if x < nI 0 then nI 0 else if nI B - nI 1 < x then nI 0 else nI 1) (mv_hp h0 I) := ev_bd (by
  unfold F_X7_isBundle
  rw [mo_g0 hM, li4, mo_r148 hM (by omega), hB, li0, li1, mo_in', ev_rz (by split; exact Or.inl rfl; split; exact Or.inl rfl; exact Or.inr rfl)]
  rfl)
theorem ro_hasNo' {r C B D : Nat} {v : Nat → Int32} (hR : mv_RS h0 r) (hW : mv_RV h0 I r v C B) (hV : mv_VV v C B D) {x : Int32} {g : Int32 → mv_M β} (hx : x < 0 ∨ nI C ≤ x) : mv_bd (F_X5_hasCarrier r x) g (mv_hp h0 I) = g (nI 0) (mv_hp h0 I) := ev_bd (by
  unfold F_X5_hasCarrier J_X5_hasCarrier_16 J_X5_hasCarrier_17
  by_cases h1 : x < 0
  · rw [ev_t h1, ev_rz (Or.inl rfl)]; rfl
  · rw [ev_f h1, ro_gI hR, hW.1.1, hV.2.1, ev_t (hx.resolve_left h1), ev_rz (Or.inl rfl)]; rfl)
theorem ro_has' {r C B D : Nat} {v : Nat → Int32} (hR : mv_RS h0 r) (hW : mv_RV h0 I r v C B) (hV : mv_VV v C B D) {c : Nat} {g : Int32 → mv_M β} (hc : c < C) : mv_bd (F_X5_hasCarrier r (nI c)) g (mv_hp h0 I) = g (nI 1) (mv_hp h0 I) := ev_bd (by
  have hC4 := hV.2.2.2.1
  unfold F_X5_hasCarrier J_X5_hasCarrier_17
  rw [ev_f (nI_pos (by omega)), ro_gI hR, hW.1.1, hV.2.1, ev_f (nI_ge hc (by omega)), ev_rz (Or.inr rfl)]; rfl)
end X1
theorem mv_un {j : Nat} {h0 : mv_Hp} {I : Nat → Nat → Int32} (hj : j < 512) (hI : mv_Inv j (mv_hp h0 I)) : ∃ D C B, D < 16000 ∧ D ≤ 30 * j ∧ mv_CS h0 ∧ mv_VV (I 148) C B D ∧ mv_PV (I 148) B ∧ mv_RV h0 I 1 (I 148) C B := by
  obtain ⟨hs, L, M, z, hc, q1, q2, q3⟩ := hI
  obtain ⟨hC, ⟨D, C, B, d1, ⟨d2, d3⟩, d4⟩, -⟩ := mv_CI_of hc
  exact ⟨D, C, B, by omega, d1, hC, d2, d3, d4⟩
theorem mv_hi {x : Int32} {n : Nat} (hn : n + 1 < 2 ^ 31) (h : nI (n + 1) ≤ x) : ¬ x < 0 ∧ ¬ x ≤ nI n := by
  have h1 : ¬ x < 0 := fun z => nI_pos (n := n + 1) hn (Int32.lt_of_le_of_lt h z)
  refine ⟨h1, fun z => ?_⟩
  obtain ⟨k, hk, rfl⟩ := nI_of h1
  have a1 := (mv_le hn hk).mp h
  have a2 := (mv_le hk (by omega)).mp z
  omega
theorem mv_tw_tc {v : Nat → Int32} {C B D : Nat} (hV : mv_VV v C B D) {c : Nat} (hc : c < C) (D1 : Nat) : (mv_tc v C c D1 = mv_n1 ∧ mv_tw v c D1 = mv_n4) ∨ ∃ t, t ≤ 5 ∧ mv_tc v C c D1 = nI t ∧ mv_tw v c D1 = nI t := by
  obtain ⟨n, h1, h7, e, ht⟩ := hV.2.2.2.2.2.2.1 c hc
  unfold mv_tc mv_tw
  rw [if_pos hc]
  by_cases ha : v (16 + 12 * c + 9) ≤ nI D1
  · rw [if_pos ha, if_pos ha, e, nI_clamp (by omega)]
    obtain ⟨t, h5, h6⟩ := ht (D1 % n) (Nat.mod_lt _ (by omega))
    exact Or.inr ⟨t, h5, h6, h6⟩
  · rw [if_neg ha, if_neg ha]; exact Or.inl ⟨rfl, rfl⟩
