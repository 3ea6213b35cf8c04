theorem mv_OK_le {j j' : Nat} {h0 : mv_Hp} {I : Nat → Nat → Int32} {r : Nat} {v : Nat → Int32} (hj : j ≤ j') (hO : mv_OK j h0 I r v) : mv_OK j' h0 I r v := mv_OK_v hj (fun _ _ => rfl) hO
theorem mv_CS_congr {h0 h0' : mv_Hp} (h1 : h0'.1 = h0.1) (hP : ∀ x, x ≠ 62 → h0'.2.2.2 x = h0.2.2.2 x) (hH : mv_HS h0') (hC : mv_CS h0) : mv_CS h0' := by
  obtain ⟨a1, a2, a3, a4, a5, a6, a7⟩ := hC
  refine ⟨h1.trans a1, ?_, ?_, ?_, hH, by rw [hP 143 (by omega)]; exact a6, fun r hr => mv_RS_congr h1 (fun i q1 q2 => hP i (by unfold mv_blk at hr; omega)) (a7 r hr)⟩
  · exact trivial
  · rw [hP 0 (by omega)]; exact a3
  · unfold mv_FS; rw [h1, hP 145 (by omega)]; exact a4
theorem mv_rp_old {v p : Nat → Int32} {L k : Nat} (hL : L < 4) (hk : k < L) : ∀ i, i < 128 → mv_at (mv_rp v p L) k i = mv_at p k i := by
  intro i hi
  unfold mv_at mv_rp mv_cp
  rw [if_neg (by omega), if_neg (by omega)]
theorem mv_rp_new {v p : Nat → Int32} {L : Nat} (hL : L < 4) : ∀ i, i < 128 → mv_at (mv_rp v p L) L i = v i := by
  intro i hi
  unfold mv_at mv_rp mv_cp
  rw [if_neg (by omega), if_pos (by omega), show 0 + (128 * L + i - 128 * L) = i by omega]
theorem mv_rp_4 {v p : Nat → Int32} : mv_rp v p 4 = mv_rp v (mv_cp p p 128 0 384) 3 := by
  unfold mv_rp
  rw [if_pos rfl, if_neg (by omega)]
section H2
variable {h0 : mv_Hp} {I : Nat → Nat → Int32} {j L M : Nat} {v p ks pd : Nat → Int32} {z : Int32}
theorem mv_sr_far (hC : mv_CS h0) {i k : Nat} (hi : i < 4) (hk : k < 4) (ne : i ≠ k) : mv_sr h0 i + 20 ≤ mv_sr h0 k ∨ mv_sr h0 k + 20 ≤ mv_sr h0 i := by
  have h1 := (hC.2.2.2.2.1.2.2.2.1 i hi).2
  have h2 := (hC.2.2.2.2.1.2.2.2.1 k hk).2
  have h3 : mv_sr h0 i ≠ mv_sr h0 k := fun y => ne (hC.2.2.2.2.1.2.2.2.2 i k hi hk y)
  omega
theorem mv_sr_rng (hC : mv_CS h0) {i : Nat} (hi : i < 4) : 63 ≤ mv_sr h0 i ∧ mv_sr h0 i + 20 ≤ 143 := by
  have h1 := (hC.2.2.2.2.1.2.2.2.1 i hi).2
  omega
theorem mv_PD_congr {I I' : Nat → Nat → Int32} (h1 : I' 143 = I 143) (h2 : I' 144 = I 144) (h : mv_PD I M pd) : mv_PD I' M pd := by
  unfold mv_PD at h ⊢
  rw [h1, h2]; exact h
/-- what is done to the block now alone -/
theorem mv_CI_now {j' : Nat} {I' : Nat → Nat → Int32} {v' : Nat → Int32} (hj : j ≤ j') (hF : mv_fr 1 I I') (hO : mv_OK j' h0 I' 1 v') (h : mv_CI j h0 I v L p z ks M pd) : mv_CI j' h0 I' v' L p z ks M pd := by
  obtain ⟨hC, -, ⟨a1, a2, a3⟩, ⟨b1, b2⟩, c1⟩ := h
  refine ⟨hC, hO, ⟨by rw [hF 61 (by omega) (by omega) (by omega)]; exact a1, a2, fun k hk => ?_⟩, ⟨by rw [hF 0 (by omega) (by omega) (by omega)]; exact b1, b2.imp id (fun b => ⟨b.1, ?_⟩)⟩, mv_PD_congr (hF 143 (by omega) (by omega) (by omega)) (hF 144 (by omega) (by omega) (by omega)) c1⟩
  · have := mv_sr_rng hC (show k < 4 by omega)
    exact mv_OK_le hj (mv_OK_congr (mv_st63 hC (by omega)) (fun _ => rfl) (fun i q1 q2 => hF i (by omega) (by omega) (by omega)) (a3 k hk))
  · exact mv_OK_le hj (mv_OK_congr (hC.2.2.2.2.2.2 41 (by unfold mv_blk; omega)) (fun _ => rfl) (fun i q1 q2 => hF i (by omega) (by omega) (by omega)) b.2)
theorem hi_keep16 (hL : L < 4) (h : mv_CI j h0 I v L p z ks M pd) : ∃ I', J_X3_keep_16 61 (some 1) (mv_hp h0 I) = some ((), mv_hp h0 I') ∧ (∀ i, 143 ≤ i ∨ i < 61 → i ≠ 145 → i ≠ 146 → I' i = I i) ∧ mv_CI j h0 I' v (L + 1) (mv_rp v p L) z ks M pd := by
  obtain ⟨hC, hO, ⟨a1, a2, a3⟩, ⟨b1, b2⟩, c1⟩ := h
  have hH := hC.2.2.2.2.1
  have rg := mv_sr_rng hC hL
  have hR := mv_st63 hC hL
  have hS := hC.2.2.2.2.2.2 1 (by unfold mv_blk; omega)
  obtain ⟨D, C, B, d1, d2, d3⟩ := hO
  obtain ⟨I1, e1, W1, F1⟩ := ro_copy hR hS (by omega) (by omega) (by omega) d3 d2.1
  have f61 : I1 61 1 = nI L := by rw [F1 61 (by omega) (by omega) (by omega)]; exact a1
  refine ⟨mv_si I1 61 (mv_vu (I1 61) 1 (nI (L + 1))), ?_, fun i q1 q2 q3 => by rw [mv_si_ne (by omega)]; exact F1 i (by omega) q2 q3, hC, ?_, ⟨by rw [mv_si_eq, mv_vu_eq], by omega, fun k hk => ?_⟩, ⟨by rw [mv_si_ne (by omega), F1 0 (by omega) (by omega) (by omega)]; exact b1, b2.imp id (fun b => ⟨b.1, ?_⟩)⟩, mv_PD_congr (by rw [mv_si_ne (by omega), F1 143 (by omega) (by omega) (by omega)]) (by rw [mv_si_ne (by omega), F1 144 (by omega) (by omega) (by omega)]) c1⟩
  · unfold J_X3_keep_16 J_X3_keep_44
    rw [hi_gI hH, a1, hi_rc hH, ev_bd (hi_stateAt hH hL), ev_f (by simp), ro_rc hR, ev_bd e1, hi_gI hH, f61, hi_sI hH, li1, nI_add]
    rfl
  · exact mv_OK_congr hS (fun _ => rfl) (fun i q1 q2 => by rw [mv_si_ne (by omega)]; exact F1 i (by omega) (by omega) (by omega)) ⟨D, C, B, d1, d2, d3⟩
  · by_cases e : k = L
    · subst e
      refine mv_OK_v (Nat.le_refl _) (mv_rp_new hL) ?_
      exact mv_OK_congr hR (fun _ => rfl) (fun i q1 q2 => mv_si_ne (by omega)) ⟨D, C, B, d1, d2, W1⟩
    · refine mv_OK_v (Nat.le_refl _) (mv_rp_old hL (by omega)) ?_
      have := mv_sr_far hC (show k < 4 by omega) hL e
      have rk := mv_sr_rng hC (show k < 4 by omega)
      exact mv_OK_congr (mv_st63 hC (by omega)) (fun _ => rfl) (fun i q1 q2 => by rw [mv_si_ne (by omega)]; exact F1 i (by omega) (by omega) (by omega)) (a3 k (by omega))
  · exact mv_OK_congr (hC.2.2.2.2.2.2 41 (by unfold mv_blk; omega)) (fun _ => rfl) (fun i q1 q2 => by rw [mv_si_ne (by omega)]; exact F1 i (by omega) (by omega) (by omega)) b.2
theorem hi_keep (h : mv_CI j h0 I v L p z ks M pd) : ∃ h0' I', F_X3_keep 61 (some 1) (mv_hp h0 I) = some ((), mv_hp h0' I') ∧ h0'.1 = h0.1 ∧ h0'.2.1 = h0.2.1 ∧ (∀ x, x ≠ 62 → h0'.2.2.2 x = h0.2.2.2 x) ∧ (∀ i, 143 ≤ i ∨ i < 61 → i ≠ 145 → i ≠ 146 → I' i = I i) ∧ mv_CI j h0' I' v (mv_rk L) (mv_rp v p L) z ks M pd := by
  have hC := h.1
  have hH := hC.2.2.2.2.1
  have a1 := h.2.2.1.1
  have a2 := h.2.2.1.2.1
  by_cases hL : L < 4
  · obtain ⟨I', e, F, h'⟩ := hi_keep16 hL h
    refine ⟨h0, I', ?_, rfl, rfl, fun _ _ => rfl, F, ?_⟩
    · unfold F_X3_keep
      rw [hi_gI hH, a1, hi_g0 hH, hi_l hH, ev_t (nI_lt (by omega) (by omega)), e]
    · unfold mv_rk
      rw [if_neg (by omega)]; exact h'
  · have hL4 : L = 4 := by omega
    subst hL4
    have ptn : ∀ x, x ≠ 62 → (mv_hq h0 (mv_pt h0.2.2.2)).2.2.2 x = h0.2.2.2 x := fun x hx => mv_pt_ne hx
    have s3 : ∀ i, i < 3 → mv_sr (mv_hq h0 (mv_pt h0.2.2.2)) i = mv_sr h0 (i + 1) := fun i hi => by
      show (mv_pt h0.2.2.2 62 i).getD 0 = _
      rw [mv_pt_lt hi]; rfl
    have s4 : mv_sr (mv_hq h0 (mv_pt h0.2.2.2)) 3 = mv_sr h0 0 := by
      show (mv_pt h0.2.2.2 62 3).getD 0 = _
      rw [mv_pt_3]; rfl
    have sg : ∀ i, i < 4 → ∃ i', i' < 4 ∧ mv_sr (mv_hq h0 (mv_pt h0.2.2.2)) i = mv_sr h0 i' ∧ (mv_hq h0 (mv_pt h0.2.2.2)).2.2.2 62 i = h0.2.2.2 62 i' ∧ ((i < 3 ∧ i' = i + 1) ∨ (i = 3 ∧ i' = 0)) := by
      intro i hi
      by_cases h3 : i < 3
      · exact ⟨i + 1, by omega, s3 i h3, mv_pt_lt h3, Or.inl ⟨h3, rfl⟩⟩
      · have : i = 3 := by omega
        subst this
        exact ⟨0, by omega, s4, mv_pt_3, Or.inr ⟨rfl, rfl⟩⟩
    have hH' : mv_HS (mv_hq h0 (mv_pt h0.2.2.2)) := by
      refine ⟨hH.1, hH.2.1, by rw [ptn 61 (by omega)]; exact hH.2.2.1, fun i hi => ?_, fun i k hi hk e => ?_⟩
      · obtain ⟨i', q1, q2, q3, -⟩ := sg i hi
        rw [q2, q3]
        exact hH.2.2.2.1 i' q1
      · obtain ⟨i', q1, q2, -, q4⟩ := sg i hi
        obtain ⟨k', r1, r2, -, r4⟩ := sg k hk
        rw [q2, r2] at e
        have := hH.2.2.2.2 i' k' q1 r1 e
        omega
    have hC' : mv_CS (mv_hq h0 (mv_pt h0.2.2.2)) := mv_CS_congr (h0 := h0) rfl ptn hH' hC
    have hI : mv_CI j (mv_hq h0 (mv_pt h0.2.2.2)) (mv_si I 61 (mv_vu (I 61) 1 (nI 3))) v 3 (mv_cp p p 128 0 384) z ks M pd := by
      obtain ⟨-, hO, ⟨-, -, a3⟩, ⟨b1, b2⟩, c1⟩ := h
      refine ⟨hC', mv_OK_congr (hC.2.2.2.2.2.2 1 (by unfold mv_blk; omega)) (fun b => by rw [ptn _ (by omega)]) (fun i q1 q2 => mv_si_ne (by omega)) hO, ⟨by rw [mv_si_eq, mv_vu_eq], by omega, fun k hk => ?_⟩, ⟨by rw [mv_si_ne (by omega)]; exact b1, b2.imp id (fun b => ⟨b.1, mv_OK_congr (hC.2.2.2.2.2.2 41 (by unfold mv_blk; omega)) (fun b => by rw [ptn _ (by omega)]) (fun i q1 q2 => mv_si_ne (by omega)) b.2⟩)⟩, mv_PD_congr (mv_si_ne (by omega)) (mv_si_ne (by omega)) c1⟩
      have rg := mv_sr_rng hC (show k + 1 < 4 by omega)
      rw [s3 k hk]
      refine mv_OK_v (Nat.le_refl _) (fun i hi => ?_) (mv_OK_congr (mv_st63 hC (show k + 1 < 4 by omega)) (fun b => by rw [ptn _ (by omega)]) (fun i q1 q2 => mv_si_ne (by omega)) (a3 (k + 1) (by omega)))
      unfold mv_at mv_cp
      rw [if_pos (by omega), show 128 + (128 * k + i - 0) = 128 * (k + 1) + i by omega]
    obtain ⟨I', e, F, h'⟩ := hi_keep16 (show 3 < 4 by omega) hI
    refine ⟨mv_hq h0 (mv_pt h0.2.2.2), I', ?_, rfl, rfl, ptn, fun i q1 q2 q3 => by rw [F i q1 q2 q3, mv_si_ne (by omega)], ?_⟩
    · unfold F_X3_keep
      rw [hi_gI hH, a1, hi_g0 hH, hi_l hH, ev_f (nI_nlt (by omega) (by omega)), hi_rc hH, ev_bd (hi_drop hC), e]
    · rw [mv_rp_4]; exact h'
theorem hi_back (hL : 1 ≤ L) (h : mv_CI j h0 I v L p z ks M pd) : ∃ I', F_X3_takeBack 61 (some 1) (mv_hp h0 I) = some ((), mv_hp h0 I') ∧ (∀ i, 147 ≤ i → I' i = I i) ∧ I' 61 1 = nI (L - 1) ∧ mv_CI j h0 I' (mv_at p (L - 1)) (L - 1) p z ks M pd := by
  have hC := h.1
  have hH := hC.2.2.2.2.1
  have a1 := h.2.2.1.1
  have a2 := h.2.2.1.2.1
  have rg := mv_sr_rng hC (show L - 1 < 4 by omega)
  have hR := hC.2.2.2.2.2.2 1 (by unfold mv_blk; omega)
  obtain ⟨D, C, B, d1, d2, d3⟩ := h.2.2.1.2.2 (L - 1) (by omega)
  obtain ⟨I1, e1, W1, F1⟩ := ro_copy hR (mv_st63 hC (show L - 1 < 4 by omega)) (by omega) (by omega) (by omega) d3 d2.1
  have f61 : I1 61 1 = nI L := by rw [F1 61 (by omega) (by omega) (by omega)]; exact a1
  have h2 := mv_CI_now (Nat.le_refl _) F1 ⟨D, C, B, d1, d2, W1⟩ h
  refine ⟨mv_si I1 61 (mv_vu (I1 61) 1 (nI (L - 1))), ?_, fun i hi => by rw [mv_si_ne (by omega)]; exact F1 i (by omega) (by omega) (by omega), by rw [mv_si_eq, mv_vu_eq], ?_⟩
  · unfold F_X3_takeBack J_X3_takeBack_30
    rw [hi_gI hH, a1, hi_rc hH, li1, pk_sub hL, ev_bd (hi_stateAt hH (show L - 1 < 4 by omega)), ev_f (by simp), ro_rc hR, ev_bd e1, hi_gI hH, f61, pk_sub hL, hi_sI hH]
    rfl
  · obtain ⟨-, hO, ⟨-, -, a3⟩, ⟨b1, b2⟩, c1⟩ := h2
    refine ⟨hC, mv_OK_congr hR (fun _ => rfl) (fun i q1 q2 => mv_si_ne (by omega)) hO, ⟨by rw [mv_si_eq, mv_vu_eq], by omega, fun k hk => ?_⟩, ⟨by rw [mv_si_ne (by omega)]; exact b1, b2.imp id (fun b => ⟨b.1, mv_OK_congr (hC.2.2.2.2.2.2 41 (by unfold mv_blk; omega)) (fun _ => rfl) (fun i q1 q2 => mv_si_ne (by omega)) b.2⟩)⟩, mv_PD_congr (mv_si_ne (by omega)) (mv_si_ne (by omega)) c1⟩
    have rk := mv_sr_rng hC (show k < 4 by omega)
    exact mv_OK_congr (mv_st63 hC (by omega)) (fun _ => rfl) (fun i q1 q2 => mv_si_ne (by omega)) (a3 k (by omega))
end H2
