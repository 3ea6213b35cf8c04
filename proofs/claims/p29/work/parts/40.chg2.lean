theorem mv_CI_now2 {j j' : Nat} {h0 h1 : mv_Hp} {I I' : Nat → Nat → Int32} {v v' : Nat → Int32} {L : Nat} {p : Nat → Int32} {z : Int32} {ks : Nat → Int32} {M : Nat} {pd : Nat → Int32} (hj : j ≤ j') (k1 : h1.1 = h0.1) (hP : ∀ x, x ≠ 4 → h1.2.2.2 x = h0.2.2.2 x) (hR1 : mv_RS h1 1) (hF : mv_fr 1 I I') (hO : mv_OK j' h1 I' 1 v') (h : mv_CI j h0 I v L p z ks M pd) : mv_CI j' h1 I' v' L p z ks M pd := by
  obtain ⟨hC, -, ⟨a1, a2, a3⟩, ⟨b1, b2⟩, c1⟩ := h
  have sr : ∀ i, mv_sr h1 i = mv_sr h0 i := fun i => by unfold mv_sr; rw [hP 62 (by omega)]
  have hC1 : mv_CS h1 := by
    obtain ⟨q1, q2, q3, q4, q5, q6, q7⟩ := hC
    refine ⟨k1.trans q1, ?_, ?_, ?_, ?_, by rw [hP 143 (by omega)]; exact q6, fun r hr => ?_⟩
    · exact trivial
    · rw [hP 0 (by omega)]; exact q3
    · unfold mv_FS; rw [k1, hP 145 (by omega)]; exact q4
    · unfold mv_HS
      rw [k1, hP 61 (by omega), hP 62 (by omega)]
      refine ⟨q5.1, q5.2.1, q5.2.2.1, fun i hi => ?_, fun i i' hi hi' e => q5.2.2.2.2 i i' hi hi' (by rw [← sr, ← sr]; exact e)⟩
      rw [sr]; exact q5.2.2.2.1 i hi
    · by_cases e : r = 1
      · subst e; exact hR1
      · exact mv_RS_congr k1 (fun i w1 w2 => hP i (by unfold mv_blk at hr; omega)) (q7 r hr)
  refine ⟨hC1, hO, ⟨by rw [hF 61 (by omega) (by omega) (by omega)]; exact a1, a2, fun k hk => ?_⟩, ⟨by rw [hF 0 (by omega) (by omega) (by omega)]; exact b1, b2.imp id (fun b => ⟨b.1, ?_⟩)⟩, mv_PD_congr (hF 143 (by omega) (by omega) (by omega)) (hF 144 (by omega) (by omega) (by omega)) c1⟩
  · have rg := mv_sr_rng hC (show k < 4 by omega)
    rw [sr]
    exact mv_OK_le hj (mv_OK_congr (mv_st63 hC (by omega)) (fun b => by rw [hP _ (by omega)]) (fun i q1 q2 => hF i (by omega) (by omega) (by omega)) (a3 k hk))
  · exact mv_OK_le hj (mv_OK_congr (hC.2.2.2.2.2.2 41 (by unfold mv_blk; omega)) (fun b => by rw [hP _ (by omega)]) (fun i q1 q2 => hF i (by omega) (by omega) (by omega)) b.2)
theorem ro_passN {h0 : mv_Hp} {I : Nat → Nat → Int32} {r C B D : Nat} {v : Nat → Int32} (hF : mv_FS h0) (hr : r + 20 ≤ 145) (hR : mv_RS h0 r) (hV : mv_VV v C B D) (hD : D < 16000) {k : Nat} (hk : k ≤ 30) {J : Nat → Nat → Int32} (hJ : mv_RV h0 J r (mv_it (mv_ds C B) k 0 (D, 0, v)).2.2 C B) : ∃ J', F_X5_passDay r (some 145) (mv_hp h0 J) = some ((), mv_hp h0 J') ∧ mv_RV h0 J' r (mv_it (mv_ds C B) (k + 1) 0 (D, 0, v)).2.2 C B ∧ mv_fr r J J' := by
  have hV' := mv_VV_ps k 0 (D, 0, v) hV
  have hs := mv_ps_D (C := C) (B := B) k 0 (D, 0, v)
  have e := mv_it_last (mv_ds C B) k 0 (D, 0, v)
  rw [e]
  generalize mv_it (mv_ds C B) k 0 (D, 0, v) = s at hJ hV' hs
  have hs' : s.1 = D + k := hs
  have hV2 : mv_VV s.2.2 C B s.1 := by rw [hs']; exact hV'
  exact ro_passDay hF hr hR hJ hV2 (by omega)
