theorem mv_A1d_of {X Y : mv_M UInt64} (H : ∀ (j : Nat) (h0 : mv_Hp) (I : Nat → Nat → Int32), j < 512 → mv_Inv j (mv_hp h0 I) → ∃ (r : UInt64) (h0' : mv_Hp) (I' J : Nat → Nat → Int32), X (mv_hp h0 I) = some (r, mv_hp h0' I') ∧ h0'.1 = h0.1 ∧ h0'.2.1 = h0.2.1 ∧ Y (mv_hp h0' I') = some (r, mv_hp h0' J) ∧ mv_Inv (j + 1) (mv_hp h0' J) ∧ r &&& 0x7fffffffffffffff ≤ 0x7ff0000000000000) : mv_A1d mv_Inv X Y := by
  intro j h hj hI
  obtain ⟨r, h0', I', J, e1, e2, e3, e4, e5, e6⟩ := H j h h.2.2.1 hj hI
  exact ⟨r, _, _, e1, e2, e3, e4, e5, e6⟩
def mv_la (v : Nat → Int32) (C D : Nat) (b : Nat) (s : Int32 × Nat) : Int32 × Nat := if mv_hD v C b D = nI 0 then s else (s.1 + (mv_AN v C b D - v (64 + 8 * b + 4)), s.2 + 1)
def mv_lr (s : Int32 × Nat) : UInt64 := if s.2 = 0 then FP.dconst0 else FP.ddiv (FP.i2d s.1) (FP.i2d (nI s.2))
theorem mv_la_le (v : Nat → Int32) (C D : Nat) : ∀ k, (mv_it (mv_la v C D) k 0 (nI 0, 0)).2 ≤ k
  | 0 => Nat.le_refl _
  | k + 1 => by
    have := mv_la_le v C D k
    rw [mv_it_last]
    unfold mv_la
    split
    · exact Nat.le_succ_of_le this
    · exact Nat.succ_le_succ this
theorem mv_lr_ok {s : Int32 × Nat} (h : s.2 ≤ 8) : mv_lr s &&& 0x7fffffffffffffff ≤ 0x7ff0000000000000 := by
  unfold mv_lr
  by_cases h0 : s.2 = 0
  · rw [if_pos h0]; decide
  · rw [if_neg h0]; exact fp_div (by omega) h
theorem ev_dd {h : mv_Hp} {s : Int32 × Nat} {β : Type} {g : UInt64 → mv_M β} (h0 : ¬ s.2 = 0) (h8 : s.2 ≤ 8) : mv_bd (mv_dd (FP.i2d s.1) (FP.i2d (nI s.2))) g h = g (mv_lr s) h := by
  unfold mv_dd
  rw [if_pos (fp_div (by omega) h8), ev_bpu]
  unfold mv_lr
  rw [if_neg h0]
theorem ag_18 : mv_Ag_18 mv_Inv := by
  refine mv_A1d_of (fun j h0 I hj hI => ?_)
  obtain ⟨D, C, B, hD, hDj, hS, hV, hP, hW⟩ := mv_un hj hI
  have hM := hS.2.1
  have hR := xo_R1 hS
  have hC4 := hV.2.2.2.1
  have hB8 := hV.2.2.2.2.1
  have e4 := hV.2.2.1
  have hW' : ∀ f g, mv_RV h0 (mv_fo I f g) 1 (I 148) C B := fun f g => mv_RV_fo (by omega) hR hC4 hB8 hW
  have hle := mv_la_le (I 148) C D B
  have hX : ∃ f g, F_X6_lateness 0 (mv_hp h0 I) = some (mv_lr (mv_it (mv_la (I 148) C D) B 0 (nI 0, 0)), mv_hp h0 (mv_fo I f g)) := by
    unfold F_X6_lateness
    rw [li0]
    obtain ⟨n, ⟨⟨x, y⟩, ⟨f2, g2⟩⟩, e1, hx⟩ := mv_lp (L := fun n b (s : (Int32 × Nat) × (Nat → Int32) × (Nat → Int32)) => Lp_X6_lateness_6 0 n s.1.1 (nI s.1.2) (nI b) (mv_hp h0 (mv_fo I s.2.1 s.2.2))) (fun b s => s.1 = mv_it (mv_la (I 148) C D) b 0 (nI 0, 0)) B (by omega)
      (fun n b s hb hs => by
        obtain ⟨⟨x, y⟩, ⟨f1, g1⟩⟩ := s
        dsimp only at hs
        have e9 := mv_it_last (mv_la (I 148) C D) b 0 (nI 0, 0)
        rw [Nat.zero_add, ← hs] at e9
        obtain ⟨f2, g2, e⟩ := xo_delayOf hS (hW' f1 g1) hV hD hb
        rw [mv_fo_fo] at e
        dsimp only
        rw [Lp_X6_lateness_6, xo_g0 hS, ro_gI hR, (hW' f1 g1).1.2.1, e4, ev_f (nI_ge hb (by omega)), xo_g0 hS, ro_rc hR, ro_bundleAt' hR (hW' f1 g1) hV hb, xo_rc hS, ev_bd e, li2147483647]
        unfold J_X6_lateness_46 mv_dv
        by_cases q : mv_hD (I 148) C b D = nI 0
        · rw [if_pos q, ev_t rfl, li1, nI_add]
          exact ⟨((x, y), (f2, g2)), rfl, by rw [e9]; unfold mv_la; rw [if_pos q]⟩
        · rw [if_neg q, ev_f (mv_dv_ne hV hP hD hb q), ev_bpu, li1, nI_add, nI_add]
          exact ⟨((x + (mv_AN (I 148) C b D - I 148 (64 + 8 * b + 4)), y + 1), (f2, g2)), rfl, by rw [e9]; unfold mv_la; rw [if_neg q]⟩)
      ((nI 0, 0), (I 145, I 146)) rfl
    dsimp only at e1 hx
    rw [mv_fo_self] at e1
    refine ⟨f2, g2, ?_⟩
    rw [← hx] at hle ⊢
    rw [e1, Lp_X6_lateness_6, xo_g0 hS, ro_gI hR, (hW' f2 g2).1.2.1, e4, ev_t (nI_le (Nat.le_refl _) (by omega))]
    unfold J_X6_lateness_65
    have hy : y ≤ B := hle
    by_cases h0' : y = 0
    · rw [ev_t (by rw [h0']; rfl)]
      unfold mv_lr
      rw [if_pos h0']; rfl
    · rw [ev_f (fun z => h0' ((mv_eq0 (by omega)).mp z)), ev_dd (s := (x, y)) h0' (show y ≤ 8 by omega)]; rfl
  obtain ⟨f2, g2, eX⟩ := hX
  have hV2 : mv_VV (mv_fo I f2 g2 148) C B D := by rw [mv_fo148]; exact hV
  refine ⟨_, h0, mv_fo I f2 g2, mv_fo I f2 g2, eX, rfl, rfl, ?_, mv_lkf hI, mv_lr_ok (by omega)⟩
  unfold F_X7_lateness
  rw [li0]
  obtain ⟨n, ⟨x, y⟩, e1, hx⟩ := mv_lp (L := fun n b (s : Int32 × Nat) => Lp_X7_lateness_6 147 n s.1 (nI s.2) (nI b) (mv_hp h0 (mv_fo I f2 g2))) (fun b s => s = mv_it (mv_la (I 148) C D) b 0 (nI 0, 0)) B (by omega)
    (fun n b s hb hs => by
      obtain ⟨x, y⟩ := s
      have e9 := mv_it_last (mv_la (I 148) C D) b 0 (nI 0, 0)
      rw [Nat.zero_add, ← hs] at e9
      dsimp only
      rw [Lp_X7_lateness_6, mo_g0 hM, li4, mo_r148 hM (by omega), mv_fo148, e4, ev_f (nI_ge hb (by omega)), mo_rc hM, mo_hD' hM hV2 hb (by omega), mv_fo148]
      unfold J_X7_lateness_34 J_X7_lateness_50
      by_cases q : mv_hD (I 148) C b D = nI 0
      · rw [q, ev_t mv_z0, ev_bpu, mo_rc hM, mo_hD' hM hV2 hb (by omega), mv_fo148, q, ev_t mv_z0, ev_bpu, li0, show x + nI 0 = x from Int32.add_zero x, nI_add, li1, nI_add]
        exact ⟨(x, y), rfl, by rw [e9]; unfold mv_la; rw [if_pos q]⟩
      · rw [ev_f (show ¬ mv_hD (I 148) C b D = 0 from q), mo_rc hM, mo_dO' hM hV2 hb (by omega), mv_fo148, ev_bpu, mo_rc hM, mo_hD' hM hV2 hb (by omega), mv_fo148, ev_f (show ¬ mv_hD (I 148) C b D = 0 from q), ev_bpu, li1, nI_add, nI_add]
        exact ⟨(x + (mv_AN (I 148) C b D - I 148 (64 + 8 * b + 4)), y + 1), rfl, by rw [e9]; unfold mv_la; rw [if_neg q]⟩)
    (nI 0, 0) rfl
  dsimp only at e1
  rw [← hx] at hle ⊢
  rw [e1, Lp_X7_lateness_6, mo_g0 hM, li4, mo_r148 hM (by omega), mv_fo148, e4, ev_t (nI_le (Nat.le_refl _) (by omega))]
  unfold J_X7_lateness_71
  have hy : y ≤ B := hle
  by_cases h0' : y = 0
  · rw [ev_t (by rw [h0']; rfl)]
    unfold mv_lr
    rw [if_pos h0']; rfl
  · rw [ev_f (fun z => h0' ((mv_eq0 (by omega)).mp z)), ev_dd (s := (x, y)) h0' (show y ≤ 8 by omega)]; rfl
