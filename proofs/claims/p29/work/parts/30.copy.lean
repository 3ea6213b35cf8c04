section K1
variable {β : Type} {h0 : mv_Hp} {I : Nat → Nat → Int32} {r s C B D : Nat} {v : Nat → Int32}
theorem ro_carrierAt0 (hR : mv_RS h0 r) (h3 : I r 3 = nI C) (hC4 : C ≤ 4) {c : Nat} (hc : c < C) : F_X5_carrierAt r (nI c) (mv_hp h0 I) = some (some (r + 4 + 2 * c), mv_hp h0 I) := by
  unfold F_X5_carrierAt J_X5_carrierAt_26
  rw [ev_f (nI_pos (by omega)), ro_gI hR, h3, ev_f (nI_ge hc (by omega)), ro_g1 hR, ro_l2 hR, ev_f (nI_ge (by omega) (by omega)), ev_f (by decide), ro_g1 hR, ro_a2 hR (by omega)]
  rfl
theorem ro_bundleAt0 (hR : mv_RS h0 r) (h4 : I r 4 = nI B) (hB8 : B ≤ 8) {b : Nat} (hb : b < B) : F_X5_bundleAt r (nI b) (mv_hp h0 I) = some (some (mv_bi h0 r b), mv_hp h0 I) := by
  unfold F_X5_bundleAt J_X5_bundleAt_26
  rw [ev_f (nI_pos (by omega)), ro_gI hR, h4, ev_f (nI_ge hb (by omega)), ro_g2 hR, ro_l3 hR, ev_f (nI_ge (by omega) (by omega)), ev_f (by decide), ro_g2 hR, ro_a3 hR (by omega)]
  rfl
theorem ro_cpB {q q' : Nat} (hq : h0.1[q]? = some (0, 8)) (hq' : h0.1[q']? = some (0, 8)) (ne : q' ≠ q) (hz : I q' 5 = 0 ∨ I q' 5 = 1) : ∃ J, F_X0_copyFrom q (some q') (mv_hp h0 I) = some ((), mv_hp h0 J) ∧ (∀ i, i ≠ q → J i = I i) ∧ ∀ k, k < 8 → J q k = I q' k := by
  refine ⟨mv_si I q (mv_vu (mv_vu (mv_vu (mv_vu (mv_vu (mv_vu (mv_vu (mv_vu (I q) 0 (I q' 0)) 1 (I q' 1)) 2 (I q' 2)) 3 (I q' 3)) 4 (I q' 4)) 5 (I q' 5)) 6 (I q' 6)) 7 (I q' 7)), ?_, fun i hi => mv_si_ne hi, fun k hk => ?_⟩
  · unfold F_X0_copyFrom
    simp (disch := first | assumption | omega) only [ev_gI hq', ev_sI hq, mv_si_eq, mv_si_si, mv_si_ne ne, ev_sZ hq hz, ev_pu]
  · rw [mv_si_eq]
    rcases (show k = 0 ∨ k = 1 ∨ k = 2 ∨ k = 3 ∨ k = 4 ∨ k = 5 ∨ k = 6 ∨ k = 7 by omega) with rfl | rfl | rfl | rfl | rfl | rfl | rfl | rfl <;> simp [mv_vu]
theorem ro_cpC {q t q' t' : Nat} (hq : h0.1[q]? = some (1, 6)) (hq' : h0.1[q']? = some (1, 6)) (ht : h0.1[t]? = some (8, 7)) (ht' : h0.1[t']? = some (8, 7)) (pt : h0.2.2.2 q 0 = some t) (pt' : h0.2.2.2 q' 0 = some t') (ne : q' ≠ q) (ne2 : t' ≠ t) (ne3 : q ≠ t) (ne4 : q' ≠ t) : ∃ J, F_X1_copyFrom q (some q') (mv_hp h0 I) = some ((), mv_hp h0 J) ∧ (∀ i, i ≠ q → i ≠ t → J i = I i) ∧ (∀ k, 1 ≤ k → k < 6 → J q k = I q' k) ∧ ∀ j, j < 7 → J t j = I t' j := by
  have g0 : ∀ (J : Nat → Nat → Int32) (g : Option Nat → mv_M Unit), mv_bd (mv_gR 1 6 0 (some q)) g (mv_hp h0 J) = g (some t) (mv_hp h0 J) := fun J g => (ev_gR hq).trans (by rw [pt])
  have g0' : ∀ (J : Nat → Nat → Int32) (g : Option Nat → mv_M Unit), mv_bd (mv_gR 1 6 0 (some q')) g (mv_hp h0 J) = g (some t') (mv_hp h0 J) := fun J g => (ev_gR hq').trans (by rw [pt'])
  unfold F_X1_copyFrom
  obtain ⟨n, J, e1, h1, h2⟩ := mv_lp (L := fun n c (J : Nat → Nat → Int32) => Lp_X1_copyFrom_2 q (some q') n (nI c) (mv_hp h0 J)) (fun c J => (∀ i, i ≠ t → J i = I i) ∧ ∀ j, j < c → J t j = I t' j) 7 (by omega)
    (fun n c J hc hP => by
      obtain ⟨p1, p2⟩ := hP
      rw [Lp_X1_copyFrom_2, g0, ev_aL ht (by decide), ev_f (nI_ge hc (by omega)), g0', ev_aL ht' (by decide), ev_f (nI_ge hc (by omega)), g0, g0', ev_aI ht' hc (by omega), ev_aS ht hc (by omega), li1, nI_add, p1 t' ne2]
      refine ⟨_, rfl, fun i hi => by rw [mv_si_ne hi]; exact p1 i hi, fun j hj => ?_⟩
      rw [mv_si_eq]
      by_cases e : j = c
      · subst e; rw [mv_vu_eq]
      · rw [mv_vu_ne e]; exact p2 j (by omega))
    I ⟨fun _ _ => rfl, fun j hj => by omega⟩
  have e1' : Lp_X1_copyFrom_2 q (some q') mv_FU 0 (mv_hp h0 I) = Lp_X1_copyFrom_2 q (some q') (n + 1) (nI 7) (mv_hp h0 J) := e1
  have hq1 : J q' = I q' := h1 q' ne4
  refine ⟨mv_si J q (mv_vu (mv_vu (mv_vu (mv_vu (mv_vu (J q) 1 (I q' 1)) 2 (I q' 2)) 3 (I q' 3)) 4 (I q' 4)) 5 (I q' 5)), ?_, fun i hi hi2 => by rw [mv_si_ne hi]; exact h1 i hi2, fun k hk1 hk => ?_, fun j hj => by rw [mv_si_ne (fun z => ne3 z.symm)]; exact h2 j hj⟩
  · rw [e1', Lp_X1_copyFrom_2, g0, ev_aL ht (by decide), ev_t (nI_le (Nat.le_refl _) (by omega))]
    unfold J_X1_copyFrom_38
    simp (disch := first | assumption | omega) only [ev_gI hq', ev_sI hq, mv_si_eq, mv_si_si, mv_si_ne ne, hq1, ev_pu]
  · rw [mv_si_eq]
    rcases (show k = 1 ∨ k = 2 ∨ k = 3 ∨ k = 4 ∨ k = 5 by omega) with rfl | rfl | rfl | rfl | rfl <;> simp [mv_vu]
theorem ro_copy (hR : mv_RS h0 r) (hS : mv_RS h0 s) (ds : r + 20 ≤ s ∨ s + 20 ≤ r) (hs : s + 20 ≤ 145) (hr : r + 20 ≤ 145) (hW : mv_RV h0 I s v C B) (hV : mv_VV v C B D) : ∃ I', F_X5_copyFrom r (some s) (mv_hp h0 I) = some ((), mv_hp h0 I') ∧ mv_RV h0 I' r v C B ∧ mv_fr r I I' := by
  have hB8 := hV.2.2.2.2.1
  have hC4 := hV.2.2.2.1
  have src : ∀ J, mv_fr r I J → mv_RV h0 J s v C B := fun J hJ => mv_RV_congr hS hC4 hB8 (fun _ _ => rfl) (fun i h1 h2 => hJ i (by omega) (by omega) (by omega)) hW
  unfold F_X5_copyFrom
  obtain ⟨n1, I1, e1, F1, A1⟩ := mv_lp (L := fun n c (J : Nat → Nat → Int32) => Lp_X5_copyFrom_2 r (some s) n (nI c) (mv_hp h0 J)) (fun c J => mv_fr r I J ∧ ∀ w, w < c → J (r + 1) w = v (9 + w)) 7 (by omega)
    (fun n c J hc hP => by
      obtain ⟨p1, p2⟩ := hP
      rw [Lp_X5_copyFrom_2, ro_g0 hR, ro_l1 hR, ev_f (nI_ge hc (by omega)), ro_g0 hS, ro_l1 hS, ev_f (nI_ge hc (by omega)), ro_g0 hR, ro_g0 hS, ro_a1 hS hc, ro_s1 hR hc, li1, nI_add, (src J p1).2.1 c hc]
      refine ⟨_, rfl, mv_fr_trans p1 (mv_fr_si (by omega) (by omega)), fun w hw => ?_⟩
      rw [mv_si_eq]
      by_cases e : w = c
      · subst e; rw [mv_vu_eq]
      · rw [mv_vu_ne e]; exact p2 w (by omega))
    I ⟨mv_fr_rfl, fun j hj => by omega⟩
  have e1' : Lp_X5_copyFrom_2 r (some s) mv_FU 0 (mv_hp h0 I) = Lp_X5_copyFrom_2 r (some s) (n1 + 1) (nI 7) (mv_hp h0 I1) := e1
  rw [e1', Lp_X5_copyFrom_2, ro_g0 hR, ro_l1 hR, ev_t (nI_le (Nat.le_refl _) (by omega))]
  unfold J_X5_copyFrom_38
  have F2 : mv_fr r I (mv_si I1 r (mv_vu (I1 r) 3 (nI C))) := mv_fr_trans F1 (mv_fr_si (by omega) (by omega))
  have x3 : I1 s 3 = nI C := by rw [(src I1 F1).1.1]; exact hV.2.1
  have x4 : mv_si I1 r (mv_vu (I1 r) 3 (nI C)) s 4 = nI B := by rw [(src _ F2).1.2.1]; exact hV.2.2.1
  rw [ro_gI hS, ro_sI hR, x3, ro_gI hS, x4, ro_sI hR, mv_si_eq, mv_si_si, li0]
  obtain ⟨n2, I2, e2, F3, c3, c4, A2, A3⟩ := mv_lp (L := fun n c (J : Nat → Nat → Int32) => Lp_X5_copyFrom_56 r (some s) n (nI c) (mv_hp h0 J)) (fun c J => mv_fr r I J ∧ J r 3 = nI C ∧ J r 4 = nI B ∧ (∀ w, w < 7 → J (r + 1) w = v (9 + w)) ∧ ∀ i, i < c → mv_RC J (r + 4 + 2 * i) (r + 5 + 2 * i) v (16 + 12 * i)) C (by omega)
    (fun n c J hc hP => by
      obtain ⟨p1, p2, p3, p4, p5⟩ := hP
      have hsv := src J p1
      obtain ⟨k1, k2, k3, k4⟩ := hR.2.2.2.2.2.2.2.1 c (by omega)
      obtain ⟨l1, l2, l3, l4⟩ := hS.2.2.2.2.2.2.2.1 c (by omega)
      obtain ⟨J2, z1, z2, z3, z4⟩ := ro_cpC (I := J) k1 l1 k2 l2 k4 l4 (by omega) (by omega) (by omega) (by omega)
      rw [Lp_X5_copyFrom_56, ro_gI hR, p2, ev_f (nI_ge hc (by omega)), ro_rc hR, ev_bd (ro_carrierAt0 hR p2 hC4 hc), ro_rc hS, ev_bd (ro_carrierAt hS hsv hV hc), li1, nI_add]
      have e5 : F_X5_copyCarrier (some (r + 4 + 2 * c)) (some (s + 4 + 2 * c)) (mv_hp h0 J) = some ((), mv_hp h0 J2) := by
        unfold F_X5_copyCarrier J_X5_copyCarrier_13
        rw [ev_f (by simp), ev_f (by simp), ev_rc k1, ev_bd z1]
        rfl
      rw [ev_bd e5]
      refine ⟨J2, rfl, fun i h1 h2 h3 => by rw [z2 i (by omega) (by omega)]; exact p1 i h1 h2 h3, by rw [z2 r (by omega) (by omega)]; exact p2, by rw [z2 r (by omega) (by omega)]; exact p3, fun w hw => by rw [z2 (r + 1) (by omega) (by omega)]; exact p4 w hw, fun i hi => ?_⟩
      by_cases e : i = c
      · subst e
        obtain ⟨y1, y2, y3, y4, y5, y6⟩ := hsv.2.2.1 i hc
        exact ⟨(z3 1 (by omega) (by omega)).trans y1, (z3 2 (by omega) (by omega)).trans y2, (z3 3 (by omega) (by omega)).trans y3, (z3 4 (by omega) (by omega)).trans y4, (z3 5 (by omega) (by omega)).trans y5, fun j h1 h2 => (z4 j h1).trans (y6 j h1 h2)⟩
      · have := p5 i (by omega)
        unfold mv_RC at this ⊢
        rw [z2 (r + 4 + 2 * i) (by omega) (by omega), z2 (r + 5 + 2 * i) (by omega) (by omega)]
        exact this)
    (mv_si I1 r (mv_vu (mv_vu (I1 r) 3 (nI C)) 4 (nI B))) ⟨mv_fr_trans F1 (mv_fr_si (by omega) (by omega)), by rw [mv_si_eq, mv_vu_ne (by omega), mv_vu_eq], by rw [mv_si_eq, mv_vu_eq], fun w hw => by rw [mv_si_ne (by omega)]; exact A1 w hw, fun i hi => by omega⟩
  rw [e2, Lp_X5_copyFrom_56, ro_gI hR, c3, ev_t (nI_le (Nat.le_refl _) (by omega)), li0]
  obtain ⟨n3, I3, e3, F4, d3, d4, B2, B3, B4⟩ := mv_lp (L := fun n b (J : Nat → Nat → Int32) => Lp_X5_copyFrom_85 r (some s) n (nI b) (mv_hp h0 J)) (fun b J => mv_fr r I J ∧ J r 3 = nI C ∧ J r 4 = nI B ∧ (∀ w, w < 7 → J (r + 1) w = v (9 + w)) ∧ (∀ i, i < C → mv_RC J (r + 4 + 2 * i) (r + 5 + 2 * i) v (16 + 12 * i)) ∧ ∀ i, i < b → mv_RB J (mv_bi h0 r i) v (64 + 8 * i)) B (by omega)
    (fun n b J hb hP => by
      obtain ⟨p1, p2, p3, p4, p5, p6⟩ := hP
      have hsv := src J p1
      obtain ⟨-, k1, k2, k3⟩ := hR.2.2.2.2.2.2.2.2.1 b (by omega)
      obtain ⟨-, l1, l2, l3⟩ := hS.2.2.2.2.2.2.2.2.1 b (by omega)
      obtain ⟨y0, y1, y2, y3, y4, y5, y6, y7⟩ := hsv.2.2.2 b hb
      have hz : J (mv_bi h0 s b) 5 = 0 ∨ J (mv_bi h0 s b) 5 = 1 := by
        rw [y5]; exact (hV.2.2.2.2.2.2.2 b hb).2.2
      obtain ⟨J2, z1, z2, z3⟩ := ro_cpB (I := J) k3 l3 (by omega) hz
      rw [Lp_X5_copyFrom_85, ro_gI hR, p3, ev_f (nI_ge hb (by omega)), ro_rc hR, ev_bd (ro_bundleAt0 hR p3 hB8 hb), ro_rc hS, ev_bd (ro_bundleAt hS hsv hV hb), li1, nI_add]
      have e5 : F_X5_copyBundle (some (mv_bi h0 r b)) (some (mv_bi h0 s b)) (mv_hp h0 J) = some ((), mv_hp h0 J2) := by
        unfold F_X5_copyBundle J_X5_copyBundle_13
        rw [ev_f (by simp), ev_f (by simp), ev_rc k3, ev_bd z1]
        rfl
      rw [ev_bd e5]
      refine ⟨J2, rfl, fun i h1 h2 h3 => by rw [z2 i (by omega)]; exact p1 i h1 h2 h3, by rw [z2 r (by omega)]; exact p2, by rw [z2 r (by omega)]; exact p3, fun w hw => by rw [z2 (r + 1) (by omega)]; exact p4 w hw, fun i hi => ?_, fun i hi => ?_⟩
      · have := p5 i hi
        unfold mv_RC at this ⊢
        rw [z2 (r + 4 + 2 * i) (by omega), z2 (r + 5 + 2 * i) (by omega)]
        exact this
      · by_cases e : i = b
        · subst e
          exact ⟨(z3 0 (by omega)).trans y0, (z3 1 (by omega)).trans y1, (z3 2 (by omega)).trans y2, (z3 3 (by omega)).trans y3, (z3 4 (by omega)).trans y4, (z3 5 (by omega)).trans y5, (z3 6 (by omega)).trans y6, (z3 7 (by omega)).trans y7⟩
        · have := p6 i (by omega)
          have ne : mv_bi h0 r i ≠ mv_bi h0 r b := fun z => e (hR.2.2.2.2.2.2.2.2.2 i b (by omega) (by omega) z)
          unfold mv_RB at this ⊢
          rw [z2 _ ne]
          exact this)
    I2 ⟨F3, c3, c4, A2, A3, fun i hi => by omega⟩
  have hsv := src I3 F4
  have nsr : s ≠ r := by omega
  obtain ⟨a1, a2, a3, a4, a5, a6, a7, a8, a9⟩ := hsv.1
  refine ⟨mv_si I3 r (mv_vu (mv_vu (mv_vu (mv_vu (mv_vu (mv_vu (mv_vu (I3 r) 5 (I3 s 5)) 6 (I3 s 6)) 7 (I3 s 7)) 8 (I3 s 8)) 9 (I3 s 9)) 10 (I3 s 10)) 11 (I3 s 11)), ?_, ⟨?_, fun w hw => ?_, fun i hi => ?_, fun i hi => ?_⟩, mv_fr_trans F4 (mv_fr_si (by omega) (by omega))⟩
  · rw [e3, Lp_X5_copyFrom_85, ro_gI hR, d4, ev_t (nI_le (Nat.le_refl _) (by omega))]
    simp (disch := first | assumption | omega) only [ro_gI hS, ro_sI hR, mv_si_eq, mv_si_si, mv_si_ne nsr, ev_pu]
  · rw [mv_si_eq]
    refine ⟨?_, ?_, ?_, ?_, ?_, ?_, ?_, ?_, ?_⟩
    · simp only [mv_vu]; simp; rw [d3, ← hV.2.1]
    · simp only [mv_vu]; simp; rw [d4, ← hV.2.2.1]
    · simp only [mv_vu]; simp; exact a3
    · simp only [mv_vu]; simp; exact a4
    · simp only [mv_vu]; simp; exact a5
    · simp only [mv_vu]; simp; exact a6
    · simp only [mv_vu]; simp; exact a7
    · simp only [mv_vu]; simp; exact a8
    · simp only [mv_vu]; simp; exact a9
  · rw [mv_si_ne (by omega)]; exact B2 w hw
  · have := B3 i hi
    unfold mv_RC at this ⊢
    rw [mv_si_ne (by omega), mv_si_ne (by omega)]
    exact this
  · have := B4 i hi
    obtain ⟨-, k1, k2, k3⟩ := hR.2.2.2.2.2.2.2.2.1 i (by omega)
    unfold mv_RB at this ⊢
    rw [mv_si_ne (by omega)]
    exact this
end K1
