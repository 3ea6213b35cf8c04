section PC
variable {j : Nat} {G : p_G} {C B D : Nat}
theorem cl_stno (hj : j < 500) (hV : mv_VV G.1 C B D) (hD : D ≤ 30 * j) {a b : Int32} (h : (a < 0 ∨ nI 7 ≤ a) ∨ ∃ w : Nat, w < 7 ∧ a = nI w ∧ (b < 0 ∨ nI (6 + 1) ≤ b)) : p_ac j G (F_X6_stall 0 a b) mv_n1 j G := by
  refine p_of (fun h0 I hr => ⟨h0, I, ?_, hr⟩)
  unfold F_X6_stall J_X6_stall_17
  rcases h with ha | ⟨w, hw, rfl, hb⟩
  · rw [ev_bd (week_no ha _), ev_t mv_z0]; rfl
  · rw [ev_bd (week_yes hw _), ev_f mv_z1, li6]
    by_cases h1 : b < 0
    · rw [ev_t h1]; rfl
    · rw [ev_f h1, ev_f (mv_hi (by omega) (hb.resolve_left h1)).2]; rfl
theorem cl_st (hj : j < 500) (hV : mv_VV G.1 C B D) (hD : D ≤ 30 * j) {w t : Nat} (hw : w < 7) (ht : t < 7) : p_ac j G (F_X6_stall 0 (nI w) (nI t)) (G.1 (9 + w)) j (p_ch G (mv_vu G.1 (9 + w) (nI t))) := by
  refine p_of (fun h0 I hr => ?_)
  obtain ⟨hD', hS, hP, hW⟩ := p_un hj hV hD hr
  have hR := xo_R1 hS
  have hC4 := hV.2.2.2.1
  have hB8 := hV.2.2.2.2.1
  obtain ⟨h0', I1, e1, hS', W1, F1, s2, hPx, -, fin⟩ := p_ck hr hC4 hB8 hW
  have hR' := xo_R1 hS'
  have W2 := mv_RV_w (x := nI t) hR' hB8 hw W1
  have F2 : mv_fr 1 I1 (mv_si I1 (1 + 1) (mv_vu (I1 (1 + 1)) w (nI t))) := mv_fr_si (by omega) (by omega)
  have hsw : mv_sw G.1 w = G.1 (9 + w) := by unfold mv_sw; rw [Nat.mod_eq_of_lt hw]
  refine ⟨h0', mv_si I1 (1 + 1) (mv_vu (I1 (1 + 1)) w (nI t)), ?_, fin j _ _ (Nat.le_refl _) F2 ⟨D, C, B, hD, ⟨mv_VV_w hw (show t ≤ 6 by omega) hV, mv_PV_v (fun b hb => mv_vu_ne (by omega)) hP⟩, W2⟩⟩
  unfold F_X6_stall
  rw [ev_bd (week_yes hw _), ev_f mv_z1, li6, ev_f (nI_pos (by omega)), ev_t (nI_le (by omega) (by omega)), xo_g0 hS, ro_rc hR, ro_stallOn' hR hW (by omega), hsw, xo_g3 hS, xo_g0 hS, hi_rc hS.2.2.2.2.1, ev_bd e1, xo_g0 hS', ro_rc hR', ev_bd (ro_stallMove hR' hw)]
  rfl
theorem cl_ilno (hj : j < 500) (hV : mv_VV G.1 C B D) (hD : D ≤ 30 * j) {a b : Int32} (h : (a < 0 ∨ nI C ≤ a) ∨ ∃ c : Nat, c < C ∧ a = nI c ∧ (b < 0 ∨ nI (30 + 1) ≤ b)) : p_ac j G (F_X6_ill 0 a b) mv_n1 j G := by
  refine p_of (fun h0 I hr => ⟨h0, I, ?_, hr⟩)
  obtain ⟨hD', hS, hP, hW⟩ := p_un hj hV hD hr
  have hR := xo_R1 hS
  unfold F_X6_ill J_X6_ill_23
  rcases h with ha | ⟨c, hc, rfl, hb⟩
  · rw [xo_g0 hS, ro_rc hR, ev_bd (ro_carrierNo hR hW hV ha), ev_t rfl]; rfl
  · rw [xo_g0 hS, ro_rc hR, ev_bd (ro_carrierAt hR hW hV hc), ev_f (by simp), li30]
    by_cases h1 : b < 0
    · rw [ev_t h1]; rfl
    · rw [ev_f h1, ev_f (mv_hi (by omega) (hb.resolve_left h1)).2]; rfl
theorem cl_il (hj : j < 500) (hV : mv_VV G.1 C B D) (hD : D ≤ 30 * j) {c d : Nat} (hc : c < C) (hd : d < 31) : p_ac j G (F_X6_ill 0 (nI c) (nI d)) (nI (if d = 0 then 0 else D + 1 + d)) j (p_ch G (mv_vu G.1 (16 + 12 * c + 9) (nI (if d = 0 then 0 else D + 1 + d)))) := by
  refine p_of (fun h0 I hr => ?_)
  obtain ⟨hD', hS, hP, hW⟩ := p_un hj hV hD hr
  have hR := xo_R1 hS
  have hC4 := hV.2.2.2.1
  have hB8 := hV.2.2.2.2.1
  obtain ⟨h0', I1, e1, hS', W1, F1, s2, hPx, -, fin⟩ := p_ck hr hC4 hB8 hW
  have hR' := xo_R1 hS'
  obtain ⟨I2, e2, W2, F2⟩ := st_c hR' hC4 hB8 W1 hc 3 (nI (if d = 0 then 0 else D + 1 + d)) (by omega)
  have V2 : mv_VV (mv_vu G.1 (16 + 12 * c + (3 + 6)) (nI (if d = 0 then 0 else D + 1 + d))) C B D := mv_VV_of hV (fun k hk => by unfold mv_rel at hk; exact mv_vu_ne (by omega))
  have r1 : I2 (1 + 4 + 2 * c) 3 = nI (if d = 0 then 0 else D + 1 + d) := by rw [(W2.2.2.1 c hc).2.2.1, mv_vu_eq]
  refine ⟨h0', I2, ?_, fin j _ _ (Nat.le_refl _) F2 ⟨D, C, B, hD, ⟨V2, mv_PV_v (fun b hb => mv_vu_ne (by omega)) hP⟩, W2⟩⟩
  unfold F_X6_ill J_X6_ill_56
  rw [xo_g0 hS, ro_rc hR, ev_bd (ro_carrierAt hR hW hV hc), ev_f (by simp), li30, ev_f (nI_pos (by omega)), ev_t (nI_le (by omega) (by omega)), xo_g3 hS, xo_g0 hS, hi_rc hS.2.2.2.2.1, ev_bd e1]
  by_cases hd0 : d = 0
  · subst hd0
    rw [ev_t mv_z0, show (0 : Int32) = nI (if 0 = 0 then 0 else D + 1 + 0) from rfl, e2, ro_cI hR' (by omega), r1]
    rfl
  · rw [ev_f (fun z => hd0 ((mv_eq0 (by omega)).mp z)), xo_g0 hS', ro_gI hR', W1.1.2.2.1, hV.1, li1, nI_add, nI_add, show nI (D + 1 + d) = nI (if d = 0 then 0 else D + 1 + d) by rw [if_neg hd0], e2, ro_cI hR' (by omega), r1]
    rfl
theorem cl_rono (hj : j < 500) (hV : mv_VV G.1 C B D) (hD : D ≤ 30 * j) {a b : Int32} (h : (a < 0 ∨ nI C ≤ a) ∨ ∃ c : Nat, c < C ∧ a = nI c ∧ (b < 0 ∨ nI (9 + 1) ≤ b)) : p_ac j G (F_X6_rough 0 a b) mv_n1 j G := by
  refine p_of (fun h0 I hr => ⟨h0, I, ?_, hr⟩)
  obtain ⟨hD', hS, hP, hW⟩ := p_un hj hV hD hr
  have hR := xo_R1 hS
  unfold F_X6_rough J_X6_rough_23
  rcases h with ha | ⟨c, hc, rfl, hb⟩
  · rw [xo_g0 hS, ro_rc hR, ev_bd (ro_carrierNo hR hW hV ha), ev_t rfl]; rfl
  · rw [xo_g0 hS, ro_rc hR, ev_bd (ro_carrierAt hR hW hV hc), ev_f (by simp), li9]
    by_cases h1 : b < 0
    · rw [ev_t h1]; rfl
    · rw [ev_f h1, ev_f (mv_hi (by omega) (hb.resolve_left h1)).2]; rfl
theorem cl_ro (hj : j < 500) (hV : mv_VV G.1 C B D) (hD : D ≤ 30 * j) {c d : Nat} (hc : c < C) (hd : d < 10) : p_ac j G (F_X6_rough 0 (nI c) (nI d)) (G.1 (16 + 12 * c + 8)) j (p_ch G (mv_vu G.1 (16 + 12 * c + 8) (nI d))) := by
  refine p_of (fun h0 I hr => ?_)
  obtain ⟨hD', hS, hP, hW⟩ := p_un hj hV hD hr
  have hR := xo_R1 hS
  have hC4 := hV.2.2.2.1
  have hB8 := hV.2.2.2.2.1
  obtain ⟨h0', I1, e1, hS', W1, F1, s2, hPx, -, fin⟩ := p_ck hr hC4 hB8 hW
  have hR' := xo_R1 hS'
  obtain ⟨I2, e2, W2, F2⟩ := st_c hR' hC4 hB8 W1 hc 2 (nI d) (by omega)
  have V2 : mv_VV (mv_vu G.1 (16 + 12 * c + (2 + 6)) (nI d)) C B D := mv_VV_of hV (fun k hk => by unfold mv_rel at hk; exact mv_vu_ne (by omega))
  refine ⟨h0', I2, ?_, fin j _ _ (Nat.le_refl _) F2 ⟨D, C, B, hD, ⟨V2, mv_PV_v (fun b hb => mv_vu_ne (by omega)) hP⟩, W2⟩⟩
  unfold F_X6_rough
  rw [xo_g0 hS, ro_rc hR, ev_bd (ro_carrierAt hR hW hV hc), ev_f (by simp), li9, ev_f (nI_pos (by omega)), ev_t (nI_le (by omega) (by omega)), ro_cI hR (by omega), (hW.2.2.1 c hc).2.1, xo_g3 hS, xo_g0 hS, hi_rc hS.2.2.2.2.1, ev_bd e1, e2]
  rfl
theorem cl_lono (hj : j < 500) (hV : mv_VV G.1 C B D) (hD : D ≤ 30 * j) {a : Int32} (h : a < nI 1 ∨ (¬ a < nI 1 ∧ ¬ a ≤ nI 8)) : p_ac j G (F_X6_load 0 a) mv_n1 j G := by
  refine p_of (fun h0 I hr => ⟨h0, I, ?_, hr⟩)
  unfold F_X6_load J_X6_load_11
  rw [li1, li8]
  rcases h with h | ⟨h1, h2⟩
  · rw [ev_t h]; rfl
  · rw [ev_f h1, ev_f h2]; rfl
theorem cl_lo (hj : j < 500) (hV : mv_VV G.1 C B D) (hD : D ≤ 30 * j) {d : Nat} (d1 : 1 ≤ d) (d2 : d ≤ 8) : p_ac j G (F_X6_load 0 (nI d)) (G.1 1) j (p_ch G (mv_vu G.1 1 (nI d))) := by
  refine p_of (fun h0 I hr => ?_)
  obtain ⟨hD', hS, hP, hW⟩ := p_un hj hV hD hr
  have hR := xo_R1 hS
  have hC4 := hV.2.2.2.1
  have hB8 := hV.2.2.2.2.1
  obtain ⟨h0', I1, e1, hS', W1, F1, s2, hPx, -, fin⟩ := p_ck hr hC4 hB8 hW
  have hR' := xo_R1 hS'
  obtain ⟨I2, e2, W2, F2⟩ := st_r hR' hB8 W1 6 1 (nI d) (by omega)
  have V2 : mv_VV (mv_vu G.1 1 (nI d)) C B D := mv_VV_of hV (fun k hk => by unfold mv_rel at hk; exact mv_vu_ne (by omega))
  refine ⟨h0', I2, ?_, fin j _ _ (Nat.le_refl _) F2 ⟨D, C, B, hD, ⟨V2, mv_PV_v (fun b hb => mv_vu_ne (by omega)) hP⟩, W2⟩⟩
  unfold F_X6_load
  rw [li1, li8, ev_f (nI_nlt d1 (by omega)), ev_t (nI_le d2 (by omega)), xo_g0 hS, ro_gI hR, hW.1.2.2.2.1, xo_g3 hS, xo_g0 hS, hi_rc hS.2.2.2.2.1, ev_bd e1, xo_g0 hS', e2]
  rfl
theorem cl_pono (hj : j < 500) (hV : mv_VV G.1 C B D) (hD : D ≤ 30 * j) {a b : Int32} (h : (a < 0 ∨ nI 6 ≤ a) ∨ (b < 0 ∨ nI 6 ≤ b) ∨ a = b) : p_ac j G (F_X6_post 0 a b) mv_n1 j G := by
  refine p_of (fun h0 I hr => ⟨h0, I, ?_, hr⟩)
  unfold F_X6_post
  rw [ev_bd (two_no h _), ev_t mv_z0]; rfl
theorem cl_po8 (hj : j < 500) (hV : mv_VV G.1 C 8 D) (hD : D ≤ 30 * j) {f t : Nat} (hf : f < 6) (ht : t < 6) (ne : f ≠ t) : p_ac j G (F_X6_post 0 (nI f) (nI t)) mv_n3 j G := by
  refine p_of (fun h0 I hr => ⟨h0, I, ?_, hr⟩)
  obtain ⟨hD', hS, hP, hW⟩ := p_un hj hV hD hr
  have hR := xo_R1 hS
  unfold F_X6_post
  rw [ev_bd (two_yes hf ht ne _), ev_f mv_z1, xo_g0 hS, ro_gI hR, hW.1.2.1, hV.2.2.1, li8, ev_f (nI_nlt (by omega) (by omega))]
  rfl
theorem cl_po (hj : j < 500) (hV : mv_VV G.1 C B D) (hD : D ≤ 30 * j) {f t : Nat} (hf : f < 6) (ht : t < 6) (ne : f ≠ t) (hB : B < 8) : p_ac j G (F_X6_post 0 (nI f) (nI t)) (mv_pp G.1 C D f t) j (p_ch G (mv_pw G.1 B D f t (mv_pp G.1 C D f t))) := by
  refine p_of (fun h0 I hr => ?_)
  obtain ⟨hD', hS, hP, hW⟩ := p_un hj hV hD hr
  have hR := xo_R1 hS
  have hC4 := hV.2.2.2.1
  have hB8 := hV.2.2.2.2.1
  have e4 := hV.2.2.1
  obtain ⟨h0', I1, e1, hS', W1, F1, s2, hPx, -, fin⟩ := p_ck hr hC4 hB8 hW
  have hR' := xo_R1 hS'
  have hF' := hS'.2.2.2.1
  obtain ⟨f2, g2, e2⟩ := fo_ifLying hF' (by omega) hR' W1 hV (show D < 100000 by omega) (show f ≤ 5 by omega) (show t ≤ 5 by omega)
  have W2 := mv_RV_fo (f := f2) (g := g2) (by omega) hR' hC4 hB8 W1
  obtain ⟨I3, e3, W3, F3⟩ := ro_addB (f := f) (t := t) (p := mv_pp G.1 C D f t) hR' W2 hV hB (by omega)
  have F2 : mv_fr 1 I1 I3 := mv_fr_trans mv_fr_fo F3
  refine ⟨h0', I3, ?_, fin j _ _ (Nat.le_refl _) F2 ⟨D, C, B + 1, by omega, ⟨mv_VV_pw hV hB (by omega) (by omega), mv_PV_pw hP (mv_pp_val (by omega))⟩, W3⟩⟩
  unfold F_X6_post
  rw [ev_bd (two_yes hf ht ne _), ev_f mv_z1, xo_g0 hS, ro_gI hR, hW.1.2.1, e4, li8, ev_t (nI_lt hB (by omega)), xo_g3 hS, xo_g0 hS, hi_rc hS.2.2.2.2.1, ev_bd e1, xo_g5 hS', xo_g0 hS', xo_g0 hS', ro_gI hR', W1.1.2.2.1, hV.1, fo_rc hF', ev_bd e2, xo_g0 hS', ro_rc hR', ev_bd e3]
  rfl
theorem cl_fono (hj : j < 500) (hV : mv_VV G.1 C B D) (hD : D ≤ 30 * j) : p_ac j G (F_X6_forget 0 (nI B)) mv_n1 j G := by
  refine p_of (fun h0 I hr => ⟨h0, I, ?_, hr⟩)
  obtain ⟨hD', hS, hP, hW⟩ := p_un hj hV hD hr
  have hR := xo_R1 hS
  have hB8 := hV.2.2.2.2.1
  unfold F_X6_forget
  rw [xo_g0 hS, ro_rc hR, ev_bd (ro_bundleNo hR hW hV (Or.inr (nI_le (Nat.le_refl _) (by omega)))), ev_t rfl]; rfl
theorem cl_fo (hj : j < 500) (hV : mv_VV G.1 C B D) (hD : D ≤ 30 * j) {b : Nat} (hb : b < B) : p_ac j G (F_X6_forget 0 (nI b)) (nI (B - 1)) j (p_ch G (mv_rv G.1 b B)) := by
  refine p_of (fun h0 I hr => ?_)
  have hr0 := hr
  obtain ⟨hD', hS, hP, hW⟩ := p_un hj hV hD hr
  have hR := xo_R1 hS
  have hC4 := hV.2.2.2.1
  have hB8 := hV.2.2.2.2.1
  obtain ⟨h0', I1, e1, hS', W1, F1, s2, hPx, ⟨p, z, ks, pd, hCI, hpr⟩, -⟩ := p_ck hr hC4 hB8 hW
  have hR' := xo_R1 hS'
  obtain ⟨I2, e2, W2, F2⟩ := ro_remB hR' W1 hV hb
  have hne : ∀ x, x ≠ 4 → (mv_hq h0' (mv_pq h0'.2.2.2 1 b B)).2.2.2 x = h0'.2.2.2 x := fun x hx => mv_pq_ne (by omega)
  have hRq := mv_RS_pq hR' hb hB8
  have hC2 := mv_CI_now2 (h0 := h0') (h1 := mv_hq h0' (mv_pq h0'.2.2.2 1 b B)) (Nat.le_refl j) rfl hne hRq F2 ⟨D, C, B - 1, by omega, ⟨mv_VV_rv hV hb, mv_PV_rv hP hb hB8⟩, W2⟩ hCI
  have hS2 := hC2.1
  refine ⟨mv_hq h0' (mv_pq h0'.2.2.2 1 b B), I2, ?_, s2.trans hr0.1, p, z, ks, pd, mv_CI_hp hC2, hpr _⟩
  unfold F_X6_forget
  rw [xo_g0 hS, ro_rc hR, ev_bd (ro_bundleAt hR hW hV hb), ev_f (by simp), xo_g3 hS, xo_g0 hS, hi_rc hS.2.2.2.2.1, ev_bd e1, xo_g0 hS', ro_rc hR', ev_bd e2, xo_g0 hS2, ro_gI hRq, W2.1.2.1]
  show mv_pu (mv_rv G.1 b B 4) _ = _
  rw [show mv_rv G.1 b B 4 = nI (B - 1) by unfold mv_rv; rw [if_neg (by omega), if_pos rfl]]
  rfl
theorem cl_pano (hj : j < 500) (hV : mv_VV G.1 C B D) (hD : D ≤ 30 * j) {a : Int32} (h : a < nI 1 ∨ (¬ a < nI 1 ∧ ¬ a ≤ nI 30)) : p_ac j G (F_X6_pass 0 a) mv_n1 j G := by
  refine p_of (fun h0 I hr => ⟨h0, I, ?_, hr⟩)
  unfold F_X6_pass J_X6_pass_11
  rw [li1, li30]
  rcases h with h | ⟨h1, h2⟩
  · rw [ev_t h]; rfl
  · rw [ev_f h1, ev_f h2]; rfl
theorem cl_pa (hj : j < 500) (hV : mv_VV G.1 C B D) (hD : D ≤ 30 * j) {N : Nat} (d1 : 1 ≤ N) (d2 : N ≤ 30) : p_ac j G (F_X6_pass 0 (nI N)) (nI (mv_ps C B D N G.1).2.1) (j + 1) (p_ch G (mv_ps C B D N G.1).2.2) := by
  refine p_of (fun h0 I hr => ?_)
  obtain ⟨hD', hS, hP, hW⟩ := p_un hj hV hD hr
  have hR := xo_R1 hS
  have hC4 := hV.2.2.2.1
  have hB8 := hV.2.2.2.2.1
  obtain ⟨h0', I1, e1, hS', W1, F1, s2, hPx, -, fin⟩ := p_ck hr hC4 hB8 hW
  have hR' := xo_R1 hS'
  have hF' := hS'.2.2.2.1
  obtain ⟨n, I2, e2, W2, F2⟩ := mv_lp (L := fun n k (J : Nat → Nat → Int32) => Lp_X6_pass_34 0 (nI N) (G.1 6) n (nI k) (mv_hp h0' J)) (fun k J => mv_RV h0' J 1 (mv_it (mv_ds C B) k 0 (D, 0, G.1)).2.2 C B ∧ mv_fr 1 I1 J) N (by omega)
    (fun n k J hk hP => by
      obtain ⟨p1, p2⟩ := hP
      obtain ⟨J', z1, z2, z3⟩ := ro_passN (I := J) hF' (by omega) hR' hV hD' (show k ≤ 30 by omega) p1
      rw [Lp_X6_pass_34, ev_f (nI_ge hk (by omega)), xo_g0 hS', xo_g5 hS', ro_rc hR', ev_bd z1, li1, nI_add]
      exact ⟨J', rfl, z2, mv_fr_trans p2 z3⟩)
    I1 ⟨W1, mv_fr_rfl⟩
  have V2 : mv_VV (mv_ps C B D N G.1).2.2 C B (D + N) := mv_VV_ps N 0 (D, 0, G.1) hV
  have W2' : mv_RV h0' I2 1 (mv_ps C B D N G.1).2.2 C B := W2
  refine ⟨h0', I2, ?_, fin (j + 1) _ _ (Nat.le_succ _) F2 ⟨D + N, C, B, by omega, ⟨V2, mv_PV_ps hP⟩, W2'⟩⟩
  unfold F_X6_pass
  have e2' : Lp_X6_pass_34 0 (nI N) (G.1 6) mv_FU 0 (mv_hp h0' I1) = Lp_X6_pass_34 0 (nI N) (G.1 6) (n + 1) (nI N) (mv_hp h0' I2) := e2
  rw [li1, li30, ev_f (nI_nlt d1 (by omega)), ev_t (nI_le d2 (by omega)), xo_g0 hS, ro_gI hR, hW.1.2.2.2.2.2.2.1, xo_g3 hS, xo_g0 hS, hi_rc hS.2.2.2.2.1, ev_bd e1, e2', Lp_X6_pass_34, ev_t (nI_le (Nat.le_refl _) (by omega)), xo_g0 hS', ro_gI hR', W2'.1.2.2.2.2.2.2.1, mv_ps_v6, Int32.add_comm, Int32.add_sub_cancel]
  rfl
theorem cl_unno {j : Nat} {v : Nat → Int32} {ks : Option (Nat → Int32)} {pd : List Nat} : p_ac j (v, [], ks, pd) (F_X6_undo 0) mv_n2 j (v, [], ks, pd) := by
  refine p_of (fun h0 I hr => ⟨h0, I, ?_, hr⟩)
  obtain ⟨p, z, ks', pd', ⟨hS, -, ⟨a1, -⟩, -⟩, -⟩ := p_CI hr
  have hH := hS.2.2.2.2.1
  have a1' : I 61 1 = nI 0 := a1
  unfold F_X6_undo
  rw [xo_g3 hS, hi_gI hH, a1', ev_t mv_z0]; rfl
theorem cl_un {j : Nat} {v u : Nat → Int32} {hs : List (Nat → Int32)} {ks : Option (Nat → Int32)} {pd : List Nat} : p_ac j (v, u :: hs, ks, pd) (F_X6_undo 0) (nI hs.length) j (u, hs, ks, pd) := by
  refine p_of (fun h0 I hr => ?_)
  have hr0 := hr
  obtain ⟨p, z, ks', pd', hc, hp1, hp2, hp3⟩ := p_CI hr
  have hS := hc.1
  have hH := hS.2.2.2.2.1
  have a1 := hc.2.2.1.1
  have a2 := hc.2.2.1.2.1
  have hl : (u :: hs).length = hs.length + 1 := rfl
  have hc1 : mv_CI j h0 I v (hs.length + 1) p z ks' pd.length pd' := hc
  obtain ⟨I1, e1, F1, g1, hcb⟩ := hi_back (show 1 ≤ hs.length + 1 by omega) hc1
  have a1' : I 61 1 = nI (hs.length + 1) := a1
  have a2' : hs.length + 1 ≤ 4 := a2
  rw [show hs.length + 1 - 1 = hs.length by omega] at hcb g1
  refine ⟨h0, I1, ?_, hr0.1, p, z, ks', pd', mv_CI_hp ⟨hcb.1, mv_OK_v (Nat.le_refl _) (fun i hi => ?_) hcb.2.1, hcb.2.2⟩, fun k w hk i hi => ?_, hp2, hp3⟩
  · unfold F_X6_undo
    rw [xo_g3 hS, hi_gI hH, a1', ev_f (fun x => by have := (mv_eq0 (by omega)).mp x; omega), xo_g3 hS, xo_g0 hS, hi_rc hH, ev_bd e1, xo_g3 hS, hi_gI hH, g1]
    rfl
  · have := hp1 0 u rfl i hi
    have e : (u :: hs).length - 1 - 0 = hs.length := by simp
    rw [e] at this
    exact this.symm
  · have := hp1 (k + 1) w hk i hi
    have e : (u :: hs).length - 1 - (k + 1) = hs.length - 1 - k := by simp; omega
    rw [e] at this
    exact this
theorem cl_sa (hj : j < 500) (hV : mv_VV G.1 C B D) (hD : D ≤ 30 * j) : p_ac j G (F_X6_save 0) (nI D) j (G.1, G.2.1, some G.1, G.2.2.2) := by
  refine p_of (fun h0 I hr => ?_)
  have hr0 := hr
  obtain ⟨hD', hS, hP, hW⟩ := p_un hj hV hD hr
  obtain ⟨p, z, ks, pd, hc, hp1, hp2, hp3⟩ := p_CI hr
  have hR := xo_R1 hS
  have hR41 := xo_R41 hS
  obtain ⟨I1, e1, W1, F1⟩ := ro_copy hR41 hR (by omega) (by omega) (by omega) hW hV
  have f : ∀ i, 61 ≤ i ∨ i < 41 → i ≠ 145 → i ≠ 146 → I1 i = I i := fun i hi h2 h3 => F1 i (by omega) h2 h3
  have r5 : mv_si I1 0 (mv_vu (I1 0) 6 (nI 1)) 1 5 = nI D := by rw [mv_si_ne (by omega), f 1 (by omega) (by omega) (by omega), hW.1.2.2.1]; exact hV.1
  refine ⟨h0, mv_si I1 0 (mv_vu (I1 0) 6 (nI 1)), ?_, hr0.1, p, nI 1, G.1, pd, mv_CI_hp ?_, hp1, Or.inr ⟨G.1, rfl, rfl, fun _ _ => rfl⟩, hp3⟩
  · unfold F_X6_save
    rw [xo_g2 hS, xo_g0 hS, ro_rc hR41, ev_bd e1, li1, ev_sZ (xo_k hS) (show nI 1 = 0 ∨ nI 1 = 1 from Or.inr rfl), xo_g0 hS, ro_gI hR, r5]
    rfl
  · show mv_CI j h0 (mv_si I1 0 (mv_vu (I1 0) 6 (nI 1))) G.1 G.2.1.length p (nI 1) G.1 G.2.2.2.length pd
    obtain ⟨-, hO, ⟨a1, a2, a3⟩, ⟨b1, b2⟩, c1⟩ := hc
    refine ⟨hS, mv_OK_congr hR (fun _ => rfl) (fun i w1 w2 => by rw [mv_si_ne (by omega)]; exact f i (by omega) (by omega) (by omega)) hO, ⟨by rw [mv_si_ne (by omega), f 61 (by omega) (by omega) (by omega)]; exact a1, a2, fun k hk => ?_⟩, ⟨by rw [mv_si_eq, mv_vu_eq], Or.inr ⟨rfl, ?_⟩⟩, mv_PD_congr (by rw [mv_si_ne (by omega), f 143 (by omega) (by omega) (by omega)]) (by rw [mv_si_ne (by omega), f 144 (by omega) (by omega) (by omega)]) c1⟩
    · have rg := mv_sr_rng hS (show k < 4 by omega)
      exact mv_OK_congr (mv_st63 hS (by omega)) (fun _ => rfl) (fun i w1 w2 => by rw [mv_si_ne (by omega)]; exact f i (by omega) (by omega) (by omega)) (a3 k hk)
    · exact mv_OK_congr hR41 (fun _ => rfl) (fun i w1 w2 => mv_si_ne (by omega)) ⟨D, C, B, hD, ⟨hV, hP⟩, W1⟩
theorem cl_reno {j : Nat} {v : Nat → Int32} {hs : List (Nat → Int32)} {pd : List Nat} : p_ac j (v, hs, none, pd) (F_X6_restore 0) mv_n2 j (v, hs, none, pd) := by
  refine p_of (fun h0 I hr => ⟨h0, I, ?_, hr⟩)
  obtain ⟨p, z, ks', pd', ⟨hS, -, -, ⟨b1, -⟩, -⟩, -, hp2, -⟩ := p_CI hr
  have hz : z = 0 := by
    rcases hp2 with h | ⟨u, h, -⟩
    · exact h.2
    · cases h
  unfold F_X6_restore
  rw [xo_gI hS, b1, ev_t hz]; rfl
theorem cl_re {v u : Nat → Int32} {hs : List (Nat → Int32)} {pd : List Nat} {C2 B2 D2 : Nat} (hj : j < 500) (hV : mv_VV v C B D) (hD : D ≤ 30 * j) (hV2 : mv_VV u C2 B2 D2) (hD2 : D2 < 100000) : p_ac j (v, hs, some u, pd) (F_X6_restore 0) (nI D2) j (p_ch (v, hs, some u, pd) u) := by
  refine p_of (fun h0 I hr => ?_)
  have hr0 := hr
  obtain ⟨hD', hS, hP, hW⟩ := p_un (G := (v, hs, some u, pd)) hj hV hD hr
  have hR := xo_R1 hS
  have hC4 := hV.2.2.2.1
  have hB8 := hV.2.2.2.2.1
  obtain ⟨h0', I1, e1, hS', W1, F1, s2, hPx, ⟨p, z, ks, pd', hCI, hpr⟩, fin⟩ := p_ck hr hC4 hB8 hW
  have hR' := xo_R1 hS'
  have hR41 := xo_R41 hS'
  obtain ⟨-, -, -, ⟨c1, c2⟩, -⟩ := hCI
  obtain ⟨-, hp2, -⟩ := hpr v
  have hz : z = 1 ∧ ∀ i, i < 128 → ks i = u i := by
    rcases hp2 with h | ⟨w, h1, h2, h3⟩
    · cases h.1
    · cases h1; exact ⟨h2, h3⟩
  obtain ⟨hz1, hks⟩ := hz
  have b1 : I 0 6 = 1 := by rw [← F1 0 (by omega) (by omega) (by omega), c1, hz1]
  rcases c2 with c2 | ⟨-, hO⟩
  · rw [hz1] at c2; exact absurd c2 (by decide)
  obtain ⟨D3, C3, B3, g1, ⟨g2, g3⟩, g4⟩ := mv_OK_v (Nat.le_refl _) (fun k hk => (hks k hk).symm) hO
  obtain ⟨I2, e2, W2, F2⟩ := ro_copy hR' hR41 (by omega) (by omega) (by omega) g4 g2
  have eD : D3 = D2 := (mv_eq (by omega) (by omega)).mp (g2.1.symm.trans hV2.1)
  refine ⟨h0', I2, ?_, fin j _ _ (Nat.le_refl _) F2 ⟨D3, C3, B3, g1, ⟨g2, g3⟩, W2⟩⟩
  unfold F_X6_restore
  rw [xo_gI hS, b1, ev_f (by decide), xo_g3 hS, xo_g0 hS, hi_rc hS.2.2.2.2.1, ev_bd e1, xo_g0 hS', xo_g2 hS', ro_rc hR', ev_bd e2, xo_g0 hS', ro_gI hR', W2.1.2.2.1, g2.1, eD]
  rfl
end PC
