section PL
variable {j : Nat} {G : p_G} {C B D : Nat}
def p_st (v : Nat → Int32) (D : Nat) : Int32 := if mv_sw v D = nI 6 then mv_n4 else mv_sw v D
theorem cl_ct1 (hj : j < 500) (hV : mv_VV G.1 C B D) (hD : D ≤ 30 * j) : p_ac j G (F_X6_count 0 (1 : Int32)) (p_st G.1 D) j G := by
  refine p_of (fun h0 I hr => ⟨h0, I, ?_, hr⟩)
  obtain ⟨hD', hS, hP, hW⟩ := p_un hj hV hD hr
  have hR := xo_R1 hS
  have e0 := hV.1
  have hC4 := hV.2.2.2.1
  have hB8 := hV.2.2.2.2.1
  have e4 := hV.2.2.1
  have e3 := hV.2.1
  obtain ⟨r3, r4, r5, r6, r7, r8, r9, r10, r11⟩ := hW.1
  have es : F_X6_stallToday 0 (mv_hp h0 I) = some (p_st G.1 D, mv_hp h0 I) := by
    unfold F_X6_stallToday J_X6_stallToday_27 p_st
    rw [xo_g0 hS, xo_g0 hS, ro_gI hR, r5, e0, ro_rc hR, ro_stallOn' hR hW (by omega), li6, li4, lin4]
    by_cases q : mv_sw G.1 D = nI 6
    · rw [ev_t q, if_pos q]; rfl
    · rw [ev_f q, if_neg q]; rfl
  unfold F_X6_count
  rw [ev_f (by decide), ev_t rfl, xo_rc hS, ev_bd es]
  rfl

theorem cl_ct0 (hj : j < 500) (hV : mv_VV G.1 C B D) (hD : D ≤ 30 * j) : p_ac j G (F_X6_count 0 (0 : Int32)) (G.1 0) j G := by
  refine p_of (fun h0 I hr => ⟨h0, I, ?_, hr⟩)
  obtain ⟨hD', hS, hP, hW⟩ := p_un hj hV hD hr
  have hR := xo_R1 hS
  have e0 := hV.1
  have hC4 := hV.2.2.2.1
  have hB8 := hV.2.2.2.2.1
  have e4 := hV.2.2.1
  have e3 := hV.2.1
  obtain ⟨r3, r4, r5, r6, r7, r8, r9, r10, r11⟩ := hW.1
  unfold F_X6_count
  rw [ev_t rfl, xo_g0 hS, ro_gI hR, r5]
  rfl

theorem cl_ct2 (hj : j < 500) (hV : mv_VV G.1 C B D) (hD : D ≤ 30 * j) : p_ac j G (F_X6_count 0 (2 : Int32)) (G.1 3) j G := by
  refine p_of (fun h0 I hr => ⟨h0, I, ?_, hr⟩)
  obtain ⟨hD', hS, hP, hW⟩ := p_un hj hV hD hr
  have hR := xo_R1 hS
  have e0 := hV.1
  have hC4 := hV.2.2.2.1
  have hB8 := hV.2.2.2.2.1
  have e4 := hV.2.2.1
  have e3 := hV.2.1
  obtain ⟨r3, r4, r5, r6, r7, r8, r9, r10, r11⟩ := hW.1
  unfold F_X6_count
  rw [ev_f (by decide), ev_f (by decide), ev_t rfl, xo_g0 hS, ro_gI hR, r3]
  rfl

theorem cl_ct3 (hj : j < 500) (hV : mv_VV G.1 C B D) (hD : D ≤ 30 * j) : p_ac j G (F_X6_count 0 (3 : Int32)) (mv_io G.1 C D) j G := by
  refine p_of (fun h0 I hr => ⟨h0, I, ?_, hr⟩)
  obtain ⟨hD', hS, hP, hW⟩ := p_un hj hV hD hr
  have hR := xo_R1 hS
  have e0 := hV.1
  have hC4 := hV.2.2.2.1
  have hB8 := hV.2.2.2.2.1
  have e4 := hV.2.2.1
  have e3 := hV.2.1
  obtain ⟨r3, r4, r5, r6, r7, r8, r9, r10, r11⟩ := hW.1
  unfold F_X6_count
  rw [ev_f (by decide), ev_f (by decide), ev_f (by decide), ev_t rfl, xo_g0 hS, ro_rc hR, ev_bd (ro_illToday hR hW hV (by omega) (fun c hc => by rcases mv_tw_tc hV hc D with ⟨q1, q2⟩ | ⟨t, q0, q1, q2⟩; exact ⟨fun _ => q2, fun _ => q1⟩; rw [q1, q2]; exact ⟨fun z => absurd z (mv_n1_ne (by omega)), fun z => absurd z (mv_n4_ne (by omega))⟩))]
  rfl

theorem cl_ct4 (hj : j < 500) (hV : mv_VV G.1 C B D) (hD : D ≤ 30 * j) : p_ac j G (F_X6_count 0 (4 : Int32)) (G.1 4) j G := by
  refine p_of (fun h0 I hr => ⟨h0, I, ?_, hr⟩)
  obtain ⟨hD', hS, hP, hW⟩ := p_un hj hV hD hr
  have hR := xo_R1 hS
  have e0 := hV.1
  have hC4 := hV.2.2.2.1
  have hB8 := hV.2.2.2.2.1
  have e4 := hV.2.2.1
  have e3 := hV.2.1
  obtain ⟨r3, r4, r5, r6, r7, r8, r9, r10, r11⟩ := hW.1
  unfold F_X6_count
  rw [ev_f (by decide), ev_f (by decide), ev_f (by decide), ev_f (by decide), ev_t rfl, xo_g0 hS, ro_gI hR, r4]
  rfl

theorem cl_ct5 (hj : j < 500) (hV : mv_VV G.1 C B D) (hD : D ≤ 30 * j) : p_ac j G (F_X6_count 0 (5 : Int32)) (mv_bb G.1 B 1) j G := by
  refine p_of (fun h0 I hr => ⟨h0, I, ?_, hr⟩)
  obtain ⟨hD', hS, hP, hW⟩ := p_un hj hV hD hr
  have hR := xo_R1 hS
  have e0 := hV.1
  have hC4 := hV.2.2.2.1
  have hB8 := hV.2.2.2.2.1
  have e4 := hV.2.2.1
  have e3 := hV.2.1
  obtain ⟨r3, r4, r5, r6, r7, r8, r9, r10, r11⟩ := hW.1
  unfold F_X6_count
  rw [ev_f (by decide), ev_f (by decide), ev_f (by decide), ev_f (by decide), ev_f (by decide), ev_t rfl, xo_g0 hS, ro_rc hR, ev_bd (ro_lying hR hW hV)]
  rfl

theorem cl_ct6 (hj : j < 500) (hV : mv_VV G.1 C B D) (hD : D ≤ 30 * j) : p_ac j G (F_X6_count 0 (6 : Int32)) (mv_bb G.1 B 2) j G := by
  refine p_of (fun h0 I hr => ⟨h0, I, ?_, hr⟩)
  obtain ⟨hD', hS, hP, hW⟩ := p_un hj hV hD hr
  have hR := xo_R1 hS
  have e0 := hV.1
  have hC4 := hV.2.2.2.1
  have hB8 := hV.2.2.2.2.1
  have e4 := hV.2.2.1
  have e3 := hV.2.1
  obtain ⟨r3, r4, r5, r6, r7, r8, r9, r10, r11⟩ := hW.1
  unfold F_X6_count
  rw [ev_f (by decide), ev_f (by decide), ev_f (by decide), ev_f (by decide), ev_f (by decide), ev_f (by decide), ev_t rfl, xo_g0 hS, ro_gI hR, r4, e4, xo_g0 hS, ro_rc hR, ev_bd (ro_lying hR hW hV), xo_g0 hS, ro_rc hR, ev_bd (ro_arrived hR hW hV (by omega)), mv_bb_6 hV (by omega)]
  rfl

theorem cl_ct7 (hj : j < 500) (hV : mv_VV G.1 C B D) (hD : D ≤ 30 * j) : p_ac j G (F_X6_count 0 (7 : Int32)) (mv_bb G.1 B 3) j G := by
  refine p_of (fun h0 I hr => ⟨h0, I, ?_, hr⟩)
  obtain ⟨hD', hS, hP, hW⟩ := p_un hj hV hD hr
  have hR := xo_R1 hS
  have e0 := hV.1
  have hC4 := hV.2.2.2.1
  have hB8 := hV.2.2.2.2.1
  have e4 := hV.2.2.1
  have e3 := hV.2.1
  obtain ⟨r3, r4, r5, r6, r7, r8, r9, r10, r11⟩ := hW.1
  unfold F_X6_count
  rw [ev_f (by decide), ev_f (by decide), ev_f (by decide), ev_f (by decide), ev_f (by decide), ev_f (by decide), ev_f (by decide), ev_t rfl, xo_g0 hS, ro_rc hR, ev_bd (ro_arrived hR hW hV (by omega))]
  rfl

theorem cl_ct8 (hj : j < 500) (hV : mv_VV G.1 C B D) (hD : D ≤ 30 * j) : p_ac j G (F_X6_count 0 (8 : Int32)) (mv_bb G.1 B 5) j G := by
  refine p_of (fun h0 I hr => ⟨h0, I, ?_, hr⟩)
  obtain ⟨hD', hS, hP, hW⟩ := p_un hj hV hD hr
  have hR := xo_R1 hS
  have e0 := hV.1
  have hC4 := hV.2.2.2.1
  have hB8 := hV.2.2.2.2.1
  have e4 := hV.2.2.1
  have e3 := hV.2.1
  obtain ⟨r3, r4, r5, r6, r7, r8, r9, r10, r11⟩ := hW.1
  unfold F_X6_count
  rw [ev_f (by decide), ev_f (by decide), ev_f (by decide), ev_f (by decide), ev_f (by decide), ev_f (by decide), ev_f (by decide), ev_f (by decide), ev_t rfl, xo_g0 hS, ro_rc hR, ev_bd (ro_broken hR hW hV)]
  rfl

theorem cl_ct9 (hj : j < 500) (hV : mv_VV G.1 C B D) (hD : D ≤ 30 * j) : p_ac j G (F_X6_count 0 (9 : Int32)) (G.1 5) j G := by
  refine p_of (fun h0 I hr => ⟨h0, I, ?_, hr⟩)
  obtain ⟨hD', hS, hP, hW⟩ := p_un hj hV hD hr
  have hR := xo_R1 hS
  have e0 := hV.1
  have hC4 := hV.2.2.2.1
  have hB8 := hV.2.2.2.2.1
  have e4 := hV.2.2.1
  have e3 := hV.2.1
  obtain ⟨r3, r4, r5, r6, r7, r8, r9, r10, r11⟩ := hW.1
  unfold F_X6_count
  rw [ev_f (by decide), ev_f (by decide), ev_f (by decide), ev_f (by decide), ev_f (by decide), ev_f (by decide), ev_f (by decide), ev_f (by decide), ev_f (by decide), ev_t rfl, xo_g0 hS, ro_gI hR, r8]
  rfl

theorem cl_ct10 (hj : j < 500) (hV : mv_VV G.1 C B D) (hD : D ≤ 30 * j) : p_ac j G (F_X6_count 0 (10 : Int32)) (G.1 6) j G := by
  refine p_of (fun h0 I hr => ⟨h0, I, ?_, hr⟩)
  obtain ⟨hD', hS, hP, hW⟩ := p_un hj hV hD hr
  have hR := xo_R1 hS
  have e0 := hV.1
  have hC4 := hV.2.2.2.1
  have hB8 := hV.2.2.2.2.1
  have e4 := hV.2.2.1
  have e3 := hV.2.1
  obtain ⟨r3, r4, r5, r6, r7, r8, r9, r10, r11⟩ := hW.1
  unfold F_X6_count
  rw [ev_f (by decide), ev_f (by decide), ev_f (by decide), ev_f (by decide), ev_f (by decide), ev_f (by decide), ev_f (by decide), ev_f (by decide), ev_f (by decide), ev_f (by decide), ev_t rfl, xo_g0 hS, ro_gI hR, r9]
  rfl

theorem cl_ct11 (hj : j < 500) (hV : mv_VV G.1 C B D) (hD : D ≤ 30 * j) : p_ac j G (F_X6_count 0 (11 : Int32)) (G.1 7) j G := by
  refine p_of (fun h0 I hr => ⟨h0, I, ?_, hr⟩)
  obtain ⟨hD', hS, hP, hW⟩ := p_un hj hV hD hr
  have hR := xo_R1 hS
  have e0 := hV.1
  have hC4 := hV.2.2.2.1
  have hB8 := hV.2.2.2.2.1
  have e4 := hV.2.2.1
  have e3 := hV.2.1
  obtain ⟨r3, r4, r5, r6, r7, r8, r9, r10, r11⟩ := hW.1
  unfold F_X6_count
  rw [ev_f (by decide), ev_f (by decide), ev_f (by decide), ev_f (by decide), ev_f (by decide), ev_f (by decide), ev_f (by decide), ev_f (by decide), ev_f (by decide), ev_f (by decide), ev_f (by decide), ev_t rfl, xo_g0 hS, ro_gI hR, r10]
  rfl

theorem cl_ct12 (hj : j < 500) (hV : mv_VV G.1 C B D) (hD : D ≤ 30 * j) : p_ac j G (F_X6_count 0 (12 : Int32)) (G.1 8) j G := by
  refine p_of (fun h0 I hr => ⟨h0, I, ?_, hr⟩)
  obtain ⟨hD', hS, hP, hW⟩ := p_un hj hV hD hr
  have hR := xo_R1 hS
  have e0 := hV.1
  have hC4 := hV.2.2.2.1
  have hB8 := hV.2.2.2.2.1
  have e4 := hV.2.2.1
  have e3 := hV.2.1
  obtain ⟨r3, r4, r5, r6, r7, r8, r9, r10, r11⟩ := hW.1
  unfold F_X6_count
  rw [ev_f (by decide), ev_f (by decide), ev_f (by decide), ev_f (by decide), ev_f (by decide), ev_f (by decide), ev_f (by decide), ev_f (by decide), ev_f (by decide), ev_f (by decide), ev_f (by decide), ev_f (by decide), ev_t rfl, xo_g0 hS, ro_gI hR, r11]
  rfl

theorem cl_ct13 (hj : j < 500) (hV : mv_VV G.1 C B D) (hD : D ≤ 30 * j) : p_ac j G (F_X6_count 0 (13 : Int32)) (G.1 1) j G := by
  refine p_of (fun h0 I hr => ⟨h0, I, ?_, hr⟩)
  obtain ⟨hD', hS, hP, hW⟩ := p_un hj hV hD hr
  have hR := xo_R1 hS
  have e0 := hV.1
  have hC4 := hV.2.2.2.1
  have hB8 := hV.2.2.2.2.1
  have e4 := hV.2.2.1
  have e3 := hV.2.1
  obtain ⟨r3, r4, r5, r6, r7, r8, r9, r10, r11⟩ := hW.1
  unfold F_X6_count
  rw [ev_f (by decide), ev_f (by decide), ev_f (by decide), ev_f (by decide), ev_f (by decide), ev_f (by decide), ev_f (by decide), ev_f (by decide), ev_f (by decide), ev_f (by decide), ev_f (by decide), ev_f (by decide), ev_f (by decide), ev_t rfl, xo_g0 hS, ro_gI hR, r6]
  rfl

theorem cl_ct14 (hj : j < 500) (hV : mv_VV G.1 C B D) (hD : D ≤ 30 * j) : p_ac j G (F_X6_count 0 (14 : Int32)) (G.1 2) j G := by
  refine p_of (fun h0 I hr => ⟨h0, I, ?_, hr⟩)
  obtain ⟨hD', hS, hP, hW⟩ := p_un hj hV hD hr
  have hR := xo_R1 hS
  have e0 := hV.1
  have hC4 := hV.2.2.2.1
  have hB8 := hV.2.2.2.2.1
  have e4 := hV.2.2.1
  have e3 := hV.2.1
  obtain ⟨r3, r4, r5, r6, r7, r8, r9, r10, r11⟩ := hW.1
  unfold F_X6_count
  rw [ev_f (by decide), ev_f (by decide), ev_f (by decide), ev_f (by decide), ev_f (by decide), ev_f (by decide), ev_f (by decide), ev_f (by decide), ev_f (by decide), ev_f (by decide), ev_f (by decide), ev_f (by decide), ev_f (by decide), ev_f (by decide), ev_t rfl, xo_g0 hS, ro_gI hR, r7]
  rfl

theorem cl_ct15 (hj : j < 500) (hV : mv_VV G.1 C B D) (hD : D ≤ 30 * j) : p_ac j G (F_X6_count 0 (15 : Int32)) (nI G.2.2.2.length) j G := by
  refine p_of (fun h0 I hr => ⟨h0, I, ?_, hr⟩)
  obtain ⟨hD', hS, hP, hW⟩ := p_un hj hV hD hr
  have hR := xo_R1 hS
  have e0 := hV.1
  have hC4 := hV.2.2.2.1
  have hB8 := hV.2.2.2.2.1
  have e4 := hV.2.2.1
  have e3 := hV.2.1
  obtain ⟨r3, r4, r5, r6, r7, r8, r9, r10, r11⟩ := hW.1
  obtain ⟨p, z, ks, pd, ⟨-, -, ⟨l1, -⟩, -, ⟨m1, -⟩⟩, -⟩ := p_CI hr
  unfold F_X6_count
  rw [ev_f (by decide), ev_f (by decide), ev_f (by decide), ev_f (by decide), ev_f (by decide), ev_f (by decide), ev_f (by decide), ev_f (by decide), ev_f (by decide), ev_f (by decide), ev_f (by decide), ev_f (by decide), ev_f (by decide), ev_f (by decide), ev_f (by decide), ev_t rfl, xo_g4 hS, ev_gI (show h0.1[143]? = some (4, 2) by rw [hS.1]; rfl), m1]
  rfl

theorem cl_ct16 (hj : j < 500) (hV : mv_VV G.1 C B D) (hD : D ≤ 30 * j) : p_ac j G (F_X6_count 0 (16 : Int32)) (nI G.2.1.length) j G := by
  refine p_of (fun h0 I hr => ⟨h0, I, ?_, hr⟩)
  obtain ⟨hD', hS, hP, hW⟩ := p_un hj hV hD hr
  have hR := xo_R1 hS
  have e0 := hV.1
  have hC4 := hV.2.2.2.1
  have hB8 := hV.2.2.2.2.1
  have e4 := hV.2.2.1
  have e3 := hV.2.1
  obtain ⟨r3, r4, r5, r6, r7, r8, r9, r10, r11⟩ := hW.1
  obtain ⟨p, z, ks, pd, ⟨-, -, ⟨l1, -⟩, -, ⟨m1, -⟩⟩, -⟩ := p_CI hr
  unfold F_X6_count
  rw [ev_f (by decide), ev_f (by decide), ev_f (by decide), ev_f (by decide), ev_f (by decide), ev_f (by decide), ev_f (by decide), ev_f (by decide), ev_f (by decide), ev_f (by decide), ev_f (by decide), ev_f (by decide), ev_f (by decide), ev_f (by decide), ev_f (by decide), ev_f (by decide), ev_t rfl, xo_g3 hS, hi_gI hS.2.2.2.2.1, l1]
  rfl

theorem cl_cano (hj : j < 500) (hV : mv_VV G.1 C B D) (hD : D ≤ 30 * j) : p_ac j G (F_X6_carrier 0 (nI C) (0 : Int32)) mv_n1 j G := by
  refine p_of (fun h0 I hr => ⟨h0, I, ?_, hr⟩)
  obtain ⟨hD', hS, hP, hW⟩ := p_un hj hV hD hr
  have hR := xo_R1 hS
  have e0 := hV.1
  have hC4 := hV.2.2.2.1
  have hB8 := hV.2.2.2.2.1
  have e4 := hV.2.2.1
  have e3 := hV.2.1
  obtain ⟨r3, r4, r5, r6, r7, r8, r9, r10, r11⟩ := hW.1
  unfold F_X6_carrier
  rw [xo_g0 hS, ro_rc hR, ev_bd (ro_carrierNo hR hW hV (Or.inr (nI_le (Nat.le_refl _) (by omega)))), ev_t rfl]
  rfl

theorem cl_ca0 (hj : j < 500) (hV : mv_VV G.1 C B D) (hD : D ≤ 30 * j) {c : Nat} (hc : c < C) : p_ac j G (F_X6_carrier 0 (nI c) (0 : Int32)) (G.1 (16 + 12 * c + 0)) j G := by
  refine p_of (fun h0 I hr => ⟨h0, I, ?_, hr⟩)
  obtain ⟨hD', hS, hP, hW⟩ := p_un hj hV hD hr
  have hR := xo_R1 hS
  have e0 := hV.1
  have hC4 := hV.2.2.2.1
  have hB8 := hV.2.2.2.2.1
  have e4 := hV.2.2.1
  have e3 := hV.2.1
  obtain ⟨r3, r4, r5, r6, r7, r8, r9, r10, r11⟩ := hW.1
  obtain ⟨w1, w2, w3, w4, w5, -⟩ := hW.2.2.1 c hc
  unfold F_X6_carrier
  rw [xo_g0 hS, ro_rc hR, ev_bd (ro_carrierAt hR hW hV hc), ev_f (by simp), ev_t rfl, ro_cI hR (by omega), w1]
  rfl

theorem cl_ca1 (hj : j < 500) (hV : mv_VV G.1 C B D) (hD : D ≤ 30 * j) {c : Nat} (hc : c < C) : p_ac j G (F_X6_carrier 0 (nI c) (1 : Int32)) (G.1 (16 + 12 * c + 8)) j G := by
  refine p_of (fun h0 I hr => ⟨h0, I, ?_, hr⟩)
  obtain ⟨hD', hS, hP, hW⟩ := p_un hj hV hD hr
  have hR := xo_R1 hS
  have e0 := hV.1
  have hC4 := hV.2.2.2.1
  have hB8 := hV.2.2.2.2.1
  have e4 := hV.2.2.1
  have e3 := hV.2.1
  obtain ⟨r3, r4, r5, r6, r7, r8, r9, r10, r11⟩ := hW.1
  obtain ⟨w1, w2, w3, w4, w5, -⟩ := hW.2.2.1 c hc
  unfold F_X6_carrier
  rw [xo_g0 hS, ro_rc hR, ev_bd (ro_carrierAt hR hW hV hc), ev_f (by simp), ev_f (by decide), ev_t rfl, ro_cI hR (by omega), w2]
  rfl

theorem cl_ca2 (hj : j < 500) (hV : mv_VV G.1 C B D) (hD : D ≤ 30 * j) {c : Nat} (hc : c < C) : p_ac j G (F_X6_carrier 0 (nI c) (2 : Int32)) (mv_hs G.1 B c) j G := by
  refine p_of (fun h0 I hr => ⟨h0, I, ?_, hr⟩)
  obtain ⟨hD', hS, hP, hW⟩ := p_un hj hV hD hr
  have hR := xo_R1 hS
  have e0 := hV.1
  have hC4 := hV.2.2.2.1
  have hB8 := hV.2.2.2.2.1
  have e4 := hV.2.2.1
  have e3 := hV.2.1
  obtain ⟨r3, r4, r5, r6, r7, r8, r9, r10, r11⟩ := hW.1
  obtain ⟨w1, w2, w3, w4, w5, -⟩ := hW.2.2.1 c hc
  unfold F_X6_carrier
  rw [xo_g0 hS, ro_rc hR, ev_bd (ro_carrierAt hR hW hV hc), ev_f (by simp), ev_f (by decide), ev_f (by decide), ev_t rfl, xo_g0 hS, ro_rc hR, ro_bundlesWith' hR hW hV (by omega)]
  rfl

theorem cl_ca3 (hj : j < 500) (hV : mv_VV G.1 C B D) (hD : D ≤ 30 * j) {c : Nat} (hc : c < C) : p_ac j G (F_X6_carrier 0 (nI c) (3 : Int32)) (mv_ful G.1 B c) j G := by
  refine p_of (fun h0 I hr => ⟨h0, I, ?_, hr⟩)
  obtain ⟨hD', hS, hP, hW⟩ := p_un hj hV hD hr
  have hR := xo_R1 hS
  have e0 := hV.1
  have hC4 := hV.2.2.2.1
  have hB8 := hV.2.2.2.2.1
  have e4 := hV.2.2.1
  have e3 := hV.2.1
  obtain ⟨r3, r4, r5, r6, r7, r8, r9, r10, r11⟩ := hW.1
  obtain ⟨w1, w2, w3, w4, w5, -⟩ := hW.2.2.1 c hc
  unfold F_X6_carrier J_X6_carrier_95
  rw [xo_g0 hS, ro_rc hR, ev_bd (ro_carrierAt hR hW hV hc), ev_f (by simp), ev_f (by decide), ev_f (by decide), ev_f (by decide), ev_t rfl, xo_g0 hS, ro_rc hR, ro_isFull' hR hW hV (by omega)]
  unfold mv_ful
  by_cases q : mv_hs G.1 B c < G.1 1
  · rw [if_pos q, ev_t mv_z0]; rfl
  · rw [if_neg q, ev_f mv_z1]; rfl

theorem cl_ca4 (hj : j < 500) (hV : mv_VV G.1 C B D) (hD : D ≤ 30 * j) {c : Nat} (hc : c < C) : p_ac j G (F_X6_carrier 0 (nI c) (4 : Int32)) (G.1 (16 + 12 * c + 9)) j G := by
  refine p_of (fun h0 I hr => ⟨h0, I, ?_, hr⟩)
  obtain ⟨hD', hS, hP, hW⟩ := p_un hj hV hD hr
  have hR := xo_R1 hS
  have e0 := hV.1
  have hC4 := hV.2.2.2.1
  have hB8 := hV.2.2.2.2.1
  have e4 := hV.2.2.1
  have e3 := hV.2.1
  obtain ⟨r3, r4, r5, r6, r7, r8, r9, r10, r11⟩ := hW.1
  obtain ⟨w1, w2, w3, w4, w5, -⟩ := hW.2.2.1 c hc
  unfold F_X6_carrier
  rw [xo_g0 hS, ro_rc hR, ev_bd (ro_carrierAt hR hW hV hc), ev_f (by simp), ev_f (by decide), ev_f (by decide), ev_f (by decide), ev_f (by decide), ev_t rfl, ro_cI hR (by omega), w3]
  rfl

theorem cl_ca5 (hj : j < 500) (hV : mv_VV G.1 C B D) (hD : D ≤ 30 * j) {c : Nat} (hc : c < C) : p_ac j G (F_X6_carrier 0 (nI c) (5 : Int32)) (G.1 (16 + 12 * c + 10)) j G := by
  refine p_of (fun h0 I hr => ⟨h0, I, ?_, hr⟩)
  obtain ⟨hD', hS, hP, hW⟩ := p_un hj hV hD hr
  have hR := xo_R1 hS
  have e0 := hV.1
  have hC4 := hV.2.2.2.1
  have hB8 := hV.2.2.2.2.1
  have e4 := hV.2.2.1
  have e3 := hV.2.1
  obtain ⟨r3, r4, r5, r6, r7, r8, r9, r10, r11⟩ := hW.1
  obtain ⟨w1, w2, w3, w4, w5, -⟩ := hW.2.2.1 c hc
  unfold F_X6_carrier
  rw [xo_g0 hS, ro_rc hR, ev_bd (ro_carrierAt hR hW hV hc), ev_f (by simp), ev_f (by decide), ev_f (by decide), ev_f (by decide), ev_f (by decide), ev_f (by decide), ev_t rfl, ro_cI hR (by omega), w4]
  rfl

theorem cl_ca6 (hj : j < 500) (hV : mv_VV G.1 C B D) (hD : D ≤ 30 * j) {c : Nat} (hc : c < C) : p_ac j G (F_X6_carrier 0 (nI c) (6 : Int32)) (G.1 (16 + 12 * c + 11)) j G := by
  refine p_of (fun h0 I hr => ⟨h0, I, ?_, hr⟩)
  obtain ⟨hD', hS, hP, hW⟩ := p_un hj hV hD hr
  have hR := xo_R1 hS
  have e0 := hV.1
  have hC4 := hV.2.2.2.1
  have hB8 := hV.2.2.2.2.1
  have e4 := hV.2.2.1
  have e3 := hV.2.1
  obtain ⟨r3, r4, r5, r6, r7, r8, r9, r10, r11⟩ := hW.1
  obtain ⟨w1, w2, w3, w4, w5, -⟩ := hW.2.2.1 c hc
  unfold F_X6_carrier
  rw [xo_g0 hS, ro_rc hR, ev_bd (ro_carrierAt hR hW hV hc), ev_f (by simp), ev_f (by decide), ev_f (by decide), ev_f (by decide), ev_f (by decide), ev_f (by decide), ev_f (by decide), ev_t rfl, ro_cI hR (by omega), w5]
  rfl

theorem cl_wh (hj : j < 500) (hV : mv_VV G.1 C B D) (hD : D ≤ 30 * j) {c d : Nat} (hc : c < C) (hd : d < 10000) : p_ac j G (F_X6_where 0 (nI c) (nI d)) (mv_tw G.1 c d) j G := by
  refine p_of (fun h0 I hr => ⟨h0, I, ?_, hr⟩)
  obtain ⟨hD', hS, hP, hW⟩ := p_un hj hV hD hr
  have hR := xo_R1 hS
  have e0 := hV.1
  have hC4 := hV.2.2.2.1
  have hB8 := hV.2.2.2.2.1
  have e4 := hV.2.2.1
  have e3 := hV.2.1
  obtain ⟨r3, r4, r5, r6, r7, r8, r9, r10, r11⟩ := hW.1
  unfold F_X6_where J_X6_where_45
  rw [xo_g0 hS, ro_rc hR, ro_has' hR hW hV hc, ev_f mv_z1, li9999, ev_f (nI_pos (by omega)), ev_t (nI_le (by omega) (by omega)), xo_g0 hS, ro_rc hR, ro_townOf' hR hW hV (by omega) (by omega), li1, lin1, li4, lin4]
  rcases mv_tw_tc hV hc d with ⟨q1, q2⟩ | ⟨t, q0, q1, q2⟩
  · rw [q1, q2, ev_t rfl]; rfl
  · rw [q1, q2, ev_f (mv_n1_ne (by omega))]; rfl

theorem cl_buno (hj : j < 500) (hV : mv_VV G.1 C B D) (hD : D ≤ 30 * j) : p_ac j G (F_X6_bundle 0 (nI B) (0 : Int32)) mv_n1 j G := by
  refine p_of (fun h0 I hr => ⟨h0, I, ?_, hr⟩)
  obtain ⟨hD', hS, hP, hW⟩ := p_un hj hV hD hr
  have hR := xo_R1 hS
  have e0 := hV.1
  have hC4 := hV.2.2.2.1
  have hB8 := hV.2.2.2.2.1
  have e4 := hV.2.2.1
  have e3 := hV.2.1
  obtain ⟨r3, r4, r5, r6, r7, r8, r9, r10, r11⟩ := hW.1
  unfold F_X6_bundle
  rw [xo_g0 hS, ro_rc hR, ev_bd (ro_bundleNo hR hW hV (Or.inr (nI_le (Nat.le_refl _) (by omega)))), ev_t rfl]
  rfl

theorem cl_bu0 (hj : j < 500) (hV : mv_VV G.1 C B D) (hD : D ≤ 30 * j) {b : Nat} (hb : b < B) : p_ac j G (F_X6_bundle 0 (nI b) (0 : Int32)) (G.1 (64 + 8 * b + 0)) j G := by
  refine p_of (fun h0 I hr => ⟨h0, I, ?_, hr⟩)
  obtain ⟨hD', hS, hP, hW⟩ := p_un hj hV hD hr
  have hR := xo_R1 hS
  have e0 := hV.1
  have hC4 := hV.2.2.2.1
  have hB8 := hV.2.2.2.2.1
  have e4 := hV.2.2.1
  have e3 := hV.2.1
  obtain ⟨r3, r4, r5, r6, r7, r8, r9, r10, r11⟩ := hW.1
  obtain ⟨w0, w1, w2, w3, w4, w5, w6, w7⟩ := hW.2.2.2 b hb
  unfold F_X6_bundle
  rw [xo_g0 hS, ro_rc hR, ev_bd (ro_bundleAt hR hW hV hb), ev_f (by simp), ev_t rfl, ro_bI hR (by omega), w0]
  rfl

theorem cl_bu1 (hj : j < 500) (hV : mv_VV G.1 C B D) (hD : D ≤ 30 * j) {b : Nat} (hb : b < B) : p_ac j G (F_X6_bundle 0 (nI b) (1 : Int32)) (mv_dn (G.1 (64 + 8 * b + 1))) j G := by
  refine p_of (fun h0 I hr => ⟨h0, I, ?_, hr⟩)
  obtain ⟨hD', hS, hP, hW⟩ := p_un hj hV hD hr
  have hR := xo_R1 hS
  have e0 := hV.1
  have hC4 := hV.2.2.2.1
  have hB8 := hV.2.2.2.2.1
  have e4 := hV.2.2.1
  have e3 := hV.2.1
  obtain ⟨r3, r4, r5, r6, r7, r8, r9, r10, r11⟩ := hW.1
  obtain ⟨w0, w1, w2, w3, w4, w5, w6, w7⟩ := hW.2.2.2 b hb
  unfold F_X6_bundle
  rw [xo_g0 hS, ro_rc hR, ev_bd (ro_bundleAt hR hW hV hb), ev_f (by simp), ev_f (by decide), ev_t rfl, ro_bI hR (by omega), w1]
  rfl

theorem cl_bu2 (hj : j < 500) (hV : mv_VV G.1 C B D) (hD : D ≤ 30 * j) {b : Nat} (hb : b < B) : p_ac j G (F_X6_bundle 0 (nI b) (2 : Int32)) (mv_dn (G.1 (64 + 8 * b + 2))) j G := by
  refine p_of (fun h0 I hr => ⟨h0, I, ?_, hr⟩)
  obtain ⟨hD', hS, hP, hW⟩ := p_un hj hV hD hr
  have hR := xo_R1 hS
  have e0 := hV.1
  have hC4 := hV.2.2.2.1
  have hB8 := hV.2.2.2.2.1
  have e4 := hV.2.2.1
  have e3 := hV.2.1
  obtain ⟨r3, r4, r5, r6, r7, r8, r9, r10, r11⟩ := hW.1
  obtain ⟨w0, w1, w2, w3, w4, w5, w6, w7⟩ := hW.2.2.2 b hb
  unfold F_X6_bundle
  rw [xo_g0 hS, ro_rc hR, ev_bd (ro_bundleAt hR hW hV hb), ev_f (by simp), ev_f (by decide), ev_f (by decide), ev_t rfl, ro_bI hR (by omega), w2]
  rfl

theorem cl_bu3 (hj : j < 500) (hV : mv_VV G.1 C B D) (hD : D ≤ 30 * j) {b : Nat} (hb : b < B) : p_ac j G (F_X6_bundle 0 (nI b) (3 : Int32)) (mv_dn (G.1 (64 + 8 * b + 3))) j G := by
  refine p_of (fun h0 I hr => ⟨h0, I, ?_, hr⟩)
  obtain ⟨hD', hS, hP, hW⟩ := p_un hj hV hD hr
  have hR := xo_R1 hS
  have e0 := hV.1
  have hC4 := hV.2.2.2.1
  have hB8 := hV.2.2.2.2.1
  have e4 := hV.2.2.1
  have e3 := hV.2.1
  obtain ⟨r3, r4, r5, r6, r7, r8, r9, r10, r11⟩ := hW.1
  obtain ⟨w0, w1, w2, w3, w4, w5, w6, w7⟩ := hW.2.2.2 b hb
  unfold F_X6_bundle
  rw [xo_g0 hS, ro_rc hR, ev_bd (ro_bundleAt hR hW hV hb), ev_f (by simp), ev_f (by decide), ev_f (by decide), ev_f (by decide), ev_t rfl, ro_bI hR (by omega), w3]
  rfl

theorem cl_bu4 (hj : j < 500) (hV : mv_VV G.1 C B D) (hD : D ≤ 30 * j) {b : Nat} (hb : b < B) : p_ac j G (F_X6_bundle 0 (nI b) (4 : Int32)) (G.1 (64 + 8 * b + 4)) j G := by
  refine p_of (fun h0 I hr => ⟨h0, I, ?_, hr⟩)
  obtain ⟨hD', hS, hP, hW⟩ := p_un hj hV hD hr
  have hR := xo_R1 hS
  have e0 := hV.1
  have hC4 := hV.2.2.2.1
  have hB8 := hV.2.2.2.2.1
  have e4 := hV.2.2.1
  have e3 := hV.2.1
  obtain ⟨r3, r4, r5, r6, r7, r8, r9, r10, r11⟩ := hW.1
  obtain ⟨w0, w1, w2, w3, w4, w5, w6, w7⟩ := hW.2.2.2 b hb
  unfold F_X6_bundle
  rw [xo_g0 hS, ro_rc hR, ev_bd (ro_bundleAt hR hW hV hb), ev_f (by simp), ev_f (by decide), ev_f (by decide), ev_f (by decide), ev_f (by decide), ev_t rfl, ro_bI hR (by omega), w4]
  rfl

theorem cl_bu6 (hj : j < 500) (hV : mv_VV G.1 C B D) (hD : D ≤ 30 * j) {b : Nat} (hb : b < B) : p_ac j G (F_X6_bundle 0 (nI b) (6 : Int32)) (G.1 (64 + 8 * b + 5)) j G := by
  refine p_of (fun h0 I hr => ⟨h0, I, ?_, hr⟩)
  obtain ⟨hD', hS, hP, hW⟩ := p_un hj hV hD hr
  have hR := xo_R1 hS
  have e0 := hV.1
  have hC4 := hV.2.2.2.1
  have hB8 := hV.2.2.2.2.1
  have e4 := hV.2.2.1
  have e3 := hV.2.1
  obtain ⟨r3, r4, r5, r6, r7, r8, r9, r10, r11⟩ := hW.1
  obtain ⟨w0, w1, w2, w3, w4, w5, w6, w7⟩ := hW.2.2.2 b hb
  unfold F_X6_bundle J_X6_bundle_111
  rw [xo_g0 hS, ro_rc hR, ev_bd (ro_bundleAt hR hW hV hb), ev_f (by simp), ev_f (by decide), ev_f (by decide), ev_f (by decide), ev_f (by decide), ev_f (by decide), ev_f (by decide), ev_t rfl, ro_bI hR (by omega), w5]
  rcases (hV.2.2.2.2.2.2.2 b hb).2.2 with q | q
  · rw [q, ev_t mv_z0]; rfl
  · rw [q, ev_f mv_z1]; rfl

theorem cl_bu7 (hj : j < 500) (hV : mv_VV G.1 C B D) (hD : D ≤ 30 * j) {b : Nat} (hb : b < B) : p_ac j G (F_X6_bundle 0 (nI b) (7 : Int32)) (G.1 (64 + 8 * b + 6)) j G := by
  refine p_of (fun h0 I hr => ⟨h0, I, ?_, hr⟩)
  obtain ⟨hD', hS, hP, hW⟩ := p_un hj hV hD hr
  have hR := xo_R1 hS
  have e0 := hV.1
  have hC4 := hV.2.2.2.1
  have hB8 := hV.2.2.2.2.1
  have e4 := hV.2.2.1
  have e3 := hV.2.1
  obtain ⟨r3, r4, r5, r6, r7, r8, r9, r10, r11⟩ := hW.1
  obtain ⟨w0, w1, w2, w3, w4, w5, w6, w7⟩ := hW.2.2.2 b hb
  unfold F_X6_bundle
  rw [xo_g0 hS, ro_rc hR, ev_bd (ro_bundleAt hR hW hV hb), ev_f (by simp), ev_f (by decide), ev_f (by decide), ev_f (by decide), ev_f (by decide), ev_f (by decide), ev_f (by decide), ev_f (by decide), ev_t rfl, ro_bI hR (by omega), w6]
  rfl

theorem cl_bu8 (hj : j < 500) (hV : mv_VV G.1 C B D) (hD : D ≤ 30 * j) {b : Nat} (hb : b < B) : p_ac j G (F_X6_bundle 0 (nI b) (8 : Int32)) (G.1 (64 + 8 * b + 7)) j G := by
  refine p_of (fun h0 I hr => ⟨h0, I, ?_, hr⟩)
  obtain ⟨hD', hS, hP, hW⟩ := p_un hj hV hD hr
  have hR := xo_R1 hS
  have e0 := hV.1
  have hC4 := hV.2.2.2.1
  have hB8 := hV.2.2.2.2.1
  have e4 := hV.2.2.1
  have e3 := hV.2.1
  obtain ⟨r3, r4, r5, r6, r7, r8, r9, r10, r11⟩ := hW.1
  obtain ⟨w0, w1, w2, w3, w4, w5, w6, w7⟩ := hW.2.2.2 b hb
  unfold F_X6_bundle
  rw [xo_g0 hS, ro_rc hR, ev_bd (ro_bundleAt hR hW hV hb), ev_f (by simp), ev_f (by decide), ev_f (by decide), ev_f (by decide), ev_f (by decide), ev_f (by decide), ev_f (by decide), ev_f (by decide), ev_f (by decide), ev_t rfl, ro_bI hR (by omega), w7]
  rfl

def p_dl (v : Nat → Int32) (C b D : Nat) : Int32 := if mv_hD v C b D = nI 0 then mv_n4 else mv_AN v C b D - v (64 + 8 * b + 4) + nI 1000
theorem cl_bu5 (hj : j < 500) (hV : mv_VV G.1 C B D) (hD : D ≤ 30 * j) {b : Nat} (hb : b < B) : p_ac j G (F_X6_bundle 0 (nI b) (5 : Int32)) (p_dl G.1 C b D) j G := by
  refine p_of (fun h0 I hr => ?_)
  obtain ⟨hD', hS, hP, hW⟩ := p_un hj hV hD hr
  have hR := xo_R1 hS
  have hB8 := hV.2.2.2.2.1
  obtain ⟨f, g, ed⟩ := xo_delayOf hS hW hV hD' hb
  refine ⟨h0, mv_fo I f g, ?_, p_fo hr⟩
  unfold F_X6_bundle F_X6_shiftedDelayOf J_X6_shiftedDelayOf_22
  rw [xo_g0 hS, ro_rc hR, ev_bd (ro_bundleAt hR hW hV hb), ev_f (by simp), ev_f (by decide), ev_f (by decide), ev_f (by decide), ev_f (by decide), ev_f (by decide), ev_t rfl, xo_rc hS]
  have es : (mv_bd (mv_rc 6 7 (some 0)) fun i2 => mv_bd (F_X6_delayOf i2 (some (mv_bi h0 1 b))) fun v1 => if v1 = (2147483647 : Int32) then mv_pu (-4 : Int32) else mv_pu (v1 + (1000 : Int32))) (mv_hp h0 I) = some (p_dl G.1 C b D, mv_hp h0 (mv_fo I f g)) := by
    rw [xo_rc hS, ev_bd ed, li2147483647, li1000, li4, lin4]
    unfold p_dl
    by_cases q : mv_hD G.1 C b D = nI 0
    · rw [if_pos q]; unfold mv_dv; rw [if_pos q, ev_t rfl]; rfl
    · rw [if_neg q]; unfold mv_dv; rw [if_neg q, ev_f (mv_dv_ne hV hP hD' hb q)]; rfl
  rw [ev_bd es]; rfl
theorem cl_ar0 (hj : j < 500) (hV : mv_VV G.1 C B D) (hD : D ≤ 30 * j) {b : Nat} (hb : b < B) : p_ac j G (F_X6_arrival 0 (nI b) (0 : Int32)) (mv_oN (mv_AN G.1 C b D)) j G := by
  refine p_of (fun h0 I hr => ?_)
  obtain ⟨hD', hS, hP, hW⟩ := p_un hj hV hD hr
  have hR := xo_R1 hS
  have hF := hS.2.2.2.1
  obtain ⟨f, g, e, -⟩ := fo_arrivalOf hF (by omega) hR hW hV hb (show D < 90000 by omega)
  refine ⟨h0, mv_fo I f g, ?_, p_fo hr⟩
  unfold F_X6_arrival J_X6_arrival_24 J_X6_arrival_55
  rw [xo_g0 hS, ro_rc hR, ev_bd (ro_bundleAt hR hW hV hb), ev_f (by simp), ev_t rfl, ev_t rfl, xo_g5 hS, xo_g0 hS, fo_rc hF, ev_bd e]
  rfl
theorem cl_ar1 (hj : j < 500) (hV : mv_VV G.1 C B D) (hD : D ≤ 30 * j) {b : Nat} (hb : b < B) : p_ac j G (F_X6_arrival 0 (nI b) (1 : Int32)) (mv_oN (mv_AN G.1 C b D)) j G := by
  refine p_of (fun h0 I hr => ?_)
  obtain ⟨hD', hS, hP, hW⟩ := p_un hj hV hD hr
  have hR := xo_R1 hS
  have hF := hS.2.2.2.1
  refine ⟨h0, I, ?_, hr⟩
  unfold F_X6_arrival J_X6_arrival_24 J_X6_arrival_55
  rw [xo_g0 hS, ro_rc hR, ev_bd (ro_bundleAt hR hW hV hb), ev_f (by simp), ev_f (by decide), ev_t rfl, ev_f (by decide), xo_g5 hS, xo_g0 hS, fo_rc hF, ev_bd (fo_byHands hR hW hV hb (by omega))]
  rfl
end PL
