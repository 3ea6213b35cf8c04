section PW
variable {j : Nat} {G : p_G} {C B D : Nat}
theorem cl_meno1 (hj : j < 500) (hV : mv_VV G.1 C B D) (hD : D ≤ 30 * j) {b z : Int32} : p_ac j G (F_X6_meeting 0 (nI C) b z) mv_n1 j G := by
  refine p_of (fun h0 I hr => ⟨h0, I, ?_, hr⟩)
  obtain ⟨hD', hS, hP, hW⟩ := p_un hj hV hD hr
  have hR := xo_R1 hS
  have hF := hS.2.2.2.1
  have e0 := hV.1
  have hC4 := hV.2.2.2.1
  have hB8 := hV.2.2.2.2.1
  have e4 := hV.2.2.1
  have e3 := hV.2.1
  unfold F_X6_meeting J_X6_meeting_27
  rw [xo_g0 hS, ro_rc hR, ro_hasNo' hR hW hV (Or.inr (nI_le (Nat.le_refl _) (by omega))), ev_t mv_z0]; rfl

theorem cl_meno2 (hj : j < 500) (hV : mv_VV G.1 C B D) (hD : D ≤ 30 * j) {c : Nat} {z : Int32} (hc : c < C) : p_ac j G (F_X6_meeting 0 (nI c) (nI C) z) mv_n1 j G := by
  refine p_of (fun h0 I hr => ⟨h0, I, ?_, hr⟩)
  obtain ⟨hD', hS, hP, hW⟩ := p_un hj hV hD hr
  have hR := xo_R1 hS
  have hF := hS.2.2.2.1
  have e0 := hV.1
  have hC4 := hV.2.2.2.1
  have hB8 := hV.2.2.2.2.1
  have e4 := hV.2.2.1
  have e3 := hV.2.1
  unfold F_X6_meeting J_X6_meeting_27
  rw [xo_g0 hS, ro_rc hR, ro_has' hR hW hV hc, ev_f mv_z1, xo_g0 hS, ro_rc hR, ro_hasNo' hR hW hV (Or.inr (nI_le (Nat.le_refl _) (by omega))), ev_t mv_z0]; rfl

theorem cl_meno3 (hj : j < 500) (hV : mv_VV G.1 C B D) (hD : D ≤ 30 * j) {c : Nat} {z : Int32} (hc : c < C) : p_ac j G (F_X6_meeting 0 (nI c) (nI c) z) mv_n1 j G := by
  refine p_of (fun h0 I hr => ⟨h0, I, ?_, hr⟩)
  obtain ⟨hD', hS, hP, hW⟩ := p_un hj hV hD hr
  have hR := xo_R1 hS
  have hF := hS.2.2.2.1
  have e0 := hV.1
  have hC4 := hV.2.2.2.1
  have hB8 := hV.2.2.2.2.1
  have e4 := hV.2.2.1
  have e3 := hV.2.1
  unfold F_X6_meeting J_X6_meeting_27
  rw [xo_g0 hS, ro_rc hR, ro_has' hR hW hV hc, ev_f mv_z1, xo_g0 hS, ro_rc hR, ro_has' hR hW hV hc, ev_f mv_z1, ev_t rfl]; rfl

theorem cl_me (hj : j < 500) (hV : mv_VV G.1 C B D) (hD : D ≤ 30 * j) {c c' : Nat} {z : Int32} (hc : c < C) (hc' : c' < C) (hcc : ¬ nI c = nI c') : p_ac j G (F_X6_meeting 0 (nI c) (nI c') z) (mv_first (mv_me G.1 c c' z) 30 (D + 1)) j G := by
  refine p_of (fun h0 I hr => ⟨h0, I, ?_, hr⟩)
  obtain ⟨hD', hS, hP, hW⟩ := p_un hj hV hD hr
  have hR := xo_R1 hS
  have hF := hS.2.2.2.1
  have e0 := hV.1
  have hC4 := hV.2.2.2.1
  have hB8 := hV.2.2.2.2.1
  have e4 := hV.2.2.1
  have e3 := hV.2.1
  have loop : ∀ (k n q : Nat), q + k = 30 → k < n → Lp_X6_meeting_32 0 (nI c) (nI c') z n (nI (q + 1)) (mv_hp h0 I) = some (mv_first (mv_me G.1 c c' z) k (D + q + 1), mv_hp h0 I) := by
    intro k
    induction k with
    | zero =>
      intro n q hq hn
      obtain ⟨n, rfl⟩ := Nat.exists_eq_succ_of_ne_zero (show n ≠ 0 by omega)
      have hq' : q = 30 := by omega
      subst hq'
      rw [Lp_X6_meeting_32, ev_t (by decide)]
      rfl
    | succ k ih =>
      intro n q hq hn
      obtain ⟨n, rfl⟩ := Nat.exists_eq_succ_of_ne_zero (show n ≠ 0 by omega)
      have nx := ih n (q + 1) (by omega) (by omega)
      rw [show D + (q + 1) + 1 = D + q + 1 + 1 by omega] at nx
      have no : mv_me G.1 c c' z (D + q + 1) = false → J_X6_meeting_117 (Lp_X6_meeting_32 0 (nI c) (nI c') z n) 0 (nI c) (nI c') z (nI (q + 1)) (mv_hp h0 I) = some (mv_first (mv_me G.1 c c' z) (k + 1) (D + q + 1), mv_hp h0 I) := by
        intro h
        unfold J_X6_meeting_117
        rw [mv_first, if_neg (by rw [h]; decide), li1, nI_add]
        exact nx
      have yes : mv_me G.1 c c' z (D + q + 1) = true → J_X6_meeting_114 0 (nI (D + q + 1)) (mv_hp h0 I) = some (mv_first (mv_me G.1 c c' z) (k + 1) (D + q + 1), mv_hp h0 I) := by
        intro h
        unfold J_X6_meeting_114
        rw [mv_first, if_pos h]
        rfl
      have hn0 : ∀ t : Nat, t ≤ 6 → ¬ nI t < nI 0 := fun t ht => nI_nlt (Nat.zero_le _) (by omega)
      rw [Lp_X6_meeting_32, li30, ev_f (nI_nlt (by omega) (by omega)), xo_g0 hS, ro_gI hR, hW.1.2.2.1, e0, nI_add, ev_bpu, show D + (q + 1) = D + q + 1 by omega, xo_g0 hS, ro_rc hR, ro_townOf' hR hW hV (by omega) (by omega), li1, lin1]
      rcases mv_tw_tc hV hc (D + q + 1) with ⟨q1, q2⟩ | ⟨t, t0, q1, q2⟩
      · rw [q1, ev_t rfl]
        unfold J_X6_meeting_88 J_X6_meeting_89
        rw [ev_t rfl]
        exact no (by unfold mv_me; rw [q2]; rfl)
      · rw [q1, ev_f (mv_n1_ne (by omega)), xo_g0 hS, ro_rc hR, ro_townOf' hR hW hV (by omega) (by omega)]
        have hiff : nI t = mv_tc G.1 C c' (D + q + 1) ↔ nI t = mv_tw G.1 c' (D + q + 1) := by
          rcases mv_tw_tc hV hc' (D + q + 1) with ⟨p1, p2⟩ | ⟨t', t1, p1, p2⟩
          · rw [p1, p2]; exact ⟨fun x => absurd x (mv_n1_ne (by omega)), fun x => absurd x (mv_n4_ne (by omega))⟩
          · rw [p1, p2]
        unfold J_X6_meeting_88 J_X6_meeting_89
        by_cases q3 : nI t = mv_tc G.1 C c' (D + q + 1)
        · rw [ev_t q3, ev_f (by decide)]
          have q3' := hiff.mp q3
          by_cases q4 : z = 0
          · rw [ev_t q4]
            exact yes (by unfold mv_me; rw [q2]; simp [hn0 t (by omega), ← q3', q4])
          · rw [ev_f q4, xo_g0 hS, ro_rc hR, ro_stallOn' hR hW (by omega)]
            by_cases q5 : nI t = mv_sw G.1 (D + q + 1)
            · rw [ev_t q5]
              exact yes (by unfold mv_me; rw [q2]; simp [hn0 t (by omega), ← q3', ← q5])
            · rw [ev_f q5]
              exact no (by unfold mv_me; rw [q2]; simp [q4, q5])
        · rw [ev_f q3, ev_t rfl]
          have q6 : ¬ nI t = mv_tw G.1 c' (D + q + 1) := fun x => q3 (hiff.mpr x)
          exact no (by unfold mv_me; rw [q2]; simp [q6])
  unfold F_X6_meeting
  rw [xo_g0 hS, ro_rc hR, ro_has' hR hW hV hc, ev_f mv_z1, xo_g0 hS, ro_rc hR, ro_has' hR hW hV hc', ev_f mv_z1, ev_f hcc]
  exact loop 30 mv_FU 0 (by omega) (by decide)

theorem cl_la (hj : j < 500) (hV : mv_VV G.1 C B D) (hD : D ≤ 30 * j) : p_ac j G (F_X6_lateness 0) (mv_lr (mv_it (mv_la G.1 C D) B 0 (nI 0, 0))) j G := by
  refine p_of (fun h0 I hr => ?_)
  obtain ⟨hD', hS, hP, hW⟩ := p_un hj hV hD hr
  have hR := xo_R1 hS
  have hF := hS.2.2.2.1
  have e0 := hV.1
  have hC4 := hV.2.2.2.1
  have hB8 := hV.2.2.2.2.1
  have e4 := hV.2.2.1
  have e3 := hV.2.1
  have hW' : ∀ f g, mv_RV h0 (mv_fo I f g) 1 G.1 C B := fun f g => mv_RV_fo (by omega) hR hC4 hB8 hW
  have hle := mv_la_le G.1 C D B
  unfold F_X6_lateness
  rw [li0]
  obtain ⟨n, ⟨⟨x, y⟩, ⟨f2, g2⟩⟩, e1, hx⟩ := mv_lp (L := fun n b (s : (Int32 × Nat) × (Nat → Int32) × (Nat → Int32)) => Lp_X6_lateness_6 0 n s.1.1 (nI s.1.2) (nI b) (mv_hp h0 (mv_fo I s.2.1 s.2.2))) (fun b s => s.1 = mv_it (mv_la G.1 C D) b 0 (nI 0, 0)) B (by omega)
    (fun n b s hb hs => by
      obtain ⟨⟨x, y⟩, ⟨f1, g1⟩⟩ := s
      dsimp only at hs
      have e9 := mv_it_last (mv_la G.1 C D) b 0 (nI 0, 0)
      rw [Nat.zero_add, ← hs] at e9
      obtain ⟨f2, g2, e⟩ := xo_delayOf hS (hW' f1 g1) hV hD' hb
      rw [mv_fo_fo] at e
      dsimp only
      rw [Lp_X6_lateness_6, xo_g0 hS, ro_gI hR, (hW' f1 g1).1.2.1, e4, ev_f (nI_ge hb (by omega)), xo_g0 hS, ro_rc hR, ro_bundleAt' hR (hW' f1 g1) hV hb, xo_rc hS, ev_bd e, li2147483647]
      unfold J_X6_lateness_46 mv_dv
      by_cases q : mv_hD G.1 C b D = nI 0
      · rw [if_pos q, ev_t rfl, li1, nI_add]
        exact ⟨((x, y), (f2, g2)), rfl, by rw [e9]; unfold mv_la; rw [if_pos q]⟩
      · rw [if_neg q, ev_f (mv_dv_ne hV hP hD' hb q), ev_bpu, li1, nI_add, nI_add]
        exact ⟨((x + (mv_AN G.1 C b D - G.1 (64 + 8 * b + 4)), y + 1), (f2, g2)), rfl, by rw [e9]; unfold mv_la; rw [if_neg q]⟩)
    ((nI 0, 0), (I 145, I 146)) rfl
  dsimp only at e1 hx
  rw [mv_fo_self] at e1
  refine ⟨h0, mv_fo I f2 g2, ?_, p_fo hr⟩
  rw [← hx] at hle ⊢
  rw [e1, Lp_X6_lateness_6, xo_g0 hS, ro_gI hR, (hW' f2 g2).1.2.1, e4, ev_t (nI_le (Nat.le_refl _) (by omega))]
  unfold J_X6_lateness_65
  have hy : y ≤ B := hle
  by_cases h0' : y = 0
  · rw [ev_t (by rw [h0']; rfl)]
    unfold mv_lr
    rw [if_pos h0']; rfl
  · rw [ev_f (fun z => h0' ((mv_eq0 (by omega)).mp z)), ev_dd (s := (x, y)) h0' (show y ≤ 8 by omega)]; rfl

theorem cl_ipno (hj : j < 500) (hV : mv_VV G.1 C B D) (hD : D ≤ 30 * j) {a b d : Int32} (h : (a < 0 ∨ nI 6 ≤ a) ∨ (b < 0 ∨ nI 6 ≤ b) ∨ a = b) : p_ac j G (F_X6_ifPosted 0 a b d) mv_n1 j G := by
  refine p_of (fun h0 I hr => ⟨h0, I, ?_, hr⟩)
  obtain ⟨hD', hS, hP, hW⟩ := p_un hj hV hD hr
  have hR := xo_R1 hS
  have hF := hS.2.2.2.1
  have e0 := hV.1
  have hC4 := hV.2.2.2.1
  have hB8 := hV.2.2.2.2.1
  have e4 := hV.2.2.1
  have e3 := hV.2.1
  unfold F_X6_ifPosted J_X6_ifPosted_18
  rw [ev_bd (two_no h _), ev_t mv_z0]; rfl

theorem cl_ipno2 (hj : j < 500) (hV : mv_VV G.1 C B D) (hD : D ≤ 30 * j) {f t : Nat} {d : Int32} (hf : f < 6) (ht : t < 6) (ne : f ≠ t) (hd : d < 0 ∨ nI (30 + 1) ≤ d) : p_ac j G (F_X6_ifPosted 0 (nI f) (nI t) d) mv_n1 j G := by
  refine p_of (fun h0 I hr => ⟨h0, I, ?_, hr⟩)
  obtain ⟨hD', hS, hP, hW⟩ := p_un hj hV hD hr
  have hR := xo_R1 hS
  have hF := hS.2.2.2.1
  have e0 := hV.1
  have hC4 := hV.2.2.2.1
  have hB8 := hV.2.2.2.2.1
  have e4 := hV.2.2.1
  have e3 := hV.2.1
  unfold F_X6_ifPosted J_X6_ifPosted_18
  rw [ev_bd (two_yes hf ht ne _), ev_f mv_z1, li30]
  by_cases h1 : d < 0
  · rw [ev_t h1]; rfl
  · rw [ev_f h1, ev_f (mv_hi (by omega) (hd.resolve_left h1)).2]; rfl

theorem cl_ip (hj : j < 500) (hV : mv_VV G.1 C B D) (hD : D ≤ 30 * j) {f t n : Nat} (hf : f < 6) (ht : t < 6) (ne : f ≠ t) (hn : n < 31) : p_ac j G (F_X6_ifPosted 0 (nI f) (nI t) (nI n)) (mv_pp G.1 C (D + n) f t) j G := by
  refine p_of (fun h0 I hr => ?_)
  obtain ⟨hD', hS, hP, hW⟩ := p_un hj hV hD hr
  have hR := xo_R1 hS
  have hF := hS.2.2.2.1
  have e0 := hV.1
  have hC4 := hV.2.2.2.1
  have hB8 := hV.2.2.2.2.1
  have e4 := hV.2.2.1
  have e3 := hV.2.1
  obtain ⟨f2, g2, e⟩ := fo_ifLying hF (by omega) hR hW hV (show D + n < 100000 by omega) (show f ≤ 5 by omega) (show t ≤ 5 by omega)
  refine ⟨h0, mv_fo I f2 g2, ?_, p_fo hr⟩
  unfold F_X6_ifPosted
  rw [ev_bd (two_yes hf ht ne _), ev_f mv_z1, li30, ev_f (nI_pos (by omega)), ev_t (nI_le (by omega) (by omega)), xo_g5 hS, xo_g0 hS, xo_g0 hS, ro_gI hR, hW.1.2.2.1, e0, nI_add, fo_rc hF, ev_bd e]
  rfl

theorem cl_bdno (hj : j < 500) (hV : mv_VV G.1 C B D) (hD : D ≤ 30 * j) {a b : Int32} (h : (a < 0 ∨ nI 6 ≤ a) ∨ (b < 0 ∨ nI 6 ≤ b) ∨ a = b) : p_ac j G (F_X6_bestDay 0 a b) mv_n1 j G := by
  refine p_of (fun h0 I hr => ⟨h0, I, ?_, hr⟩)
  obtain ⟨hD', hS, hP, hW⟩ := p_un hj hV hD hr
  have hR := xo_R1 hS
  have hF := hS.2.2.2.1
  have e0 := hV.1
  have hC4 := hV.2.2.2.1
  have hB8 := hV.2.2.2.2.1
  have e4 := hV.2.2.1
  have e3 := hV.2.1
  unfold F_X6_bestDay
  rw [ev_bd (two_no h _), ev_t mv_z0]; rfl

theorem mv_bd_31 (v : Nat → Int32) (C D f t : Nat) : ∀ c, (mv_it (mv_bd1 v C D f t) c 0 (mv_n4, 31)).2 ≤ 31 := by
  intro c
  induction c with
  | zero => exact Nat.le_refl _
  | succ c ih =>
    rw [mv_it_last]
    unfold mv_bd1
    split
    · next q => exact Nat.le_of_lt (Nat.lt_of_lt_of_le q ih)
    · exact ih
theorem cl_bd (hj : j < 500) (hV : mv_VV G.1 C B D) (hD : D ≤ 30 * j) {f t : Nat} (hf : f < 6) (ht : t < 6) (ne : f ≠ t) : p_ac j G (F_X6_bestDay 0 (nI f) (nI t)) (mv_it (mv_bd1 G.1 C D f t) 14 0 (mv_n4, 31)).1 j G := by
  refine p_of (fun h0 I hr => ?_)
  obtain ⟨hD', hS, hP, hW⟩ := p_un hj hV hD hr
  have hR := xo_R1 hS
  have hF := hS.2.2.2.1
  have e0 := hV.1
  have hC4 := hV.2.2.2.1
  have hB8 := hV.2.2.2.2.1
  have e4 := hV.2.2.1
  have e3 := hV.2.1
  have hW' : ∀ f g, mv_RV h0 (mv_fo I f g) 1 G.1 C B := fun f g => mv_RV_fo (by omega) hR hC4 hB8 hW
  have s31 := mv_bd_31 G.1 C D f t
  unfold F_X6_bestDay
  rw [ev_bd (two_yes hf ht ne _), ev_f mv_z1, li4, lin4, li2147483647, li0]
  obtain ⟨n, ⟨⟨x, y⟩, ⟨f2, g2⟩⟩, e1, hx, hy⟩ := mv_lp (L := fun n c (s : (Int32 × Nat) × (Nat → Int32) × (Nat → Int32)) => Lp_X6_bestDay_20 0 (nI f) (nI t) n s.1.1 (if s.1.2 = 31 then nI 2147483647 else nI s.1.2) (nI c) (mv_hp h0 (mv_fo I s.2.1 s.2.2))) (fun c s => s.1.1 = (mv_it (mv_bd1 G.1 C D f t) c 0 (mv_n4, 31)).1 ∧ s.1.2 = (mv_it (mv_bd1 G.1 C D f t) c 0 (mv_n4, 31)).2) 14 (by omega)
    (fun n c s hc hP => by
      obtain ⟨⟨x, y⟩, ⟨f1, g1⟩⟩ := s
      obtain ⟨p1, p2⟩ := hP
      dsimp only at p1 p2
      have e9 := mv_it_last (mv_bd1 G.1 C D f t) c 0 (mv_n4, 31)
      rw [Nat.zero_add] at e9
      have h31 := s31 c
      have exy : mv_it (mv_bd1 G.1 C D f t) c 0 (mv_n4, 31) = (x, y) := by rw [p1, p2]
      rw [exy] at e9 h31
      obtain ⟨f2, g2, e⟩ := fo_ifLying hF (by omega) hR (hW' f1 g1) hV (show D + c < 100000 by omega) (show f ≤ 5 by omega) (show t ≤ 5 by omega)
      rw [mv_fo_fo] at e
      dsimp only
      rw [Lp_X6_bestDay_20, li14, ev_f (nI_ge hc (by omega)), xo_g0 hS, ro_gI hR, (hW' f1 g1).1.2.2.1, e0, nI_add, ev_bpu, xo_g5 hS, xo_g0 hS, fo_rc hF, ev_bd e, li4, lin4]
      unfold J_X6_bestDay_83 mv_pp
      rcases mv_AR_rng G.1 C (nI t) (nI f) 30 0 (D + c) with q | ⟨q1, q2⟩
      · rw [q, show mv_oN (nI 1000000) = mv_n4 from if_pos rfl, ev_t rfl, li1, nI_add]
        have : mv_bd1 G.1 C D f t c (x, y) = (x, y) := by unfold mv_bd1; rw [q, if_neg]; show ¬ (1000000 - (D + c) < y); have : y ≤ 31 := h31; omega
        exact ⟨((x, y), (f2, g2)), rfl, by rw [e9, this], by rw [e9, this]⟩
      · have hoN : mv_oN (nI (mv_AR G.1 C (nI t) (nI f) 30 0 (D + c))) = nI (mv_AR G.1 C (nI t) (nI f) 30 0 (D + c)) := if_neg (fun z => by have := (mv_eq (by omega) (by omega)).mp z; omega)
        rw [hoN, ev_f (mv_n4_ne (by omega)), pk_sub (by omega)]
        have hle : ((if y = 31 then nI 2147483647 else nI y) ≤ nI (mv_AR G.1 C (nI t) (nI f) 30 0 (D + c) - (D + c))) ↔ ¬ (mv_AR G.1 C (nI t) (nI f) 30 0 (D + c) - (D + c) < y) := by
          by_cases h : y = 31
          · rw [if_pos h, mv_le (by omega) (by omega)]; omega
          · have : y ≤ 31 := h31
            rw [if_neg h, mv_le (by omega) (by omega)]; omega
        by_cases z : mv_AR G.1 C (nI t) (nI f) 30 0 (D + c) - (D + c) < y
        · rw [ev_f (fun w => hle.mp w z), ev_bpu, li1, nI_add]
          have : mv_bd1 G.1 C D f t c (x, y) = (nI c, mv_AR G.1 C (nI t) (nI f) 30 0 (D + c) - (D + c)) := by unfold mv_bd1; rw [if_pos z]
          refine ⟨((nI c, mv_AR G.1 C (nI t) (nI f) 30 0 (D + c) - (D + c)), (f2, g2)), ?_, by rw [e9, this], by rw [e9, this]⟩
          dsimp only
          rw [if_neg (by omega)]
        · rw [ev_t (hle.mpr z), li1, nI_add]
          have : mv_bd1 G.1 C D f t c (x, y) = (x, y) := by unfold mv_bd1; rw [if_neg z]
          exact ⟨((x, y), (f2, g2)), rfl, by rw [e9, this], by rw [e9, this]⟩)
    ((mv_n4, 31), (I 145, I 146)) ⟨rfl, rfl⟩
  dsimp only at e1 hx hy
  rw [mv_fo_self, if_pos rfl] at e1
  rw [e1, Lp_X6_bestDay_20, li14, ev_t (nI_le (Nat.le_refl _) (by omega)), hx]
  exact ⟨h0, mv_fo I f2 g2, rfl, p_fo hr⟩

theorem cl_btno (hj : j < 500) (hV : mv_VV G.1 C B D) (hD : D ≤ 30 * j) {a : Int32} (ha : a < 0 ∨ nI 7 ≤ a) : p_ac j G (F_X6_bestTown 0 a) mv_n1 j G := by
  refine p_of (fun h0 I hr => ⟨h0, I, ?_, hr⟩)
  obtain ⟨hD', hS, hP, hW⟩ := p_un hj hV hD hr
  have hR := xo_R1 hS
  have hF := hS.2.2.2.1
  have e0 := hV.1
  have hC4 := hV.2.2.2.1
  have hB8 := hV.2.2.2.2.1
  have e4 := hV.2.2.1
  have e3 := hV.2.1
  unfold F_X6_bestTown
  rw [ev_bd (week_no ha _), ev_t mv_z0]; rfl

theorem cl_bt (hj : j < 500) (hV : mv_VV G.1 C B D) (hD : D ≤ 30 * j) {w : Nat} (hw : w < 7) : p_ac j G (F_X6_bestTown 0 (nI w)) (mv_it (mv_bt G.1 C B D w) 7 0 (nI 0, mv_n1, nI 0)).1 j G := by
  refine p_of (fun h0 I hr => ?_)
  obtain ⟨hD', hS, hP, hW⟩ := p_un hj hV hD hr
  have hR := xo_R1 hS
  have hF := hS.2.2.2.1
  have e0 := hV.1
  have hC4 := hV.2.2.2.1
  have hB8 := hV.2.2.2.2.1
  have e4 := hV.2.2.1
  have e3 := hV.2.1
  have hR21 := xo_R21 hS
  obtain ⟨I1, e1, W1, F1⟩ := ro_copy hR21 hR (by omega) (by omega) (by omega) hW hV
  unfold F_X6_bestTown
  rw [ev_bd (week_yes hw _), ev_f mv_z1, xo_g1 hS, xo_g0 hS, ro_rc hR21, ev_bd e1, li1, lin1, li0]
  obtain ⟨n, ⟨s, I2⟩, e2, hs, ⟨x, W2⟩, F2⟩ := mv_lp (L := fun n t (s : (Int32 × Int32 × Int32) × (Nat → Nat → Int32)) => Lp_X6_bestTown_30 0 (nI w) n s.1.1 s.1.2.1 s.1.2.2 (nI t) (mv_hp h0 s.2)) (fun t s => s.1 = mv_it (mv_bt G.1 C B D w) t 0 (nI 0, mv_n1, nI 0) ∧ (∃ x, mv_RV h0 s.2 21 (mv_vu G.1 (9 + w) x) C B) ∧ mv_fr 21 I s.2) 7 (by omega)
    (fun n t s ht hP => by
      obtain ⟨⟨x, y, z⟩, J⟩ := s
      obtain ⟨p1, ⟨x0, p2⟩, p3⟩ := hP
      dsimp only at p1 p2 p3
      have e9 := mv_it_last (mv_bt G.1 C B D w) t 0 (nI 0, mv_n1, nI 0)
      rw [Nat.zero_add, ← p1] at e9
      have W3 := mv_RV_w (x := nI t) hR21 hB8 hw p2
      rw [mv_vu_vu] at W3
      have V3 := mv_VV_w hw (show t ≤ 6 by omega) hV
      obtain ⟨f, g, e, z1, z2⟩ := fo_addUp hF (by omega) hR21 W3 V3 (show D < 90000 by omega)
      have W4 := mv_RV_fo (f := f) (g := g) (by omega) hR21 hC4 hB8 W3
      have F4 : mv_fr 21 I (mv_fo (mv_si J (21 + 1) (mv_vu (J (21 + 1)) w (nI t))) f g) := mv_fr_trans p3 (mv_fr_trans (mv_fr_si (by omega) (by omega)) mv_fr_fo)
      dsimp only
      rw [Lp_X6_bestTown_30, li6, ev_f (nI_nlt (by omega) (by omega)), xo_g1 hS, ro_rc hR21, ev_bd (ro_stallMove hR21 hw), xo_g5 hS, xo_g1 hS, fo_rc hF, ev_bd e, xo_g5 hS, fo_gI hF, xo_g5 hS, fo_gI hF, mv_fo_1, z1, z2]
      unfold J_X6_bestTown_95 J_X6_bestTown_105
      by_cases q1 : y < (mv_au (mv_vu G.1 (9 + w) (nI t)) C B D).1
      · rw [ev_t q1, li1, nI_add]
        exact ⟨((nI t, (mv_au (mv_vu G.1 (9 + w) (nI t)) C B D).1, (mv_au (mv_vu G.1 (9 + w) (nI t)) C B D).2), _), rfl, by rw [e9]; unfold mv_bt; rw [if_pos (Or.inl q1)], ⟨nI t, W4⟩, F4⟩
      · rw [ev_f q1]
        by_cases q2 : (mv_au (mv_vu G.1 (9 + w) (nI t)) C B D).1 = y
        · rw [ev_t q2]
          by_cases q3 : z ≤ (mv_au (mv_vu G.1 (9 + w) (nI t)) C B D).2
          · rw [ev_t q3, li1, nI_add]
            exact ⟨((x, y, z), _), rfl, by rw [e9]; unfold mv_bt; rw [if_neg (fun h => h.elim q1 (fun h => h.2 q3))], ⟨nI t, W4⟩, F4⟩
          · rw [ev_f q3, li1, nI_add]
            exact ⟨((nI t, (mv_au (mv_vu G.1 (9 + w) (nI t)) C B D).1, (mv_au (mv_vu G.1 (9 + w) (nI t)) C B D).2), _), rfl, by rw [e9]; unfold mv_bt; rw [if_pos (Or.inr ⟨q2, q3⟩)], ⟨nI t, W4⟩, F4⟩
        · rw [ev_f q2, li1, nI_add]
          exact ⟨((x, y, z), _), rfl, by rw [e9]; unfold mv_bt; rw [if_neg (fun h => h.elim q1 (fun h => q2 h.1))], ⟨nI t, W4⟩, F4⟩)
    ((nI 0, mv_n1, nI 0), I1) ⟨rfl, ⟨G.1 (9 + w), by rw [mv_vu_self]; exact W1⟩, F1⟩
  dsimp only at e2 hs F2
  rw [e2, Lp_X6_bestTown_30, li6, ev_t (nI_lt (by omega) (by omega)), hs]
  exact ⟨h0, I2, rfl, p_fr21 hr F2⟩

theorem cl_ifno (hj : j < 500) (hV : mv_VV G.1 C B D) (hD : D ≤ 30 * j) {a b : Int32} (ha : a < nI 1 ∨ (¬ a < nI 1 ∧ nI 30 < a)) : p_ac j G (F_X6_ifPassed 0 a b) mv_n1 j G := by
  refine p_of (fun h0 I hr => ⟨h0, I, ?_, hr⟩)
  obtain ⟨hD', hS, hP, hW⟩ := p_un hj hV hD hr
  have hR := xo_R1 hS
  have hF := hS.2.2.2.1
  have e0 := hV.1
  have hC4 := hV.2.2.2.1
  have hB8 := hV.2.2.2.2.1
  have e4 := hV.2.2.1
  have e3 := hV.2.1
  unfold F_X6_ifPassed J_X6_ifPassed_20
  rw [li1, li30]
  rcases ha with h | ⟨h1, h3⟩
  · rw [ev_t h]; rfl
  · rw [ev_f h1, ev_t h3]; rfl

theorem cl_ifno2 (hj : j < 500) (hV : mv_VV G.1 C B D) (hD : D ≤ 30 * j) {N : Nat} {b : Int32} (d1 : 1 ≤ N) (d2 : N ≤ 30) (hb : b < 0 ∨ nI (2 + 1) ≤ b) : p_ac j G (F_X6_ifPassed 0 (nI N) b) mv_n1 j G := by
  refine p_of (fun h0 I hr => ⟨h0, I, ?_, hr⟩)
  obtain ⟨hD', hS, hP, hW⟩ := p_un hj hV hD hr
  have hR := xo_R1 hS
  have hF := hS.2.2.2.1
  have e0 := hV.1
  have hC4 := hV.2.2.2.1
  have hB8 := hV.2.2.2.2.1
  have e4 := hV.2.2.1
  have e3 := hV.2.1
  unfold F_X6_ifPassed J_X6_ifPassed_20
  rw [li1, li30, ev_f (nI_nlt d1 (by omega)), ev_f (nI_nlt d2 (by omega)), li2]
  by_cases h1 : b < 0
  · rw [ev_t h1]; rfl
  · rw [ev_f h1, ev_f (mv_hi (by omega) (hb.resolve_left h1)).2]; rfl

def p_if (v : Nat → Int32) (C B D N q : Nat) : Int32 := if q = 0 then nI (mv_ps C B D N v).2.1 else if q = 1 then (mv_ps C B D N v).2.2 8 - v 8 else mv_bb (mv_ps C B D N v).2.2 B 5 - mv_bb v B 5
theorem cl_if (hj : j < 500) (hV : mv_VV G.1 C B D) (hD : D ≤ 30 * j) {N q : Nat} (d1 : 1 ≤ N) (d2 : N ≤ 30) (hq : q < 3) : p_ac j G (F_X6_ifPassed 0 (nI N) (nI q)) (p_if G.1 C B D N q) j G := by
  refine p_of (fun h0 I hr => ?_)
  obtain ⟨hD', hS, hP, hW⟩ := p_un hj hV hD hr
  have hR := xo_R1 hS
  have hF := hS.2.2.2.1
  have e0 := hV.1
  have hC4 := hV.2.2.2.1
  have hB8 := hV.2.2.2.2.1
  have e4 := hV.2.2.1
  have e3 := hV.2.1
  have hR21 := xo_R21 hS
  have V2 : mv_VV (mv_ps C B D N G.1).2.2 C B (D + N) := mv_VV_ps N 0 (D, 0, G.1) hV
  unfold p_if
  obtain ⟨I1, e1, W1, F1⟩ := ro_copy hR21 hR (by omega) (by omega) (by omega) hW hV
  obtain ⟨n, I2, e2, W2, F2⟩ := mv_lp (L := fun n k (J : Nat → Nat → Int32) => Lp_X6_ifPassed_35 0 (nI N) (nI q) n (nI k) (mv_hp h0 J)) (fun k J => mv_RV h0 J 21 (mv_it (mv_ds C B) k 0 (D, 0, G.1)).2.2 C B ∧ mv_fr 21 I J) N (by omega)
    (fun n k J hk hP => by
      obtain ⟨p1, p2⟩ := hP
      obtain ⟨J', z1, z2, z3⟩ := ro_passN (I := J) hF (by omega) hR21 hV hD' (show k ≤ 30 by omega) p1
      rw [Lp_X6_ifPassed_35, ev_f (nI_ge hk (by omega)), xo_g1 hS, xo_g5 hS, ro_rc hR21, ev_bd z1, li1, nI_add]
      exact ⟨J', rfl, z2, mv_fr_trans p2 z3⟩)
    I1 ⟨W1, F1⟩
  have W2' : mv_RV h0 I2 21 (mv_ps C B D N G.1).2.2 C B := W2
  have W0 : mv_RV h0 I2 1 G.1 C B := mv_RV_congr hR hC4 hB8 (fun _ _ => rfl) (fun i h1 h2 => F2 i (by omega) (by omega) (by omega)) hW
  refine ⟨h0, I2, ?_, p_fr21 hr F2⟩
  unfold F_X6_ifPassed
  rw [li1, li30, ev_f (nI_nlt d1 (by omega)), ev_f (nI_nlt d2 (by omega)), li2, ev_f (nI_pos (by omega)), ev_t (nI_le (by omega) (by omega)), xo_g1 hS, xo_g0 hS, ro_rc hR21, ev_bd e1]
  have e2' : Lp_X6_ifPassed_35 0 (nI N) (nI q) mv_FU 0 (mv_hp h0 I1) = Lp_X6_ifPassed_35 0 (nI N) (nI q) (n + 1) (nI N) (mv_hp h0 I2) := e2
  rw [e2', Lp_X6_ifPassed_35, ev_t (nI_le (Nat.le_refl _) (by omega))]
  unfold J_X6_ifPassed_115
  show _ = some ((if q = 0 then nI (mv_ps C B D N G.1).2.1 else if q = 1 then (mv_ps C B D N G.1).2.2 8 - G.1 8 else mv_bb (mv_ps C B D N G.1).2.2 B 5 - mv_bb G.1 B 5), mv_hp h0 I2)
  rcases (show q = 0 ∨ q = 1 ∨ q = 2 by omega) with rfl | rfl | rfl
  · rw [ev_t mv_z0, xo_g1 hS, ro_gI hR21, W2'.1.2.2.2.2.2.2.1, xo_g0 hS, ro_gI hR, W0.1.2.2.2.2.2.2.1, mv_ps_v6, mv_sub_l]; rfl
  · rw [ev_f (by decide), ev_t (show nI 1 = (1 : Int32) from rfl), xo_g1 hS, ro_gI hR21, W2'.1.2.2.2.2.2.2.2.2, xo_g0 hS, ro_gI hR, W0.1.2.2.2.2.2.2.2.2]; rfl
  · rw [ev_f (by decide), ev_f (by decide), xo_g1 hS, ro_rc hR21, ev_bd (ro_broken hR21 W2' V2), xo_g0 hS, ro_rc hR, ev_bd (ro_broken hR W0 hV)]; rfl

end PW
