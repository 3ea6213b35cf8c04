/-- the signs of the pad by places -/
def p_sg (l : List Nat) : Nat → Nat := fun k => l.getD k 0
theorem p_sg_of {l : List Nat} {k s : Nat} (h : l[k]? = some s) : p_sg l k = s := by unfold p_sg; rw [List.getD_eq_getElem?_getD, h]; rfl
theorem p_sg_out {l : List Nat} {k : Nat} (h : l.length ≤ k) : p_sg l k = 0 := by unfold p_sg; rw [List.getD_eq_getElem?_getD, List.getElem?_eq_none h]; rfl
theorem p_SG {j : Nat} {G : p_G} {h0 : mv_Hp} {I : Nat → Nat → Int32} (hr : p_rp j G (mv_hp h0 I)) : mv_SG I G.2.2.2.length (p_sg G.2.2.2) := by
  obtain ⟨p, z, ks, pd, ⟨-, -, -, -, ⟨c1, c2, c3⟩⟩, -, -, hp3⟩ := p_CI hr
  refine ⟨c1, c2, fun k hk => ?_, fun k hk => p_sg_out hk⟩
  have e : G.2.2.2[k]? = some G.2.2.2[k] := List.getElem?_eq_getElem hk
  obtain ⟨s, s1, s2, s3, s4⟩ := c3 k hk
  obtain ⟨q1, q2, q3⟩ := hp3 k _ e
  rw [p_sg_of e]
  exact ⟨q1, q2, by rw [s3, ← s4, q3]⟩
section PP2
variable {j : Nat} {G : p_G} {C B D : Nat}
theorem cl_ap (hj : j < 500) (hV : mv_VV G.1 C B D) (hD : D ≤ 30 * j) {s : Nat} (s1 : 33 ≤ s) (s2 : s ≤ 126) (hM60 : G.2.2.2.length < 60) : p_ac j G (F_X6_append 0 (nI s)) (nI (G.2.2.2.length + 1)) j (G.1, G.2.1, G.2.2.1, G.2.2.2 ++ [s]) := by
  refine p_of (fun h0 I hr => ?_)
  have hr0 := hr
  obtain ⟨hD', hS, hP, hW⟩ := p_un hj hV hD hr
  have hs := p_SG hr
  have hp := mv_PS_of hS
  obtain ⟨p, z, ks, pd, hc, hp1, hp2, hp3⟩ := p_CI hr
  generalize hM : G.2.2.2.length = M at *
  refine ⟨h0, mv_si (mv_si I 144 (mv_vu (I 144) M (nI s))) 143 (mv_vu (I 143) 1 (nI (M + 1))), ?_, hr0.1, p, z, ks, mv_vu pd M (nI s), mv_CI_hp ?_, hp1, hp2, fun k w hk => ?_⟩
  · have e : F_X4_add 143 (nI s) (mv_hp h0 I) = some ((), mv_hp h0 (mv_si (mv_si I 144 (mv_vu (I 144) M (nI s))) 143 (mv_vu (I 143) 1 (nI (M + 1))))) := by
      unfold F_X4_add J_X4_add_39
      rw [pa_gI hp, hs.1, ev_f (nI_pos (by omega)), pa_gI hp, hs.1, pa_g0 hp, pa_l hp, ev_f (nI_ge hM60 (by omega)), pa_g0 hp, pa_gI hp, hs.1, pa_s hp hM60, pa_gI hp, mv_si_ne (by omega), hs.1, pa_sI hp, mv_si_ne (show 143 ≠ 144 by omega), li1, nI_add]
      rfl
    unfold F_X6_append
    rw [li33, li126, ev_f (nI_nlt s1 (by omega)), ev_t (nI_le s2 (by omega)), xo_g4 hS, pa_gI hp, hs.1, li60, ev_t (nI_lt hM60 (by omega)), xo_g4 hS, pa_rc hp, ev_bd e, xo_g4 hS, pa_gI hp, mv_si_eq, mv_vu_eq]
    rfl
  · have hl : (G.2.2.2 ++ [s]).length = M + 1 := by rw [List.length_append, hM]; rfl
    show mv_CI j h0 (mv_si (mv_si I 144 (mv_vu (I 144) M (nI s))) 143 (mv_vu (I 143) 1 (nI (M + 1)))) G.1 G.2.1.length p z ks (G.2.2.2 ++ [s]).length (mv_vu pd M (nI s))
    rw [hl]
    have hF : ∀ i, i ≠ 143 → i ≠ 144 → mv_si (mv_si I 144 (mv_vu (I 144) M (nI s))) 143 (mv_vu (I 143) 1 (nI (M + 1))) i = I i := fun i h1 h2 => by rw [mv_si_ne h1, mv_si_ne h2]
    obtain ⟨-, hO, ⟨a1, a2, a3⟩, ⟨b1, b2⟩, ⟨c1, c2, c3⟩⟩ := hc
    refine ⟨hS, mv_OK_congr (xo_R1 hS) (fun _ => rfl) (fun i q1 q2 => hF i (by omega) (by omega)) hO, ⟨by rw [hF 61 (by omega) (by omega)]; exact a1, a2, fun k hk => ?_⟩, ⟨by rw [hF 0 (by omega) (by omega)]; exact b1, b2.imp id (fun b => ⟨b.1, ?_⟩)⟩, ⟨by rw [mv_si_eq, mv_vu_eq], by omega, fun k hk => ?_⟩⟩
    · have := mv_sr_rng hS (show k < 4 by omega)
      exact mv_OK_congr (mv_st63 hS (by omega)) (fun _ => rfl) (fun i q1 q2 => hF i (by omega) (by omega)) (a3 k hk)
    · exact mv_OK_congr (xo_R41 hS) (fun _ => rfl) (fun i q1 q2 => hF i (by omega) (by omega)) b.2
    · rw [mv_si_ne (show 144 ≠ 143 by omega), mv_si_eq]
      by_cases e : k = M
      · subst e; rw [mv_vu_eq, mv_vu_eq]; exact ⟨s, s1, s2, rfl, rfl⟩
      · rw [mv_vu_ne e, mv_vu_ne e]; exact c3 k (by omega)
  · have hk' : (G.2.2.2 ++ [s])[k]? = some w := hk
    by_cases e : k < M
    · rw [List.getElem?_append_left (by rw [hM]; exact e)] at hk'
      rw [mv_vu_ne (by omega)]
      exact hp3 k w hk'
    · rw [List.getElem?_append_right (by rw [hM]; omega), hM] at hk'
      have hk0 : k - M = 0 := by
        have := (List.getElem?_eq_some_iff.mp hk').1
        simpa using this
      have hkM : k = M := by omega
      rw [hk0] at hk'
      have : s = w := by simpa using hk'
      subst this
      rw [hkM, mv_vu_eq]
      exact ⟨s1, s2, rfl⟩
theorem cl_cl (hj : j < 500) (hV : mv_VV G.1 C B D) (hD : D ≤ 30 * j) : p_ac j G (F_X6_clear 0) (nI G.2.2.2.length) j (G.1, G.2.1, G.2.2.1, []) := by
  refine p_of (fun h0 I hr => ?_)
  have hr0 := hr
  obtain ⟨hD', hS, hP, hW⟩ := p_un hj hV hD hr
  have hs := p_SG hr
  have hp := mv_PS_of hS
  obtain ⟨p, z, ks, pd, hc, hp1, hp2, hp3⟩ := p_CI hr
  refine ⟨h0, mv_si I 143 (mv_vu (I 143) 1 (nI 0)), ?_, hr0.1, p, z, ks, pd, mv_CI_hp (mv_CI_pad0 hc (fun i _ h1 _ _ => mv_si_ne h1) (show mv_si I 143 (mv_vu (I 143) 1 (nI 0)) 143 1 = nI 0 by rw [mv_si_eq, mv_vu_eq])), hp1, hp2, fun k w hk => by cases hk⟩
  unfold F_X6_clear
  rw [xo_g4 hS, pa_gI hp, hs.1, xo_g4 hS, pa_sI hp, li0]; rfl
theorem cl_fa0 (hj : j < 500) (hV : mv_VV G.1 C B D) (hD : D ≤ 30 * j) : p_ac j G (F_X6_fault 0 (0 : Int32)) (mv_fv (mv_tx (p_sg G.2.2.2) G.2.2.2.length 100 0).1) j G := by
  refine p_of (fun h0 I hr => ⟨h0, I, ?_, hr⟩)
  obtain ⟨hD', hS, hP, hW⟩ := p_un hj hV hD hr
  have hs := p_SG hr
  have hp := mv_PS_of hS
  unfold F_X6_fault J_X6_fault_11 J_X6_fault_32
  rw [ev_t rfl, ev_t rfl, xo_g4 hS, pa_rc hp, ev_bd (pa_tours hp hs)]
  rfl
theorem cl_fa1 (hj : j < 500) (hV : mv_VV G.1 C B D) (hD : D ≤ 30 * j) : p_ac j G (F_X6_fault 0 (1 : Int32)) (mv_fv (mv_ly (p_sg G.2.2.2) G.2.2.2.length 100 0).1) j G := by
  refine p_of (fun h0 I hr => ⟨h0, I, ?_, hr⟩)
  obtain ⟨hD', hS, hP, hW⟩ := p_un hj hV hD hr
  have hs := p_SG hr
  have hp := mv_PS_of hS
  unfold F_X6_fault J_X6_fault_11 J_X6_fault_32
  rw [ev_f (by decide), ev_t rfl, ev_f (by decide), xo_g4 hS, pa_rc hp, ev_bd (pa_letters hp hs)]
  rfl
/-- the place of a fault: not behind the pad -/
theorem p_tx_le {sg : Nat → Nat} {M : Nat} (hin : ∀ k, sg k ≠ 0 → k < M) : ∀ f i p, i ≤ M → (mv_tx sg M f i).1 = some p → p ≤ M
  | 0, i, p, hi, h => by
    have : i = p := Option.some.inj h
    omega
  | f + 1, i, p, hi, h => by
    rw [mv_tx] at h
    by_cases h0 : mv_nT sg i = 0
    · rw [if_pos h0] at h
      have : i = p := Option.some.inj h
      omega
    · rw [if_neg h0] at h
      by_cases h1 : sg (i + mv_nT sg i) = 42 ∧ ¬ mv_Dg (sg (i + mv_nT sg i + 1)) = true
      · rw [if_pos h1] at h
        have : i + mv_nT sg i + 1 = p := Option.some.inj h
        have := hin (i + mv_nT sg i) (by omega)
        omega
      · rw [if_neg h1] at h
        by_cases h2 : M ≤ mv_en sg i
        · rw [if_pos h2] at h; cases h
        · rw [if_neg h2] at h
          by_cases h3 : sg (mv_en sg i) = 59
          · rw [if_pos h3] at h
            exact p_tx_le hin f (mv_en sg i + 1) p (by omega) h
          · rw [if_neg h3] at h
            have : mv_en sg i = p := Option.some.inj h
            omega
theorem p_ly_le {sg : Nat → Nat} {M : Nat} (hin : ∀ k, sg k ≠ 0 → k < M) : ∀ f i p, i ≤ M → (mv_ly sg M f i).1 = some p → p ≤ M
  | 0, i, p, hi, h => by
    have : i = p := Option.some.inj h
    omega
  | f + 1, i, p, hi, h => by
    rw [mv_ly] at h
    by_cases h0 : mv_T (sg i) = true
    · have l0 := hin i (fun z => by rw [z] at h0; exact absurd h0 (by decide))
      rw [if_neg (fun z => z h0)] at h
      by_cases h1 : sg (i + 1) = 62
      · have l1 := hin (i + 1) (by omega)
        rw [if_neg (fun z => z h1)] at h
        by_cases h2 : mv_T (sg (i + 2)) = true ∧ ¬ sg (i + 2) = sg i
        · rw [if_neg (fun z => z h2)] at h
          by_cases h3 : M ≤ i + 3
          · rw [if_pos h3] at h; cases h
          · rw [if_neg h3] at h
            by_cases h4 : sg (i + 3) = 44
            · rw [if_pos h4] at h
              exact p_ly_le hin f (i + 4) p (by omega) h
            · rw [if_neg h4] at h
              have : i + 3 = p := Option.some.inj h
              omega
        · rw [if_pos h2] at h
          have : i + 2 = p := Option.some.inj h
          omega
      · rw [if_pos h1] at h
        have : i + 1 = p := Option.some.inj h
        omega
    · rw [if_pos h0] at h
      have : i = p := Option.some.inj h
      omega
theorem p_pad0 {j' : Nat} {v' : Nat → Int32} {h0 : mv_Hp} {I : Nat → Nat → Int32} {hs : List (Nat → Int32)} {ks : Option (Nat → Int32)} {pd : List Nat} (hr : p_rp j' (v', hs, ks, pd) (mv_hp h0 I)) : p_rp j' (v', hs, ks, []) (mv_hp h0 (mv_si I 143 (mv_vu (I 143) 1 (nI 0)))) := by
  have hr0 := hr
  obtain ⟨p, z, ks', pd', hc, hp1, hp2, hp3⟩ := p_CI hr
  exact ⟨hr0.1, p, z, ks', pd', mv_CI_hp (mv_CI_pad0 hc (fun i _ h1 _ _ => mv_si_ne h1) (show mv_si I 143 (mv_vu (I 143) 1 (nI 0)) 143 1 = nI 0 by rw [mv_si_eq, mv_vu_eq])), hp1, hp2, fun k w hk => by cases hk⟩
theorem p_sgin {j : Nat} {G : p_G} {h0 : mv_Hp} {I : Nat → Nat → Int32} (hr : p_rp j G (mv_hp h0 I)) : ∀ k, p_sg G.2.2.2 k ≠ 0 → k < G.2.2.2.length := fun k hk => mv_sg_in (p_SG hr) hk
theorem cl_tono (hj : j < 500) (hV : mv_VV G.1 C B D) (hD : D ≤ 30 * j) {p : Nat} (htx : (mv_tx (p_sg G.2.2.2) G.2.2.2.length 100 0).1 = some p) : p_ac j G (F_X6_tours 0) mv_n2 j G := by
  refine p_of (fun h0 I hr => ⟨h0, I, ?_, hr⟩)
  obtain ⟨hD', hS, hP, hW⟩ := p_un hj hV hD hr
  have hs := p_SG hr
  have hp := mv_PS_of hS
  have h60 := hs.2.1
  have hpb : p < 2 ^ 31 := by
    have := p_tx_le (p_sgin hr) 100 0 p (by omega) htx
    omega
  unfold F_X6_tours
  rw [xo_g4 hS, pa_rc hp, ev_bd (pa_tours hp hs), htx, li4, lin4, ev_f (mv_fv_ne hpb)]
  rfl
theorem cl_leno (hj : j < 500) (hV : mv_VV G.1 C B D) (hD : D ≤ 30 * j) {p : Nat} (htx : (mv_ly (p_sg G.2.2.2) G.2.2.2.length 100 0).1 = some p) : p_ac j G (F_X6_letters 0) mv_n2 j G := by
  refine p_of (fun h0 I hr => ⟨h0, I, ?_, hr⟩)
  obtain ⟨hD', hS, hP, hW⟩ := p_un hj hV hD hr
  have hs := p_SG hr
  have hp := mv_PS_of hS
  have h60 := hs.2.1
  have hpb : p < 2 ^ 31 := by
    have := p_ly_le (p_sgin hr) 100 0 p (by omega) htx
    omega
  unfold F_X6_letters
  rw [xo_g4 hS, pa_rc hp, ev_bd (pa_letters hp hs), htx, li4, lin4, ev_f (mv_fv_ne hpb)]
  rfl
/-- as many as there are signs between them, and one -/
theorem p_cntT {sg : Nat → Nat} {M K : Nat} (hin : ∀ k, sg k ≠ 0 → k < M) (hK : mv_tx sg M 100 0 = (none, K)) : 1 ≤ K ∧ 1 + mv_cnt sg 59 M = K := by
  have hgx : mv_gx (mv_faT sg) (mv_en sg) 59 sg M 100 0 = (none, K) := by rw [← mv_tx_gx]; exact hK
  obtain ⟨hK1, hcnt⟩ := mv_cnt_gx (mv_hskip hin) 100 0 K (by omega) hgx
  have : mv_cnt sg 59 0 = 0 := rfl
  omega
theorem p_cntL {sg : Nat → Nat} {M K : Nat} (hin : ∀ k, sg k ≠ 0 → k < M) (hK : mv_ly sg M 100 0 = (none, K)) : 1 ≤ K ∧ 1 + mv_cnt sg 44 M = K := by
  have hgx : mv_gx (mv_faL sg) (fun i => i + 3) 44 sg M 100 0 = (none, K) := by rw [← mv_ly_gx]; exact hK
  obtain ⟨hK1, hcnt⟩ := mv_cnt_gx (mv_hskipL hin) 100 0 K (by omega) hgx
  have : mv_cnt sg 44 0 = 0 := rfl
  omega
theorem p_cnt_le {sg : Nat → Nat} {s : Nat} : ∀ k, mv_cnt sg s k ≤ k
  | 0 => Nat.le_refl _
  | k + 1 => by
    have := p_cnt_le (sg := sg) (s := s) k
    show mv_cnt sg s k + _ ≤ _
    split <;> omega
theorem cl_tofu (hj : j < 500) (hV : mv_VV G.1 C B D) (hD : D ≤ 30 * j) {K : Nat} (hK : mv_tx (p_sg G.2.2.2) G.2.2.2.length 100 0 = (none, K)) (hCK : ¬ C + K ≤ 4) : p_ac j G (F_X6_tours 0) mv_n3 j G := by
  refine p_of (fun h0 I hr => ⟨h0, I, ?_, hr⟩)
  obtain ⟨hD', hS, hP, hW⟩ := p_un hj hV hD hr
  have hs := p_SG hr
  have hp := mv_PS_of hS
  have hR := xo_R1 hS
  have h60 := hs.2.1
  have hC4 := hV.2.2.2.1
  obtain ⟨hK1, hcnt'⟩ := p_cntT (p_sgin hr) hK
  have hle := p_cnt_le (sg := p_sg G.2.2.2) (s := 59) G.2.2.2.length
  unfold F_X6_tours
  rw [xo_g4 hS, pa_rc hp, ev_bd (pa_tours hp hs), hK, li4, lin4, ev_t (show mv_fv none = mv_n4 from rfl), xo_g0 hS, ro_gI hR, hW.1.1, hV.2.1, xo_g4 hS, pa_rc hp, li59, pa_parts' hp hs (by omega), hcnt', nI_add, ev_f (nI_ge (by omega) (by omega))]
  rfl
theorem cl_to (hj : j < 500) (hV : mv_VV G.1 C B D) (hD : D ≤ 30 * j) {K : Nat} (hK : mv_tx (p_sg G.2.2.2) G.2.2.2.length 100 0 = (none, K)) (hCK : C + K ≤ 4) : p_ac j G (F_X6_tours 0) (nI (C + K)) j (mv_tv (p_sg G.2.2.2) K G.1 C 0, (p_ch G G.1).2.1, G.2.2.1, []) := by
  refine p_of (fun h0 I hr => ?_)
  obtain ⟨hD', hS, hP, hW⟩ := p_un hj hV hD hr
  have hs := p_SG hr
  have hp := mv_PS_of hS
  have hR := xo_R1 hS
  have h60 := hs.2.1
  have hC4 := hV.2.2.2.1
  have hB8 := hV.2.2.2.2.1
  have hin := p_sgin hr
  have hgx : mv_gx (mv_faT (p_sg G.2.2.2)) (mv_en (p_sg G.2.2.2)) 59 (p_sg G.2.2.2) G.2.2.2.length 100 0 = (none, K) := by rw [← mv_tx_gx]; exact hK
  obtain ⟨hK1, hcnt'⟩ := p_cntT hin hK
  obtain ⟨h0', I1, e1, hS', W1, F1, s2, hPx, -, fin⟩ := p_ck hr hC4 hB8 hW
  have hp' := mv_PS_of hS'
  have hs1 : mv_SG I1 G.2.2.2.length (p_sg G.2.2.2) := mv_SG_congr (F1 143 (by omega) (by omega) (by omega)) (F1 144 (by omega) (by omega) (by omega)) hs
  obtain ⟨I2, e2, W2, F2⟩ := xo_pad hS' W1 hV hs1 hK hK1 hCK
  obtain ⟨V2, P2⟩ := mv_tv_VV (D := D) hin 100 0 K C G.1 hgx hCK hV hP
  refine ⟨h0', mv_si I2 143 (mv_vu (I2 143) 1 (nI 0)), ?_, p_pad0 (fin j I2 _ (Nat.le_refl _) F2 ⟨D, C + K, B, hD, ⟨V2, P2⟩, W2⟩)⟩
  unfold F_X6_tours
  rw [xo_g4 hS, pa_rc hp, ev_bd (pa_tours hp hs), hK, li4, lin4, ev_t (show mv_fv none = mv_n4 from rfl), xo_g0 hS, ro_gI hR, hW.1.1, hV.2.1, xo_g4 hS, pa_rc hp, li59, pa_parts' hp hs (by omega), hcnt', nI_add, ev_t (nI_le hCK (by omega)), xo_g3 hS, xo_g0 hS, hi_rc hS.2.2.2.2.1, ev_bd e1, xo_rc hS', ev_bd e2, xo_g4 hS', pa_sI hp', xo_g0 hS', ro_gI (xo_R1 hS'), li0, mv_si_ne (by omega), W2.1.1, V2.2.1]
  rfl
theorem cl_lefu (hj : j < 500) (hV : mv_VV G.1 C B D) (hD : D ≤ 30 * j) {K : Nat} (hK : mv_ly (p_sg G.2.2.2) G.2.2.2.length 100 0 = (none, K)) (hBK : ¬ B + K ≤ 8) : p_ac j G (F_X6_letters 0) mv_n3 j G := by
  refine p_of (fun h0 I hr => ⟨h0, I, ?_, hr⟩)
  obtain ⟨hD', hS, hP, hW⟩ := p_un hj hV hD hr
  have hs := p_SG hr
  have hp := mv_PS_of hS
  have hR := xo_R1 hS
  have h60 := hs.2.1
  have hB8 := hV.2.2.2.2.1
  obtain ⟨hK1, hcnt'⟩ := p_cntL (p_sgin hr) hK
  have hle := p_cnt_le (sg := p_sg G.2.2.2) (s := 44) G.2.2.2.length
  unfold F_X6_letters
  rw [xo_g4 hS, pa_rc hp, ev_bd (pa_letters hp hs), hK, li4, lin4, ev_t (show mv_fv none = mv_n4 from rfl), xo_g0 hS, ro_gI hR, hW.1.2.1, hV.2.2.1, xo_g4 hS, pa_rc hp, li44, pa_parts' hp hs (by omega), hcnt', nI_add, li8, ev_f (nI_ge (by omega) (by omega))]
  rfl
theorem cl_le (hj : j < 500) (hV : mv_VV G.1 C B D) (hD : D ≤ 30 * j) {K : Nat} (hK : mv_ly (p_sg G.2.2.2) G.2.2.2.length 100 0 = (none, K)) (hBK : B + K ≤ 8) : p_ac j G (F_X6_letters 0) (nI (B + K)) j (mv_lv (p_sg G.2.2.2) C D K G.1 B 0, (p_ch G G.1).2.1, G.2.2.1, []) := by
  refine p_of (fun h0 I hr => ?_)
  obtain ⟨hD', hS, hP, hW⟩ := p_un hj hV hD hr
  have hs := p_SG hr
  have hp := mv_PS_of hS
  have hR := xo_R1 hS
  have h60 := hs.2.1
  have hC4 := hV.2.2.2.1
  have hB8 := hV.2.2.2.2.1
  have hin := p_sgin hr
  have hgx : mv_gx (mv_faL (p_sg G.2.2.2)) (fun i => i + 3) 44 (p_sg G.2.2.2) G.2.2.2.length 100 0 = (none, K) := by rw [← mv_ly_gx]; exact hK
  obtain ⟨hK1, hcnt'⟩ := p_cntL hin hK
  obtain ⟨h0', I1, e1, hS', W1, F1, s2, hPx, -, fin⟩ := p_ck hr hC4 hB8 hW
  have hs1 : mv_SG I1 G.2.2.2.length (p_sg G.2.2.2) := mv_SG_congr (F1 143 (by omega) (by omega) (by omega)) (F1 144 (by omega) (by omega) (by omega)) hs
  obtain ⟨I2, e2, W2, F2, V2, P2⟩ := xo_letLoop hS' hs1 hD' 100 0 K B mv_FU G.1 I1 hgx hBK (by decide) (by omega) mv_fr_rfl W1 hV hP
  refine ⟨h0', mv_si I2 143 (mv_vu (I2 143) 1 (nI 0)), ?_, p_pad0 (fin j I2 _ (Nat.le_refl _) F2 ⟨D, C, B + K, hD, ⟨V2, P2⟩, W2⟩)⟩
  unfold F_X6_letters
  rw [xo_g4 hS, pa_rc hp, ev_bd (pa_letters hp hs), hK, li4, lin4, ev_t (show mv_fv none = mv_n4 from rfl), xo_g0 hS, ro_gI hR, hW.1.2.1, hV.2.2.1, xo_g4 hS, pa_rc hp, li44, pa_parts' hp hs (by omega), hcnt', nI_add, li8, ev_t (nI_le hBK (by omega)), xo_g3 hS, xo_g0 hS, hi_rc hS.2.2.2.2.1, ev_bd e1, li0, e2]
end PP2
