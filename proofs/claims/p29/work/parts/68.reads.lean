/-! what holds of all states between the acts -/
def p_IV (j : Nat) (v : Nat → Int32) : Prop := ∃ C B D, mv_VV v C B D ∧ p_VR v C B D ∧ D ≤ 30 * j
def p_GI (j : Nat) (G : p_G) : Prop := p_IV j G.1 ∧ (∀ u ∈ G.2.1, p_IV j u) ∧ (∀ u, G.2.2.1 = some u → p_IV j u) ∧ G.2.1.length ≤ 4
/-- an act: refused, or a change -/
def p_nx (G G' : p_G) : Prop := (G'.1 = G.1 ∧ G'.2.1 = G.2.1 ∧ G'.2.2.1 = G.2.2.1) ∨ (G'.2.1 = (G.1 :: G.2.1).take 4 ∧ G'.2.2.1 = G.2.2.1)
def p_A (j : Nat) (G : p_G) (f : mv_M Int32) : Prop := ∃ G', p_ac j G f 1 (j + 1) G' ∧ p_GI (j + 1) G' ∧ p_nx G G'
theorem p_IV_le {j j' : Nat} {v : Nat → Int32} (hj : j ≤ j') (h : p_IV j v) : p_IV j' v := by
  obtain ⟨C, B, D, h1, h2, h3⟩ := h
  exact ⟨C, B, D, h1, h2, by omega⟩
theorem p_GI_le {j j' : Nat} {G : p_G} (hj : j ≤ j') (h : p_GI j G) : p_GI j' G := ⟨p_IV_le hj h.1, fun u hu => p_IV_le hj (h.2.1 u hu), fun u hu => p_IV_le hj (h.2.2.1 u hu), h.2.2.2⟩
theorem p_GI_ch {j : Nat} {G : p_G} {v' : Nat → Int32} {pd : List Nat} (h : p_GI j G) (hv : p_IV j v') : p_GI j (v', (G.1 :: G.2.1).take 4, G.2.2.1, pd) := by
  refine ⟨hv, fun u hu => ?_, h.2.2.1, by show ((G.1 :: G.2.1).take 4).length ≤ 4; rw [List.length_take]; omega⟩
  rcases List.mem_cons.mp (List.mem_of_mem_take hu) with e | e
  · rw [e]; exact h.1
  · exact h.2.1 u e
theorem mv_lv_VV {sg : Nat → Nat} {M C D : Nat} (hin : ∀ k, sg k ≠ 0 → k < M) : ∀ (f i K B : Nat) (v : Nat → Int32), mv_gx (mv_faL sg) (fun i => i + 3) 44 sg M f i = (none, K) → B + K ≤ 8 → mv_VV v C B D → mv_VV (mv_lv sg C D K v B i) C (B + K) D
  | 0, i, K, B, v, h, _, _ => by cases h
  | f + 1, i, K, B, v, h, hB, hV => by
    rw [mv_gx] at h
    cases hfa : mv_faL sg i with
    | some p => rw [hfa] at h; cases h
    | none =>
      rw [hfa] at h
      dsimp only at h
      obtain ⟨z1, z2, z3, z4, z5⟩ := mv_enL hin hfa
      have t1 := mv_T48 z2
      have t2 := mv_T48 z4
      by_cases hE : M ≤ i + 3
      · rw [if_pos hE] at h
        have hK : 1 = K := (Prod.mk.inj h).2
        subst hK
        exact mv_VV_pw hV (by omega) (by omega) (by omega)
      · rw [if_neg hE] at h
        by_cases hs : sg (i + 3) = 44
        · rw [if_pos hs] at h
          have hh := Prod.mk.inj h
          obtain ⟨K, rfl⟩ := Nat.exists_eq_succ_of_ne_zero (show K ≠ 0 by omega)
          have hK : (mv_gx (mv_faL sg) (fun i => i + 3) 44 sg M f (i + 3 + 1)).2 = K := by omega
          have := mv_lv_VV hin f (i + 3 + 1) K (B + 1) (mv_pv v C B D (sg i - 48) (sg (i + 2) - 48)) (Prod.ext hh.1 hK) (by omega) (mv_VV_pw hV (by omega) (by omega) (by omega))
          rw [show B + 1 + K = B + (K + 1) by omega] at this
          exact this
        · rw [if_neg hs] at h; cases h
theorem p_hin (l : List Nat) : ∀ k, p_sg l k ≠ 0 → k < l.length := fun k hk => by
  apply Classical.byContradiction
  intro z
  exact hk (p_sg_out (by omega))
theorem p_cmp0 (x : Int64) : lg_cmp x x = 0 := by simp [lg_cmp]
theorem p_t4 {α : Type} {v : α} {l : List α} (h : l.length ≤ 4) : ((v :: l).take 4).length = if 4 ≤ l.length then 4 else l.length + 1 := by
  rw [List.length_take, List.length_cons]
  split <;> omega
section PRD
variable {j : Nat} {G : p_G} {C B D : Nat}
/-- a refused text leaves all -/
theorem r_205 (hj : j < 300) (hV : mv_VV G.1 C B D) (hD : D ≤ 30 * j) {x : Int32} : p_ac j G (J_L_reads_205 0 (p_lk G.1 C B D) (nI G.2.1.length) x x) 1 j G := by
  have hj5 : j < 500 := by omega
  unfold J_L_reads_205
  refine p_t rfl (p_bd (cl_lk hj hV hD) (p_t (p_cmp0 _) (p_cl (cl_ct16 hj5 hV hD) (p_t rfl ?_))))
  unfold J_L_reads_238
  exact p_rz (Or.inr rfl)
/-- with a fault -/
theorem r_fault (hj : j < 300) (hV : mv_VV G.1 C B D) (hD : D ≤ 30 * j) {x2 x3 x8 : Int32} {p : Nat} (hp : p ≤ G.2.2.2.length) (h60 : G.2.2.2.length ≤ 60) : p_ac j G (J_L_reads_111 0 x2 x3 1 (p_lk G.1 C B D) (nI G.2.1.length) x8 (nI G.2.2.2.length) (nI p) mv_n2) 1 j (G.1, G.2.1, G.2.2.1, []) := by
  have hj5 : j < 500 := by omega
  unfold J_L_reads_111
  refine p_cl (cl_cl hj5 hV hD) (p_f (by decide) (p_f (mv_n4_ne (by omega)) (p_t rfl ?_)))
  unfold J_L_reads_138
  refine p_f (mv_n4_ne (by omega)) (p_f (nI_pos (by omega)) (p_f (nI_nlt hp (by omega)) ?_))
  unfold J_L_reads_157 J_L_reads_162
  refine p_f (by decide) (p_f (by decide) (p_f (mv_n4_ne (by omega)) ?_))
  exact r_205 (G := (G.1, G.2.1, G.2.2.1, [])) hj hV hD
/-- too many -/
theorem r_full (hj : j < 300) (hV : mv_VV G.1 C B D) (hD : D ≤ 30 * j) {x2 : Int32} {m N : Nat} (h60 : G.2.2.2.length ≤ 60) (hN : N < 100) (hm : m ≤ 8) (h : (x2 = 0 ∧ 8 < m + N) ∨ (¬ x2 = 0 ∧ 4 < m + N)) : p_ac j G (J_L_reads_111 0 x2 (nI N) 1 (p_lk G.1 C B D) (nI G.2.1.length) (nI m) (nI G.2.2.2.length) mv_n4 mv_n3) 1 j (G.1, G.2.1, G.2.2.1, []) := by
  have hj5 : j < 500 := by omega
  unfold J_L_reads_111
  refine p_cl (cl_cl hj5 hV hD) (p_f (by decide) (p_t rfl ?_))
  unfold J_L_reads_138
  refine p_t rfl ?_
  unfold J_L_reads_157 J_L_reads_162
  refine p_f (by decide) (p_f (by decide) (p_t rfl (p_t rfl ?_)))
  unfold J_L_reads_202
  rw [nI_add]
  rcases h with ⟨h0, h⟩ | ⟨h0, h⟩
  · exact p_t h0 (p_f (nI_ge (a := 8) h (by omega)) (r_205 (G := (G.1, G.2.1, G.2.2.1, [])) hj hV hD))
  · exact p_f h0 (p_f (nI_ge (a := 4) h (by omega)) (r_205 (G := (G.1, G.2.1, G.2.2.1, [])) hj hV hD))
/-- read -/
theorem r_done (hj : j < 300) {v' : Nat → Int32} {C' B' : Nat} (hV' : mv_VV v' C' B' D) (hD : D ≤ 30 * j) (hs4 : G.2.1.length ≤ 4) {x2 x9 : Int32} {lk : Int64} {m N : Nat} (hN : N < 100) (hm : m ≤ 8) (h : (x2 = 0 ∧ B' = m + N) ∨ (¬ x2 = 0 ∧ C' = m + N)) : p_ac j (v', (p_ch G G.1).2.1, G.2.2.1, []) (J_L_reads_111 0 x2 (nI N) 1 lk (nI G.2.1.length) (nI m) x9 mv_n4 (nI (m + N))) 1 j (v', (p_ch G G.1).2.1, G.2.2.1, []) := by
  have hj5 : j < 500 := by omega
  unfold J_L_reads_111
  refine p_cl (cl_cl (G := (v', (p_ch G G.1).2.1, G.2.2.1, [])) hj5 hV' hD) (p_f (by decide) (p_t rfl ?_))
  unfold J_L_reads_138
  refine p_t rfl ?_
  unfold J_L_reads_157 J_L_reads_162
  refine p_t (nI_pos' (by omega)) (p_f (by decide) (p_t rfl (p_t (by rw [nI_add]) (p_t rfl (p_cl (cl_ct16 (G := (v', (p_ch G G.1).2.1, G.2.2.1, [])) hj5 hV' hD) ?_)))))
  have el : ((p_ch G G.1).2.1).length = if 4 ≤ G.2.1.length then 4 else G.2.1.length + 1 := p_t4 hs4
  have k : ∀ x : Int32, x = nI ((p_ch G G.1).2.1).length → p_ac j (v', (p_ch G G.1).2.1, G.2.2.1, []) (J_L_reads_285 0 x2 (nI (m + N)) (nI ((p_ch G G.1).2.1).length) x) 1 j (v', (p_ch G G.1).2.1, G.2.2.1, []) := by
    intro x hx
    have fin : p_ac j (v', (p_ch G G.1).2.1, G.2.2.1, []) (J_L_reads_305 0 (nI (m + N)) (nI (m + N))) 1 j (v', (p_ch G G.1).2.1, G.2.2.1, []) := by
      unfold J_L_reads_305
      refine p_t rfl ?_
      unfold J_L_reads_315
      exact p_rz (Or.inr rfl)
    unfold J_L_reads_285
    refine p_t hx.symm ?_
    rcases h with ⟨h0, h⟩ | ⟨h0, h⟩
    · refine p_t h0 (p_cl (cl_ct4 (G := (v', (p_ch G G.1).2.1, G.2.2.1, [])) hj5 hV' hD) ?_)
      have : (v', (p_ch G G.1).2.1, G.2.2.1, ([] : List Nat)).1 4 = nI (m + N) := by rw [← h]; exact hV'.2.2.1
      rw [this]
      exact fin
    · refine p_f h0 (p_cl (cl_ct2 (G := (v', (p_ch G G.1).2.1, G.2.2.1, [])) hj5 hV' hD) ?_)
      have : (v', (p_ch G G.1).2.1, G.2.2.1, ([] : List Nat)).1 3 = nI (m + N) := by rw [← h]; exact hV'.2.1
      rw [this]
      exact fin
  by_cases h4 : 4 ≤ G.2.1.length
  · refine p_t (nI_le (a := 4) h4 (by omega)) (k _ ?_)
    rw [el, if_pos h4]; rfl
  · refine p_f (nI_ge (b := 4) (by omega) (by omega)) (k _ ?_)
    rw [el, if_neg h4]; exact p_i1 _
/-- reads answers true -/
theorem cl_rd (hj : j < 300) (hI : p_GI j G) (x : Int32) : p_A j G (F_L_reads 0 x) := by
  have hj5 : j < 500 := by omega
  obtain ⟨C, B, D, hV, H, hD⟩ := hI.1
  have hC4 := hV.2.2.2.1
  have hB8 := hV.2.2.2.2.1
  have step : ∀ {f : mv_M Int32} {l : List Nat} {β : Type} {g : β → mv_M Int32} {c : mv_M β} {r : β}, p_ac j G c r j (G.1, G.2.1, G.2.2.1, l) → (l.length ≤ 60 → p_A j (G.1, G.2.1, G.2.2.1, l) (g r)) → f = mv_bd c g → (l.length ≤ 60 ∨ ¬ l.length ≤ 60) → p_A j G f := by
    intro f l β g c r h1 h2 e _
    by_cases h60 : l.length ≤ 60
    · obtain ⟨G', a1, a2, a3⟩ := h2 h60
      exact ⟨G', by rw [e]; exact p_bd h1 a1, a2, a3⟩
    · refine ⟨(G.1, G.2.1, G.2.2.1, []), ?_, ⟨p_IV_le (Nat.le_succ j) hI.1, fun u hu => p_IV_le (Nat.le_succ j) (hI.2.1 u hu), fun u hu => p_IV_le (Nat.le_succ j) (hI.2.2.1 u hu), hI.2.2.2⟩, Or.inl ⟨rfl, rfl, rfl⟩⟩
      intro y hr
      obtain ⟨h', -, r1⟩ := h1 y hr
      obtain ⟨p, zz, ks, pd, ⟨-, -, -, -, ⟨-, c2, -⟩⟩, -⟩ := p_CI (h0 := h') (I := h'.2.2.1) r1
      exact absurd c2 h60
  unfold F_L_reads
  have hlow := cl_low (j := j) (G := G) (x := x >>> ((19 : Int32) &&& 31)) (n := 2) (by omega) (by omega)
  have main : ∀ z : Int32, z = 0 ∨ z = 1 → p_A j G (J_L_reads_16 0 x z) := by
    intro z hz
    have body : ∀ (w sep : Nat), (z = 0 ∧ sep = 44 ∧ w = 7) ∨ (z = 1 ∧ sep = 59 ∧ w = 4) → p_A j G (J_L_reads_28 0 x z x (nI w)) := by
      intro w sep hzw
      have hw0 : 0 < w := by omega
      have hN := p_low_lt (x := x) hw0
      obtain ⟨l, hl, hty⟩ := cl_ty (x := x) (z := z) hj hV hD hzw
      have tail : l.length ≤ 60 → p_A j (G.1, G.2.1, G.2.2.1, l) (mv_bd (F_L_look 0) fun v22 => mv_bd (mv_rc 6 7 (some 0)) fun i24 => mv_bd (F_X6_count i24 (16 : Int32)) fun v23 => if z = 0 then mv_bd (mv_rc 6 7 (some 0)) fun i26 => mv_bd (F_X6_count i26 (4 : Int32)) fun v25 => J_L_reads_71 0 z (nI (p_low x w)) 1 v22 v23 v25 else mv_bd (mv_rc 6 7 (some 0)) fun i28 => mv_bd (F_X6_count i28 (2 : Int32)) fun v27 => J_L_reads_71 0 z (nI (p_low x w)) 1 v22 v23 v27) := by
        intro h60
        generalize p_low x w = N at hl hN
        rcases hzw with ⟨rfl, rfl, rfl⟩ | ⟨rfl, rfl, rfl⟩
        · -- letters
          have key : ∀ {G'}, p_ac j (G.1, G.2.1, G.2.2.1, l) (mv_bd (mv_rc 6 7 (some 0)) fun i15 => mv_bd (F_X6_letters i15) fun v14 => J_L_reads_111 0 0 (nI N) 1 (p_lk G.1 C B D) (nI G.2.1.length) (nI B) (nI l.length) (mv_fv (mv_ly (p_sg l) l.length 100 0).1) v14) 1 j G' → p_ac j (G.1, G.2.1, G.2.2.1, l) (mv_bd (F_L_look 0) fun v22 => mv_bd (mv_rc 6 7 (some 0)) fun i24 => mv_bd (F_X6_count i24 (16 : Int32)) fun v23 => if (0 : Int32) = 0 then mv_bd (mv_rc 6 7 (some 0)) fun i26 => mv_bd (F_X6_count i26 (4 : Int32)) fun v25 => J_L_reads_71 0 0 (nI N) 1 v22 v23 v25 else mv_bd (mv_rc 6 7 (some 0)) fun i28 => mv_bd (F_X6_count i28 (2 : Int32)) fun v27 => J_L_reads_71 0 0 (nI N) 1 v22 v23 v27) 1 j G' := by
            intro G' h
            refine p_bd (cl_lk (G := (G.1, G.2.1, G.2.2.1, l)) hj hV hD) (p_cl (cl_ct16 (G := (G.1, G.2.1, G.2.2.1, l)) hj5 hV hD) (p_t rfl (p_cl (cl_ct4 (G := (G.1, G.2.1, G.2.2.1, l)) hj5 hV hD) ?_)))
            have e4 : (G.1, G.2.1, G.2.2.1, l).1 4 = nI B := hV.2.2.1
            rw [e4]
            unfold J_L_reads_71
            refine p_cl (cl_ct15 (G := (G.1, G.2.1, G.2.2.1, l)) hj5 hV hD) (p_t rfl ?_)
            unfold J_L_reads_91
            exact p_cl (cl_fa1 (G := (G.1, G.2.1, G.2.2.1, l)) hj5 hV hD) (p_t rfl h)
          cases htx : (mv_ly (p_sg l) l.length 100 0).1 with
          | some p =>
            rw [htx] at key
            have hp := p_ly_le (p_hin l) 100 0 p (Nat.zero_le _) htx
            refine ⟨(G.1, G.2.1, G.2.2.1, []), p_acle (key (p_cl (cl_leno (G := (G.1, G.2.1, G.2.2.1, l)) hj5 hV hD htx) (r_fault (G := (G.1, G.2.1, G.2.2.1, l)) hj hV hD hp h60))) (Nat.le_succ j), p_GI_le (Nat.le_succ j) hI, Or.inl ⟨rfl, rfl, rfl⟩⟩
          | none =>
            rw [htx] at key
            have hK : mv_ly (p_sg l) l.length 100 0 = (none, (mv_ly (p_sg l) l.length 100 0).2) := Prod.ext htx rfl
            have eK := p_ty_L hl hK
            rw [eK] at hK
            by_cases hBN : B + N ≤ 8
            · have hgx : mv_gx (mv_faL (p_sg l)) (fun i => i + 3) 44 (p_sg l) l.length 100 0 = (none, N) := by rw [← mv_ly_gx]; exact hK
              have V' := mv_lv_VV (C := C) (D := D) (p_hin l) 100 0 N B G.1 hgx hBN hV
              have R' := p_VR_lv (C := C) (D := D) (p_hin l) (by omega) 100 0 N B G.1 hgx hBN hV H
              exact ⟨_, p_acle (key (p_cl (cl_le (G := (G.1, G.2.1, G.2.2.1, l)) hj5 hV hD hK hBN) (r_done (G := (G.1, G.2.1, G.2.2.1, l)) hj V' hD hI.2.2.2 (by omega) hB8 (Or.inl ⟨rfl, rfl⟩)))) (Nat.le_succ j), p_GI_ch (G := G) (p_GI_le (Nat.le_succ j) hI) ⟨C, B + N, D, V', R', by omega⟩, Or.inr ⟨rfl, rfl⟩⟩
            · exact ⟨(G.1, G.2.1, G.2.2.1, []), p_acle (key (p_cl (cl_lefu (G := (G.1, G.2.1, G.2.2.1, l)) hj5 hV hD hK hBN) (r_full (G := (G.1, G.2.1, G.2.2.1, l)) hj hV hD h60 (by omega) hB8 (Or.inl ⟨rfl, by omega⟩)))) (Nat.le_succ j), p_GI_le (Nat.le_succ j) hI, Or.inl ⟨rfl, rfl, rfl⟩⟩
        · -- tours
          have key : ∀ {G'}, p_ac j (G.1, G.2.1, G.2.2.1, l) (mv_bd (mv_rc 6 7 (some 0)) fun i17 => mv_bd (F_X6_tours i17) fun v16 => J_L_reads_111 0 1 (nI N) 1 (p_lk G.1 C B D) (nI G.2.1.length) (nI C) (nI l.length) (mv_fv (mv_tx (p_sg l) l.length 100 0).1) v16) 1 j G' → p_ac j (G.1, G.2.1, G.2.2.1, l) (mv_bd (F_L_look 0) fun v22 => mv_bd (mv_rc 6 7 (some 0)) fun i24 => mv_bd (F_X6_count i24 (16 : Int32)) fun v23 => if (1 : Int32) = 0 then mv_bd (mv_rc 6 7 (some 0)) fun i26 => mv_bd (F_X6_count i26 (4 : Int32)) fun v25 => J_L_reads_71 0 1 (nI N) 1 v22 v23 v25 else mv_bd (mv_rc 6 7 (some 0)) fun i28 => mv_bd (F_X6_count i28 (2 : Int32)) fun v27 => J_L_reads_71 0 1 (nI N) 1 v22 v23 v27) 1 j G' := by
            intro G' h
            refine p_bd (cl_lk (G := (G.1, G.2.1, G.2.2.1, l)) hj hV hD) (p_cl (cl_ct16 (G := (G.1, G.2.1, G.2.2.1, l)) hj5 hV hD) (p_f (by decide) (p_cl (cl_ct2 (G := (G.1, G.2.1, G.2.2.1, l)) hj5 hV hD) ?_)))
            have e3 : (G.1, G.2.1, G.2.2.1, l).1 3 = nI C := hV.2.1
            rw [e3]
            unfold J_L_reads_71
            refine p_cl (cl_ct15 (G := (G.1, G.2.1, G.2.2.1, l)) hj5 hV hD) (p_f (by decide) ?_)
            unfold J_L_reads_91
            exact p_cl (cl_fa0 (G := (G.1, G.2.1, G.2.2.1, l)) hj5 hV hD) (p_f (by decide) h)
          cases htx : (mv_tx (p_sg l) l.length 100 0).1 with
          | some p =>
            rw [htx] at key
            have hp := p_tx_le (p_hin l) 100 0 p (Nat.zero_le _) htx
            refine ⟨(G.1, G.2.1, G.2.2.1, []), p_acle (key (p_cl (cl_tono (G := (G.1, G.2.1, G.2.2.1, l)) hj5 hV hD htx) (r_fault (G := (G.1, G.2.1, G.2.2.1, l)) hj hV hD hp h60))) (Nat.le_succ j), p_GI_le (Nat.le_succ j) hI, Or.inl ⟨rfl, rfl, rfl⟩⟩
          | none =>
            rw [htx] at key
            have hK : mv_tx (p_sg l) l.length 100 0 = (none, (mv_tx (p_sg l) l.length 100 0).2) := Prod.ext htx rfl
            have eK := p_ty_T hl hK
            rw [eK] at hK
            by_cases hCN : C + N ≤ 4
            · have hgx : mv_gx (mv_faT (p_sg l)) (mv_en (p_sg l)) 59 (p_sg l) l.length 100 0 = (none, N) := by rw [← mv_tx_gx]; exact hK
              have hPv : mv_PV G.1 B := fun b hb => by
                obtain ⟨t, l, w, a, k, s, h1, h2, e0, e1, e2, h3, e3, h4, e6, e7, r1, r2, r3, r4, r5, r6⟩ := H.2.2.2 b hb
                exact r6.imp id (fun ⟨q, q1, q2, q3⟩ => ⟨q, by omega, q3⟩)
              have V' := (mv_tv_VV (B := B) (D := D) (p_hin l) 100 0 N C G.1 hgx hCN hV hPv).1
              have R' := p_VR_tv (B := B) (D := D) (p_hin l) 100 0 N C G.1 hgx hCN H
              exact ⟨_, p_acle (key (p_cl (cl_to (G := (G.1, G.2.1, G.2.2.1, l)) hj5 hV hD hK hCN) (r_done (G := (G.1, G.2.1, G.2.2.1, l)) hj V' hD hI.2.2.2 (by omega) (by omega) (Or.inr ⟨by decide, rfl⟩)))) (Nat.le_succ j), p_GI_ch (G := G) (p_GI_le (Nat.le_succ j) hI) ⟨C + N, B, D, V', R', by omega⟩, Or.inr ⟨rfl, rfl⟩⟩
            · exact ⟨(G.1, G.2.1, G.2.2.1, []), p_acle (key (p_cl (cl_tofu (G := (G.1, G.2.1, G.2.2.1, l)) hj5 hV hD hK hCN) (r_full (G := (G.1, G.2.1, G.2.2.1, l)) hj hV hD h60 (by omega) (by omega) (Or.inr ⟨by decide, by omega⟩)))) (Nat.le_succ j), p_GI_le (Nat.le_succ j) hI, Or.inl ⟨rfl, rfl, rfl⟩⟩
      have st2 := step (g := fun v21 => mv_bd (F_L_look 0) fun v22 => mv_bd (mv_rc 6 7 (some 0)) fun i24 => mv_bd (F_X6_count i24 (16 : Int32)) fun v23 => if z = 0 then mv_bd (mv_rc 6 7 (some 0)) fun i26 => mv_bd (F_X6_count i26 (4 : Int32)) fun v25 => J_L_reads_71 0 z (nI (p_low x w)) v21 v22 v23 v25 else mv_bd (mv_rc 6 7 (some 0)) fun i28 => mv_bd (F_X6_count i28 (2 : Int32)) fun v27 => J_L_reads_71 0 z (nI (p_low x w)) v21 v22 v23 v27) hty tail rfl (Classical.em _)
      obtain ⟨G', a1, a2, a3⟩ := st2
      unfold J_L_reads_28
      exact ⟨G', p_bd (cl_low hw0 (by omega)) a1, a2, a3⟩
    unfold J_L_reads_16
    rcases hz with rfl | rfl
    · rw [if_pos rfl]
      exact body 7 44 (Or.inl ⟨rfl, rfl, rfl⟩)
    · rw [if_neg (by decide)]
      exact body 4 59 (Or.inr ⟨rfl, rfl, rfl⟩)
  have fin : p_A j G (if nI (p_low (x >>> ((19 : Int32) &&& 31)) 2) = 0 then J_L_reads_16 0 x (1 : Int32) else J_L_reads_16 0 x (0 : Int32)) := by
    split
    · exact main 1 (Or.inr rfl)
    · exact main 0 (Or.inl rfl)
  obtain ⟨G', a1, a2, a3⟩ := fin
  exact ⟨G', p_bd hlow a1, a2, a3⟩
end PRD
