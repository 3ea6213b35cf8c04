section PA
variable {j : Nat} {G : p_G} {C B D : Nat}
theorem a_rm {x y : Nat} {β : Type} {g : Int32 → mv_M β} {r : β} {j' : Nat} {G' : p_G} (hx : x < 2 ^ 31) (h0 : 0 < y) (hy : y < 2 ^ 31) (h : p_ac j G (g (nI (x % y))) r j' G') : p_ac j G (mv_bd (mv_rm (nI x) (nI y)) g) r j' G' := by
  intro z hr
  obtain ⟨h', e, r⟩ := h z hr
  exact ⟨h', (ev_rm hx h0 hy).trans e, r⟩
theorem A_t {c : Prop} [Decidable c] {f g : mv_M Int32} (q : c) (h : p_A j G f) : p_A j G (if c then f else g) := by rw [if_pos q]; exact h
theorem A_f {c : Prop} [Decidable c] {f g : mv_M Int32} (q : ¬ c) (h : p_A j G g) : p_A j G (if c then f else g) := by rw [if_neg q]; exact h
theorem A_low {x : Int32} {n : Nat} {g : Int32 → mv_M Int32} (h0 : 0 < n) (hn : n < 2 ^ 31) (h : p_A j G (g (nI (p_low x n)))) : p_A j G (mv_bd (F_L_low x (nI n)) g) := by
  obtain ⟨G', a1, a2, a3⟩ := h
  exact ⟨G', p_bd (cl_low h0 hn) a1, a2, a3⟩
theorem A_cl {α : Type} {f : Nat → mv_M α} {g : α → mv_M Int32} {a : α} (h1 : p_ac j G (f 0) a j G) (h : p_A j G (g a)) : p_A j G (mv_bd (mv_rc 6 7 (some 0)) fun i => mv_bd (f i) g) := by
  obtain ⟨G', a1, a2, a3⟩ := h
  exact ⟨G', p_cl h1 a1, a2, a3⟩
/-- refused: nothing has changed -/
theorem A_no (hI : p_GI j G) {f : mv_M Int32} (h : p_ac j G f 1 j G) : p_A j G f := ⟨G, p_acle h (Nat.le_succ j), p_GI_le (Nat.le_succ j) hI, Or.inl ⟨rfl, rfl, rfl⟩⟩
/-- a change to v' -/
theorem A_ch (hI : p_GI j G) {v' : Nat → Int32} {f : mv_M Int32} (hv : p_IV (j + 1) v') (h : p_ac j G f 1 (j + 1) (p_ch G v')) : p_A j G f := ⟨_, h, p_GI_ch (p_GI_le (Nat.le_succ j) hI) hv, Or.inr ⟨rfl, rfl⟩⟩
theorem A_ch0 (hI : p_GI j G) {v' : Nat → Int32} {f : mv_M Int32} (hv : p_IV j v') (h : p_ac j G f 1 j (p_ch G v')) : p_A j G f := A_ch hI (p_IV_le (Nat.le_succ j) hv) (p_acle h (Nat.le_succ j))
theorem a_150 : p_ac j G (J_L_acts_145 0) 1 j G := by
  unfold J_L_acts_145 J_L_acts_150
  exact p_rz (Or.inr rfl)
theorem a_stall (hj : j < 300) (hI : p_GI j G) (hV : mv_VV G.1 C B D) (H : p_VR G.1 C B D) (hD : D ≤ 30 * j) {w t : Nat} (hw : w < 8) (ht : t < 8) : p_A j G (if nI w = (7 : Int32) then J_L_acts_65 0 (nI D) (nI w) (nI t) else if nI t = (7 : Int32) then J_L_acts_65 0 (nI D) (nI w) (nI t) else J_L_acts_70 0 (nI D) (nI w) (nI t) (0 : Int32)) := by
  have hj5 : j < 500 := by omega
  have bad : (w = 7 ∨ t = 7) → p_A j G (J_L_acts_65 0 (nI D) (nI w) (nI t)) := by
    intro q
    refine A_no hI ?_
    unfold J_L_acts_65 J_L_acts_70
    refine p_cl (cl_stno hj5 hV hD ?_) (p_f (by decide) (p_t rfl ?_))
    · by_cases q1 : w = 7
      · exact Or.inl (Or.inr (by rw [q1]; decide))
      · refine Or.inr ⟨w, by omega, rfl, Or.inr ?_⟩
        rw [show t = 7 by omega]; decide
    · unfold J_L_acts_108
      exact p_f (by decide) a_150
  by_cases q1 : w = 7
  · exact A_t (by rw [q1]; rfl) (bad (Or.inl q1))
  refine A_f (fun z => q1 ((mv_eq (a := w) (b := 7) (by omega) (by omega)).mp z)) ?_
  by_cases q2 : t = 7
  · exact A_t (by rw [q2]; rfl) (bad (Or.inr q2))
  refine A_f (fun z => q2 ((mv_eq (a := t) (b := 7) (by omega) (by omega)).mp z)) ?_
  have V' := mv_VV_w (v := G.1) (w := w) (t := t) (by omega) (by omega) hV
  refine A_ch0 hI (v' := mv_vu G.1 (9 + w) (nI t)) ⟨C, B, D, V', p_VR_st (by omega) H, hD⟩ ?_
  unfold J_L_acts_70
  refine p_cl (cl_st hj5 hV hD (show w < 7 by omega) (show t < 7 by omega)) (p_t rfl ?_)
  obtain ⟨t0, t1, t2⟩ := hV.2.2.2.2.2.1 w (by omega)
  rw [t2]
  refine p_f (nI_pos (by omega)) (p_f (nI_ge (b := 7) (by omega) (by omega)) ?_)
  unfold J_L_acts_108
  refine p_t rfl (a_rm (y := 7) (by omega) (by omega) (by omega) ?_)
  by_cases q3 : nI w = nI (D % 7)
  · have q3' : w = D % 7 := (mv_eq (by omega) (by have := Nat.mod_lt D (show 7 > 0 by omega); omega)).mp q3
    refine p_t q3 (p_cl (cl_ct1 (G := p_ch G (mv_vu G.1 (9 + w) (nI t))) hj5 V' hD) ?_)
    have e : p_st (p_ch G (mv_vu G.1 (9 + w) (nI t))).1 D = if nI t = nI 6 then mv_n4 else nI t := by
      show p_st (mv_vu G.1 (9 + w) (nI t)) D = _
      unfold p_st mv_sw
      rw [← q3', mv_vu_eq]
    rw [e]
    by_cases q4 : nI t = nI 6
    · refine p_t q4 ?_
      unfold J_L_acts_142
      exact p_t (by rw [if_pos q4]; rfl) a_150
    · refine p_f q4 ?_
      unfold J_L_acts_142
      exact p_t (by rw [if_neg q4]) a_150
  · exact p_f q3 a_150
theorem a_ill (hj : j < 300) (hI : p_GI j G) (hV : mv_VV G.1 C B D) (H : p_VR G.1 C B D) (hD : D ≤ 30 * j) {c : Nat} (hc : c ≤ C) {y : Int32} {n : Nat} (h0 : 0 < n) (hn : n ≤ 32) : p_A j G (J_L_acts_188 0 (nI C) (nI D) (nI c) y (nI n)) := by
  have hj5 : j < 500 := by omega
  have hC4 := hV.2.2.2.1
  unfold J_L_acts_188
  refine A_low h0 (by omega) ?_
  have hd := p_low_lt (x := y) h0
  generalize p_low y n = d at hd
  have fin : p_ac j G (J_L_acts_302 0) 1 j G := by
    unfold J_L_acts_302 J_L_acts_307
    exact p_rz (Or.inr rfl)
  have bad : (c = C ∨ d = 31) → p_A j G (J_L_acts_207 0 (nI D) (nI c) (nI d)) := by
    intro q
    refine A_no hI ?_
    have k : ∀ s0, p_ac j G (J_L_acts_230 0 (nI D) (nI c) (nI d) 1 s0) 1 j G := by
      intro s0
      unfold J_L_acts_230
      refine p_cl (cl_ilno hj5 hV hD ?_) (p_f (by decide) ?_)
      · by_cases q1 : c = C
        · exact Or.inl (Or.inr (by rw [q1]; exact nI_le (Nat.le_refl _) (by omega)))
        · refine Or.inr ⟨c, by omega, rfl, Or.inr ?_⟩
          rw [show d = 31 by omega]; exact nI_le (by omega) (by omega)
      · unfold J_L_acts_251
        exact p_t rfl (p_f (by decide) fin)
    unfold J_L_acts_207 J_L_acts_212
    split
    · exact k _
    · exact k _
  by_cases q1 : c = C
  · exact A_t (by rw [q1]) (bad (Or.inl q1))
  refine A_f (fun z => q1 ((mv_eq (by omega) (by omega)).mp z)) ?_
  by_cases q2 : d = 31
  · exact A_t (by rw [q2]; rfl) (bad (Or.inr q2))
  refine A_f (fun z => q2 ((mv_eq (a := d) (b := 31) (by omega) (by omega)).mp z)) ?_
  have hg : (if d = 0 then 0 else D + 1 + d) ≤ D + 31 := by split <;> omega
  have V' : mv_VV (mv_vu G.1 (16 + 12 * c + 9) (nI (if d = 0 then 0 else D + 1 + d))) C B D := mv_VV_of hV (fun k hk => by unfold mv_rel at hk; exact mv_vu_ne (by omega))
  refine A_ch0 hI (v' := mv_vu G.1 (16 + 12 * c + 9) (nI (if d = 0 then 0 else D + 1 + d))) ⟨C, B, D, V', p_VR_il hC4 (by omega) hg H, hD⟩ ?_
  have fin2 : ∀ {G : p_G}, p_ac j G (J_L_acts_302 0) 1 j G := by
    intro G
    unfold J_L_acts_302 J_L_acts_307
    exact p_rz (Or.inr rfl)
  have k230 : ∀ s0 : Int32, s0 = nI (if d = 0 then 0 else D + 1 + d) → p_ac j G (J_L_acts_230 0 (nI D) (nI c) (nI d) 0 s0) 1 j (p_ch G (mv_vu G.1 (16 + 12 * c + 9) (nI (if d = 0 then 0 else D + 1 + d)))) := by
    intro s0 hs
    unfold J_L_acts_230
    refine p_cl (cl_il hj5 hV hD (show c < C by omega) (show d < 31 by omega)) (p_t rfl ?_)
    unfold J_L_acts_251
    refine p_t hs.symm (p_t rfl (p_cl (cl_ca4 (G := p_ch G (mv_vu G.1 (16 + 12 * c + 9) (nI (if d = 0 then 0 else D + 1 + d)))) hj5 V' hD (show c < C by omega)) (p_t ?_ (p_cl (cl_wh (G := p_ch G (mv_vu G.1 (16 + 12 * c + 9) (nI (if d = 0 then 0 else D + 1 + d)))) hj5 V' hD (show c < C by omega) (show D < 10000 by omega)) ?_))))
    · rw [hs]; exact mv_vu_eq
    · have k289 : ∀ x : Int32, (d = 0 → x = 0) → (¬ d = 0 → x = 1) → p_ac j (p_ch G (mv_vu G.1 (16 + 12 * c + 9) (nI (if d = 0 then 0 else D + 1 + d)))) (J_L_acts_289 0 (nI d) x) 1 j (p_ch G (mv_vu G.1 (16 + 12 * c + 9) (nI (if d = 0 then 0 else D + 1 + d)))) := by
        intro x x0 x1
        unfold J_L_acts_289
        by_cases q3 : d = 0
        · refine p_t (by rw [q3]; decide) ?_
          unfold J_L_acts_299
          exact p_t (x0 q3) fin2
        · refine p_f (nI_ge (a := 0) (by omega) (by omega)) ?_
          unfold J_L_acts_299
          exact p_t (x1 q3) fin2
      have e9 : mv_vu G.1 (16 + 12 * c + 9) (nI (if d = 0 then 0 else D + 1 + d)) (16 + 12 * c + 9) = nI (if d = 0 then 0 else D + 1 + d) := mv_vu_eq
      rcases mv_tw_tc V' (show c < C by omega) D with ⟨z1, z2⟩ | ⟨tt, z0, z1, z2⟩
      · refine p_t z2 (k289 1 (fun q3 => ?_) (fun _ => rfl))
        exfalso
        unfold mv_tc at z1
        rw [if_pos (by omega), e9, q3, if_pos (by exact nI_le (Nat.zero_le _) (by omega))] at z1
        unfold mv_tw at z2
        rw [e9, q3, if_pos (by exact nI_le (Nat.zero_le _) (by omega)), z1] at z2
        exact absurd z2 (by decide)
      · refine p_f ?_ (k289 0 (fun _ => rfl) (fun q3 => ?_))
        · show ¬ mv_tw (mv_vu G.1 (16 + 12 * c + 9) (nI (if d = 0 then 0 else D + 1 + d))) c D = _
          rw [z2]; exact mv_n4_ne (by omega)
        · exfalso
          unfold mv_tw at z2
          rw [e9, if_neg q3, if_neg (nI_ge (by omega) (by omega))] at z2
          exact absurd z2.symm (mv_n4_ne (by omega))
  unfold J_L_acts_212
  by_cases q3 : d = 0
  · exact p_t (by rw [q3]; rfl) (k230 _ (by rw [if_pos q3]; rfl))
  · exact p_f (fun z => q3 ((mv_eq0 (by omega)).mp z)) (k230 _ (by rw [if_neg q3, p_i1, nI_add]))
theorem a_rough (hj : j < 300) (hI : p_GI j G) (hV : mv_VV G.1 C B D) (H : p_VR G.1 C B D) (hD : D ≤ 30 * j) {c r : Nat} (hc : c ≤ C) (hr : r < 11) : p_A j G (if nI c = nI C then J_L_acts_348 0 (nI C) (nI c) (nI r) else if nI r = (10 : Int32) then J_L_acts_348 0 (nI C) (nI c) (nI r) else J_L_acts_353 0 (nI C) (nI c) (nI r) (0 : Int32)) := by
  have hj5 : j < 500 := by omega
  have hC4 := hV.2.2.2.1
  have fin : ∀ {G : p_G}, p_ac j G (J_L_acts_426 0) 1 j G := by
    intro G
    unfold J_L_acts_426 J_L_acts_431
    exact p_rz (Or.inr rfl)
  have bad : (c = C ∨ r = 10) → p_A j G (J_L_acts_348 0 (nI C) (nI c) (nI r)) := by
    intro q
    refine A_no hI ?_
    have k : ∀ s0, (¬ c = C → s0 = G.1 (16 + 12 * c + 8)) → p_ac j G (J_L_acts_373 0 (nI C) (nI c) (nI r) 1 s0) 1 j G := by
      intro s0 hs
      unfold J_L_acts_373
      refine p_cl (cl_rono hj5 hV hD ?_) (p_f (by decide) ?_)
      · by_cases q1 : c = C
        · exact Or.inl (Or.inr (by rw [q1]; exact nI_le (Nat.le_refl _) (by omega)))
        · refine Or.inr ⟨c, by omega, rfl, Or.inr ?_⟩
          rw [show r = 10 by omega]; exact nI_le (by omega) (by omega)
      · unfold J_L_acts_394
        refine p_t rfl ?_
        by_cases q1 : c = C
        · exact p_t (by rw [q1]) fin
        · refine p_f (fun z => q1 ((mv_eq (by omega) (by omega)).mp z)) (p_cl (cl_ca1 hj5 hV hD (show c < C by omega)) (p_f (by decide) ?_))
          unfold J_L_acts_423
          exact p_t (hs q1).symm fin
    unfold J_L_acts_348 J_L_acts_353
    by_cases q1 : c = C
    · exact p_t (by rw [q1]) (k _ (fun z => absurd q1 z))
    · exact p_f (fun z => q1 ((mv_eq (by omega) (by omega)).mp z)) (p_cl (cl_ca1 hj5 hV hD (show c < C by omega)) (k _ (fun _ => rfl)))
  by_cases q1 : c = C
  · exact A_t (by rw [q1]) (bad (Or.inl q1))
  refine A_f (fun z => q1 ((mv_eq (by omega) (by omega)).mp z)) ?_
  by_cases q2 : r = 10
  · exact A_t (by rw [q2]; rfl) (bad (Or.inr q2))
  refine A_f (fun z => q2 ((mv_eq (a := r) (b := 10) (by omega) (by omega)).mp z)) ?_
  have V' : mv_VV (mv_vu G.1 (16 + 12 * c + 8) (nI r)) C B D := mv_VV_of hV (fun k hk => by unfold mv_rel at hk; exact mv_vu_ne (by omega))
  refine A_ch0 hI (v' := mv_vu G.1 (16 + 12 * c + 8) (nI r)) ⟨C, B, D, V', p_VR_ro hC4 (by omega) (by omega) H, hD⟩ ?_
  unfold J_L_acts_353
  refine p_f (fun z => q1 ((mv_eq (by omega) (by omega)).mp z)) (p_cl (cl_ca1 hj5 hV hD (show c < C by omega)) ?_)
  unfold J_L_acts_373
  refine p_cl (cl_ro hj5 hV hD (show c < C by omega) (show r < 10 by omega)) (p_t rfl ?_)
  unfold J_L_acts_394
  refine p_t rfl (p_f (fun z => q1 ((mv_eq (by omega) (by omega)).mp z)) (p_cl (cl_ca1 (G := p_ch G (mv_vu G.1 (16 + 12 * c + 8) (nI r))) hj5 V' hD (show c < C by omega)) (p_t rfl ?_)))
  unfold J_L_acts_423
  exact p_t mv_vu_eq fin
theorem a_load (hj : j < 300) (hI : p_GI j G) (hV : mv_VV G.1 C B D) (H : p_VR G.1 C B D) (hD : D ≤ 30 * j) {d : Nat} (hd : d < 10) : p_A j G (if nI d = 0 then J_L_acts_458 0 (nI d) else if nI d = (9 : Int32) then J_L_acts_458 0 (nI d) else J_L_acts_463 0 (nI d) (0 : Int32)) := by
  have hj5 : j < 500 := by omega
  have fin : ∀ {G : p_G} (x : Int32), p_ac j G (J_L_acts_511 0 x x) 1 j G := by
    intro G x
    unfold J_L_acts_511
    refine p_t rfl ?_
    unfold J_L_acts_519
    exact p_rz (Or.inr rfl)
  have bad : (d = 0 ∨ d = 9) → p_A j G (J_L_acts_458 0 (nI d)) := by
    intro q
    refine A_no hI ?_
    unfold J_L_acts_458 J_L_acts_463
    refine p_cl (cl_ct13 hj5 hV hD) (p_cl (cl_lono hj5 hV hD ?_) (p_f (by decide) ?_))
    · rcases q with rfl | rfl
      · exact Or.inl (by decide)
      · exact Or.inr ⟨by decide, by decide⟩
    · unfold J_L_acts_490
      exact p_t rfl (p_cl (cl_ct13 hj5 hV hD) (p_f (by decide) (fin _)))
  by_cases q1 : d = 0
  · exact A_t (by rw [q1]; rfl) (bad (Or.inl q1))
  refine A_f (fun z => q1 ((mv_eq0 (by omega)).mp z)) ?_
  by_cases q2 : d = 9
  · exact A_t (by rw [q2]; rfl) (bad (Or.inr q2))
  refine A_f (fun z => q2 ((mv_eq (a := d) (b := 9) (by omega) (by omega)).mp z)) ?_
  have V' : mv_VV (mv_vu G.1 1 (nI d)) C B D := mv_VV_of hV (fun k hk => by unfold mv_rel at hk; exact mv_vu_ne (by omega))
  refine A_ch0 hI (v' := mv_vu G.1 1 (nI d)) ⟨C, B, D, V', p_VR_lo (by omega) (by omega) H, hD⟩ ?_
  unfold J_L_acts_463
  refine p_cl (cl_ct13 hj5 hV hD) (p_cl (cl_lo hj5 hV hD (show 1 ≤ d by omega) (show d ≤ 8 by omega)) (p_t rfl ?_))
  unfold J_L_acts_490
  refine p_t rfl (p_cl (cl_ct13 (G := p_ch G (mv_vu G.1 1 (nI d))) hj5 V' hD) (p_t rfl ?_))
  have e : (p_ch G (mv_vu G.1 1 (nI d))).1 1 = nI d := by
    show mv_vu G.1 1 (nI d) 1 = nI d
    exact mv_vu_eq
  rw [e]
  exact fin _
theorem a_post (hj : j < 300) (hI : p_GI j G) (hV : mv_VV G.1 C B D) (H : p_VR G.1 C B D) (hD : D ≤ 30 * j) {f n : Nat} {y : Int32} (hf : f < 7) (h0 : 0 < n) (hn : n ≤ 7) : p_A j G (J_L_acts_573 0 (nI B) (nI D) (nI f) y (nI n)) := by
  have hj5 : j < 500 := by omega
  have hC4 := hV.2.2.2.1
  have hB8 := hV.2.2.2.2.1
  have e4 := hV.2.2.1
  unfold J_L_acts_573
  refine A_low h0 (by omega) ?_
  have ht := p_low_lt (x := y) h0
  generalize p_low y n = t at ht
  have fin : ∀ {G : p_G}, p_ac j G (J_L_acts_773 0) 1 j G := by
    intro G
    unfold J_L_acts_773 J_L_acts_778
    exact p_rz (Or.inr rfl)
  have bad : (f = 6 ∨ t = 6 ∨ f = t) → p_A j G (J_L_acts_599 0 (nI B) (nI D) (nI f) (nI t)) := by
    intro q
    refine A_no hI ?_
    unfold J_L_acts_599 J_L_acts_604
    refine p_f (by decide) ?_
    unfold J_L_acts_624
    refine p_cl (cl_pono hj5 hV hD ?_) (p_f (by decide) ?_)
    · rcases q with rfl | rfl | rfl
      · exact Or.inl (Or.inr (nI_le (Nat.le_refl _) (by omega)))
      · exact Or.inr (Or.inl (Or.inr (nI_le (Nat.le_refl _) (by omega))))
      · exact Or.inr (Or.inr rfl)
    · unfold J_L_acts_661
      refine p_t rfl (p_cl (cl_ct4 hj5 hV hD) (p_f (by decide) ?_))
      rw [e4]
      unfold J_L_acts_683 J_L_acts_688
      exact p_t (Int32.add_zero _).symm (p_f (by decide) fin)
  by_cases q1 : f = 6
  · exact A_t (by rw [q1]; rfl) (bad (Or.inl q1))
  refine A_f (fun z => q1 ((mv_eq (a := f) (b := 6) (by omega) (by omega)).mp z)) ?_
  by_cases q2 : t = 6
  · exact A_t (by rw [q2]; rfl) (bad (Or.inr (Or.inl q2)))
  refine A_f (fun z => q2 ((mv_eq (a := t) (b := 6) (by omega) (by omega)).mp z)) ?_
  by_cases q3 : f = t
  · exact A_t (by rw [q3]) (bad (Or.inr (Or.inr q3)))
  refine A_f (fun z => q3 ((mv_eq (by omega) (by omega)).mp z)) ?_
  have hip := cl_ip (n := 0) hj5 hV hD (show f < 6 by omega) (show t < 6 by omega) q3 (by omega)
  by_cases q4 : B = 8
  · subst q4
    refine A_no hI ?_
    unfold J_L_acts_604
    refine p_t rfl (p_cl hip ?_)
    unfold J_L_acts_624
    refine p_cl (cl_po8 hj5 hV hD (show f < 6 by omega) (show t < 6 by omega) q3) (p_t rfl (p_t rfl ?_))
    unfold J_L_acts_661
    refine p_t rfl (p_cl (cl_ct4 hj5 hV hD) (p_t rfl (p_t rfl ?_)))
    rw [e4]
    unfold J_L_acts_683 J_L_acts_688
    exact p_t (Int32.add_zero _).symm (p_t rfl (p_t rfl fin))
  · have n8 : ¬ nI B = (8 : Int32) := fun z => q4 ((mv_eq (a := B) (b := 8) (by omega) (by omega)).mp z)
    have V' := mv_VV_pw (f := f) (t := t) (p := mv_pp G.1 C D f t) hV (show B < 8 by omega) (show f ≤ 5 by omega) (show t ≤ 5 by omega)
    have R' := p_VR_po hV (show B < 8 by omega) (by omega) (show f < 6 by omega) (show t < 6 by omega) q3 H
    refine A_ch0 hI (v' := mv_pw G.1 B D f t (mv_pp G.1 C D f t)) ⟨C, B + 1, D, V', R', hD⟩ ?_
    unfold J_L_acts_604
    refine p_t rfl (p_cl hip ?_)
    unfold J_L_acts_624
    refine p_cl (cl_po hj5 hV hD (show f < 6 by omega) (show t < 6 by omega) q3 (by omega)) (p_t rfl (p_f n8 ?_))
    unfold J_L_acts_661
    refine p_t rfl (p_cl (cl_ct4 (G := p_ch G (mv_pw G.1 B D f t (mv_pp G.1 C D f t))) hj5 V' hD) (p_t rfl (p_f n8 ?_)))
    have e4' : (p_ch G (mv_pw G.1 B D f t (mv_pp G.1 C D f t))).1 4 = nI (B + 1) := V'.2.2.1
    rw [e4']
    unfold J_L_acts_688
    have hbB : B < B + 1 := Nat.lt_succ_self B
    have g : ∀ i x, (i = 0 ∧ x = nI t) ∨ (i = 1 ∧ x = nI (f + 1)) ∨ (i = 4 ∧ x = mv_pp G.1 C D f t) ∨ (i = 5 ∧ x = nI 0) ∨ (i = 6 ∧ x = nI 0) ∨ (i = 7 ∧ x = nI D) → (p_ch G (mv_pw G.1 B D f t (mv_pp G.1 C D f t))).1 (64 + 8 * B + i) = x := by
      intro i x h
      show mv_pw G.1 B D f t (mv_pp G.1 C D f t) (64 + 8 * B + i) = x
      generalize mv_pp G.1 C D f t = p at h ⊢
      rcases h with ⟨rfl, rfl⟩ | ⟨rfl, rfl⟩ | ⟨rfl, rfl⟩ | ⟨rfl, rfl⟩ | ⟨rfl, rfl⟩ | ⟨rfl, rfl⟩ <;> (unfold mv_pw; simp (disch := omega) only [mv_vu_ne, mv_vu_eq])
    refine p_t (p_i1 B).symm (p_t rfl (p_f n8 (p_cl (cl_bu0 (G := p_ch G (mv_pw G.1 B D f t (mv_pp G.1 C D f t))) hj5 V' hD hbB) (p_t (g 0 _ (by simp)) (p_cl (cl_bu1 (G := p_ch G (mv_pw G.1 B D f t (mv_pp G.1 C D f t))) hj5 V' hD hbB) (p_t ?_ (p_cl (cl_bu4 (G := p_ch G (mv_pw G.1 B D f t (mv_pp G.1 C D f t))) hj5 V' hD hbB) (p_t (g 4 _ (by simp)) (p_cl (cl_bu8 (G := p_ch G (mv_pw G.1 B D f t (mv_pp G.1 C D f t))) hj5 V' hD hbB) (p_t (g 7 _ (by simp)) (p_cl (cl_bu6 (G := p_ch G (mv_pw G.1 B D f t (mv_pp G.1 C D f t))) hj5 V' hD hbB) (p_cl (cl_bu7 (G := p_ch G (mv_pw G.1 B D f t (mv_pp G.1 C D f t))) hj5 V' hD hbB) (p_t ?_ fin)))))))))))))
    · rw [g 1 (nI (f + 1)) (by simp)]; exact mv_dns (by omega)
    · rw [g 5 (nI 0) (by simp), g 6 (nI 0) (by simp)]; rfl
theorem a_forget (hj : j < 300) (hI : p_GI j G) (hV : mv_VV G.1 C B D) (H : p_VR G.1 C B D) (hD : D ≤ 30 * j) {b : Nat} (hb : b ≤ B) : p_A j G (mv_bd (mv_rc 6 7 (some 0)) fun i79 => mv_bd (F_X6_count i79 (11 : Int32)) fun v78 => mv_bd (mv_rc 6 7 (some 0)) fun i81 => mv_bd (F_X6_forget i81 (nI b)) fun v80 => if nI b = nI B then J_L_acts_824 0 (nI B) (nI b) v78 v80 ((-1) : Int32) else J_L_acts_824 0 (nI B) (nI b) v78 v80 (nI B - (1 : Int32))) := by
  have hj5 : j < 500 := by omega
  have hB8 := hV.2.2.2.2.1
  have e4 := hV.2.2.1
  have fin : ∀ {G : p_G} (x y z : Int32), x = y - z → p_ac j G (J_L_acts_870 0 x y z) 1 j G := by
    intro G x y z h
    unfold J_L_acts_870
    refine p_t h ?_
    unfold J_L_acts_879
    exact p_rz (Or.inr rfl)
  refine A_cl (cl_ct11 hj5 hV hD) ?_
  by_cases q1 : b = B
  · subst q1
    refine A_no hI ?_
    refine p_cl (cl_fono hj5 hV hD) (p_t rfl ?_)
    unfold J_L_acts_824
    refine p_t rfl (p_cl (cl_ct11 hj5 hV hD) (p_t rfl ?_))
    unfold J_L_acts_847
    refine p_t (Int32.add_zero _).symm (p_cl (cl_ct4 hj5 hV hD) (p_t rfl ?_))
    rw [e4]
    exact fin _ _ _ (Int32.sub_zero _).symm
  · have V' := mv_VV_rv hV (show b < B by omega)
    have ne : ¬ nI b = nI B := fun z => q1 ((mv_eq (by omega) (by omega)).mp z)
    have eB : nI B - (1 : Int32) = nI (B - 1) := by rw [li1, pk_sub (by omega)]
    refine A_ch0 hI (v' := mv_rv G.1 b B) ⟨C, B - 1, D, V', p_VR_fo hV (show b < B by omega) H, hD⟩ ?_
    refine p_cl (cl_fo hj5 hV hD (show b < B by omega)) (p_f ne ?_)
    unfold J_L_acts_824
    refine p_t eB.symm (p_cl (cl_ct11 (G := p_ch G (mv_rv G.1 b B)) hj5 V' hD) (p_f ne ?_))
    have e7 : (p_ch G (mv_rv G.1 b B)).1 7 = G.1 7 + (1 : Int32) := by
      show mv_rv G.1 b B 7 = _
      unfold mv_rv
      rw [if_neg (by omega), if_neg (by omega), if_pos rfl]; rfl
    unfold J_L_acts_847
    refine p_t e7 (p_cl (cl_ct4 (G := p_ch G (mv_rv G.1 b B)) hj5 V' hD) (p_f ne ?_))
    have e4' : (p_ch G (mv_rv G.1 b B)).1 4 = nI (B - 1) := V'.2.2.1
    rw [e4']
    exact fin _ _ _ eB.symm
theorem a_pass (hj : j < 300) (hI : p_GI j G) (hV : mv_VV G.1 C B D) (H : p_VR G.1 C B D) (hD : D ≤ 30 * j) {y : Int32} {n : Nat} (h0 : 0 < n) (hn : n ≤ 32) : p_A j G (J_L_acts_904 0 (nI D) y (nI n)) := by
  have hj5 : j < 500 := by omega
  have e0 := hV.1
  unfold J_L_acts_904
  refine A_low h0 (by omega) ?_
  have hd := p_low_lt (x := y) h0
  generalize p_low y n = N at hd
  have fin : ∀ {j' : Nat} {G : p_G}, p_ac j' G (J_L_acts_1055 0 1) 1 j' G := by
    intro j' G
    unfold J_L_acts_1055
    exact p_rz (Or.inr rfl)
  have bad : (N = 0 ∨ N = 31) → p_A j G (J_L_acts_921 0 (nI D) (nI N)) := by
    intro q
    refine A_no hI ?_
    unfold J_L_acts_921 J_L_acts_926
    refine p_f (by decide) ?_
    unfold J_L_acts_944
    refine p_cl (cl_ct12 hj5 hV hD) (p_f (by decide) ?_)
    unfold J_L_acts_968
    refine p_let (p_cl (cl_ct7 hj5 hV hD) (p_cl (cl_pano hj5 hV hD ?_) (p_f (by decide) ?_)))
    · rcases q with rfl | rfl
      · exact Or.inl (by decide)
      · exact Or.inr ⟨by decide, by decide⟩
    · unfold J_L_acts_1000
      refine p_t rfl (p_cl (cl_ct0 hj5 hV hD) (p_f (by decide) ?_))
      rw [e0]
      unfold J_L_acts_1021
      exact p_t (Int32.add_zero _).symm (p_cl (cl_ct12 hj5 hV hD) (p_t (Int32.add_zero _).symm (p_cl (cl_ct7 hj5 hV hD) (p_t (Int32.add_zero _).symm fin))))
  by_cases q1 : N = 0
  · exact A_t (by rw [q1]; rfl) (bad (Or.inl q1))
  refine A_f (fun z => q1 ((mv_eq0 (by omega)).mp z)) ?_
  by_cases q2 : N = 31
  · exact A_t (by rw [q2]; rfl) (bad (Or.inr q2))
  refine A_f (fun z => q2 ((mv_eq (a := N) (b := 31) (by omega) (by omega)).mp z)) ?_
  have V' : mv_VV (mv_ps C B D N G.1).2.2 C B (D + N) := mv_VV_ps N 0 (D, 0, G.1) hV
  obtain ⟨R', p1, p2, p3⟩ := p_VR_ps (N := N) hV (by omega) H
  refine A_ch hI (v' := (mv_ps C B D N G.1).2.2) ⟨C, B, D + N, V', R', by omega⟩ ?_
  have hD' : D + N ≤ 30 * (j + 1) := by omega
  have hj6 : j + 1 < 500 := by omega
  unfold J_L_acts_926
  refine p_t rfl (p_cl (cl_if (q := 0) hj5 hV hD (show 1 ≤ N by omega) (show N ≤ 30 by omega) (by omega)) ?_)
  unfold J_L_acts_944
  refine p_cl (cl_ct12 hj5 hV hD) (p_t rfl (p_cl (cl_if (q := 1) hj5 hV hD (show 1 ≤ N by omega) (show N ≤ 30 by omega) (by omega)) ?_))
  have f0 : p_if G.1 C B D N 0 = nI (mv_ps C B D N G.1).2.1 := if_pos rfl
  have f1 : p_if G.1 C B D N 1 = (mv_ps C B D N G.1).2.2 8 - G.1 8 := by
    unfold p_if
    rw [if_neg (by omega), if_pos rfl]
  rw [f0, f1]
  unfold J_L_acts_968
  refine p_let (p_cl (cl_ct7 hj5 hV hD) (p_cl (cl_pa hj5 hV hD (show 1 ≤ N by omega) (show N ≤ 30 by omega)) (p_t rfl ?_)))
  unfold J_L_acts_1000
  refine p_t rfl (p_cl (cl_ct0 (G := p_ch G (mv_ps C B D N G.1).2.2) hj6 V' hD') (p_t rfl ?_))
  have e0' : (p_ch G (mv_ps C B D N G.1).2.2).1 0 = nI (D + N) := V'.1
  rw [e0']
  unfold J_L_acts_1021
  refine p_t (nI_add _ _).symm (p_cl (cl_ct12 (G := p_ch G (mv_ps C B D N G.1).2.2) hj6 V' hD') (p_t ?_ (p_cl (cl_ct7 (G := p_ch G (mv_ps C B D N G.1).2.2) hj6 V' hD') (p_t ?_ fin))))
  · show (mv_ps C B D N G.1).2.2 8 = G.1 8 + ((mv_ps C B D N G.1).2.2 8 - G.1 8)
    rw [Int32.add_comm, Int32.sub_add_cancel]
  · show mv_bb (mv_ps C B D N G.1).2.2 B 3 = mv_bb G.1 B 3 + nI (mv_ps C B D N G.1).2.1
    rw [p_bbV hV (by omega) (Or.inr (Or.inr (Or.inl rfl))), p_bbV V' (by omega) (Or.inr (Or.inr (Or.inl rfl))), nI_add]
    congr 1
/-- acts answers true -/
theorem cl_ac (hj : j < 300) (hI : p_GI j G) (x y : Int32) : p_A j G (F_L_acts 0 x y) := by
  have hj5 : j < 500 := by omega
  obtain ⟨C, B, D, hV, H, hD⟩ := hI.1
  have hC4 := hV.2.2.2.1
  have hB8 := hV.2.2.2.2.1
  have e0 := hV.1
  have e3 := hV.2.1
  have e4 := hV.2.2.1
  unfold F_L_acts
  refine A_low (n := 30) (by omega) (by omega) ?_
  have hh := p_low_lt (x := x) (show 0 < 30 by omega)
  generalize p_low x 30 = h at hh
  refine A_cl (cl_ct2 hj5 hV hD) (A_cl (cl_ct4 hj5 hV hD) (A_cl (cl_ct0 hj5 hV hD) ?_))
  rw [e3, e4, e0]
  by_cases h5 : 5 ≤ h
  · refine A_t (nI_le (a := 5) h5 (by omega)) ?_
    by_cases h7 : 7 ≤ h
    · refine A_t (nI_le (a := 7) h7 (by omega)) ?_
      by_cases e7 : h = 7
      · refine A_t (by rw [e7]; rfl) ?_
        rw [p_i1]
        refine A_low (by omega) (by omega) (A_low (n := 11) (by omega) (by omega) ?_)
        have hc := p_low_lt (x := y) (show 0 < C + 1 by omega)
        exact a_rough hj hI hV H hD (by omega) (p_low_lt (by omega))
      refine A_f (fun z => e7 ((mv_eq (a := h) (b := 7) (by omega) (by omega)).mp z)) ?_
      by_cases e8 : h = 8
      · refine A_t (by rw [e8]; rfl) (A_low (n := 10) (by omega) (by omega) ?_)
        exact a_load hj hI hV H hD (p_low_lt (by omega))
      refine A_f (fun z => e8 ((mv_eq (a := h) (b := 8) (by omega) (by omega)).mp z)) ?_
      by_cases h16 : 16 ≤ h
      · refine A_t (nI_le (a := 16) h16 (by omega)) ?_
        by_cases h18 : 18 ≤ h
        · refine A_t (nI_le (a := 18) h18 (by omega)) ?_
          by_cases h25 : 25 ≤ h
          · refine A_t (nI_le (a := 25) h25 (by omega)) ?_
            obtain ⟨G', a1, a2, a3⟩ := cl_rd hj hI y
            exact ⟨G', p_bd a1 (p_rz (Or.inr rfl)), a2, a3⟩
          · refine A_f (nI_ge (b := 25) (by omega) (by omega)) (A_low (n := 5) (by omega) (by omega) ?_)
            split
            · exact a_pass (n := 32) hj hI hV H hD (by omega) (by omega)
            · exact a_pass (n := 5) hj hI hV H hD (by omega) (by omega)
        · refine A_f (nI_ge (b := 18) (by omega) (by omega)) ?_
          rw [p_i1]
          refine A_low (by omega) (by omega) ?_
          have hb := p_low_lt (x := y) (show 0 < B + 1 by omega)
          exact a_forget hj hI hV H hD (by omega)
      · refine A_f (nI_ge (b := 16) (by omega) (by omega)) (A_low (n := 6) (by omega) (by omega) ?_)
        have k : ∀ n : Nat, 0 < n → n ≤ 7 → p_A j G (J_L_acts_546 0 y (nI B) (nI D) y (nI n)) := by
          intro n n0 n7
          unfold J_L_acts_546
          refine A_low n0 (by omega) (A_low (n := 6) (by omega) (by omega) ?_)
          have hf := p_low_lt (x := y) n0
          split
          · exact a_post (n := 7) hj hI hV H hD (by omega) (by omega) (by omega)
          · exact a_post (n := 6) hj hI hV H hD (by omega) (by omega) (by omega)
        split
        · exact k 7 (by omega) (by omega)
        · exact k 6 (by omega) (by omega)
    · refine A_f (nI_ge (b := 7) (by omega) (by omega)) ?_
      rw [p_i1]
      refine A_low (by omega) (by omega) (A_low (n := 3) (by omega) (by omega) ?_)
      have hc := p_low_lt (x := y) (show 0 < C + 1 by omega)
      split
      · exact a_ill (n := 32) hj hI hV H hD (by omega) (by omega) (by omega)
      · exact a_ill (n := 7) hj hI hV H hD (by omega) (by omega) (by omega)
  · refine A_f (nI_ge (b := 5) (by omega) (by omega)) (A_low (n := 8) (by omega) (by omega) (A_low (n := 8) (by omega) (by omega) ?_))
    exact a_stall hj hI hV H hD (p_low_lt (by omega)) (p_low_lt (by omega))
end PA
