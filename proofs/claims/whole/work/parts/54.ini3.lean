theorem mv_RS_bf {h0 : mv_Hp} {r : Nat} (hK : h0.1 = mv_K0) (hr : mv_blk r) (hb : mv_bf h0.2.2.2 r) : mv_RS h0 r := by
  obtain ⟨a1, a2, a3, a4, a5⟩ := hb
  have bi : ∀ b, b < 8 → mv_bi h0 r b = r + 12 + b := fun b h => by unfold mv_bi; rw [a5 b h]; rfl
  have k : mv_K0[r]? = some (5, 12) ∧ mv_K0[r + 1]? = some (8, 7) ∧ mv_K0[r + 2]? = some (8 + 2, 4) ∧ mv_K0[r + 3]? = some (8 + 3, 8) ∧ (∀ c, c < 4 → mv_K0[r + 4 + 2 * c]? = some (1, 6) ∧ mv_K0[r + 5 + 2 * c]? = some (8, 7)) ∧ ∀ b, b < 8 → mv_K0[r + 12 + b]? = some (0, 8) := by
    rcases hr with rfl | rfl | rfl | rfl | rfl | rfl | rfl <;> decide +kernel
  obtain ⟨k0, k1, k2, k3, k4, k5⟩ := k
  unfold mv_RS
  rw [hK]
  refine ⟨k0, k1, k2, k3, a1, a2, a3, fun c hc => ⟨(k4 c hc).1, (k4 c hc).2, (a4 c hc).1, (a4 c hc).2⟩, fun b h => ?_, fun b b' h h' e => ?_⟩
  · rw [bi b h]
    exact ⟨a5 b h, by omega, by omega, k5 b h⟩
  · rw [bi b h, bi b' h'] at e; omega
/-- the constructors lay what the invariant asks -/
theorem mv_ini : mv_Ini mv_Inv := by
  obtain ⟨P, I, K, e6, l6, eK, z6, ⟨p0, p1, p2, p3, p4, p5⟩, p61, p62, p143, p145, b1, b21, b41, i0, i1, i2, i61, i143⟩ := in_x6
  have l7 : (K ++ [(7, 12)]).length = 148 := by rw [List.length_append, l6]; rfl
  have l8 : (K ++ [(7, 12)] ++ [(8, 128)]).length = 149 := by rw [List.length_append, l7]; rfl
  have l9 : (K ++ [(7, 12)] ++ [(8, 128)] ++ [(8, 128)]).length = 150 := by rw [List.length_append, l8]; rfl
  have l10 : (K ++ [(7, 12)] ++ [(8, 128)] ++ [(8, 128)] ++ [(8, 512)]).length = 151 := by rw [List.length_append, l9]; rfl
  have l11 : (K ++ [(7, 12)] ++ [(8, 128)] ++ [(8, 128)] ++ [(8, 512)] ++ [(8, 128)]).length = 152 := by rw [List.length_append, l10]; rfl
  have l12 : (K ++ [(7, 12)] ++ [(8, 128)] ++ [(8, 128)] ++ [(8, 512)] ++ [(8, 128)] ++ [(8, 60)]).length = 153 := by rw [List.length_append, l11]; rfl
  have k7 : (K ++ [(7, 12)])[147]? = some (7, 12) := mv_kl l6
  have z0 := mv_fz_le (M := 148) z6 (by omega)
  have z1 := mv_fz_le (M := 149) (mv_fz_u2 (k := 0) (v := some 148) z0 (show 147 < 148 by omega)) (by omega)
  have z2 := mv_fz_le (M := 150) (mv_fz_u2 (k := 1) (v := some 149) z1 (show 147 < 149 by omega)) (by omega)
  have z3 := mv_fz_le (M := 151) (mv_fz_u2 (k := 2) (v := some 150) z2 (show 147 < 150 by omega)) (by omega)
  have z4 := mv_fz_le (M := 152) (mv_fz_u2 (k := 4) (v := some 151) z3 (show 147 < 151 by omega)) (by omega)
  have z5 := mv_fz_le (M := 153) (mv_fz_u2 (k := 6) (v := some 152) z4 (show 147 < 152 by omega)) (by omega)
  generalize hP : mv_u2 (mv_u2 (mv_u2 (mv_u2 (mv_u2 (mv_u2 P 147 0 (some 148)) 147 1 (some 149)) 147 2 (some 150)) 147 4 (some 151)) 147 6 (some 152)) 147 11 (some 153) = Q
  have q0 : Q 147 0 = some 148 := by rw [← hP, mv_u2_c (by omega), mv_u2_c (by omega), mv_u2_c (by omega), mv_u2_c (by omega), mv_u2_c (by omega), mv_u2_a]
  have q1 : Q 147 1 = some 149 := by rw [← hP, mv_u2_c (by omega), mv_u2_c (by omega), mv_u2_c (by omega), mv_u2_c (by omega), mv_u2_a]
  have q2 : Q 147 2 = some 150 := by rw [← hP, mv_u2_c (by omega), mv_u2_c (by omega), mv_u2_c (by omega), mv_u2_a]
  have q4 : Q 147 4 = some 151 := by rw [← hP, mv_u2_c (by omega), mv_u2_c (by omega), mv_u2_a]
  have q6 : Q 147 6 = some 152 := by rw [← hP, mv_u2_c (by omega), mv_u2_a]
  have q11 : Q 147 11 = some 153 := by rw [← hP, mv_u2_a]
  have qn : ∀ i, i ≠ 147 → Q i = P i := fun i h => by rw [← hP, mv_u2_b h, mv_u2_b h, mv_u2_b h, mv_u2_b h, mv_u2_b h, mv_u2_b h]
  have i148 : I 148 = fun _ => 0 := (z6 148 (by omega)).1
  have i147 : I 147 = fun _ => 0 := (z6 147 (by omega)).1
  have w147 : mv_K0[147]? = some (7, 12) := rfl
  have w148 : mv_K0[148]? = some (8, 128) := rfl
  have e7 : F_X7_init 147 (mv_al 7 12 (mv_hp (mv_hc K 1112 P) I)) = some ((), mv_hp (mv_hc mv_K0 2380 Q) (mv_si I 148 (mv_vu (mv_vu (fun _ => 0) 1 (nI 3)) 2 (nI 1)))) := by
    unfold F_X7_init
    rw [mv_al_hc l6 z6, li128, li512, li60, li300, in_nA l7 z0 (by omega), in_sR (mv_ka k7), in_nA l8 z1 (by omega), in_sR (mv_ka (mv_ka k7)), in_nA l9 z2 (by omega), in_sR (mv_ka (mv_ka (mv_ka k7))), in_nA l10 z3 (by omega), in_sR (mv_ka (mv_ka (mv_ka (mv_ka k7)))), in_nA l11 z4 (by omega), in_sR (mv_ka (mv_ka (mv_ka (mv_ka (mv_ka k7))))), in_nA l12 z5 (by omega), in_sR (mv_ka (mv_ka (mv_ka (mv_ka (mv_ka (mv_ka k7)))))), hP, eK, in_gR w147, q0, li1, li2, li3, in_aS w148 (show 1 < 128 by omega) (by omega), in_gR w147, q0, in_aS w148 (show 2 < 128 by omega) (by omega), mv_si_eq, mv_si_si, i148]
    rfl
  refine ⟨mv_hp (mv_hc K 1112 P) I, mv_hp (mv_hc mv_K0 2380 Q) (mv_si I 148 (mv_vu (mv_vu (fun _ => 0) 1 (nI 3)) 2 (nI 1))), e6, l6, Nat.le_of_ble_eq_true rfl, e7, ?_⟩
  have jn : ∀ i, i ≠ 148 → mv_si I 148 (mv_vu (mv_vu (fun _ => 0) 1 (nI 3)) 2 (nI 1)) i = I i := fun i h => mv_si_ne h
  have jv : mv_si I 148 (mv_vu (mv_vu (fun _ => 0) 1 (nI 3)) 2 (nI 1)) 148 = mv_vu (mv_vu (fun _ => 0) 1 (nI 3)) 2 (nI 1) := mv_si_eq
  generalize hJ : mv_si I 148 (mv_vu (mv_vu (fun _ => 0) 1 (nI 3)) 2 (nI 1)) = J at jn jv
  have v0 : ∀ k, k ≠ 1 → k ≠ 2 → J 148 k = nI 0 := fun k h1 h2 => by rw [jv, mv_vu_ne h2, mv_vu_ne h1]; rfl
  have v1 : J 148 1 = nI 3 := by rw [jv, mv_vu_ne (by omega), mv_vu_eq]
  have v2 : J 148 2 = nI 1 := by rw [jv, mv_vu_eq]
  have sr : ∀ i, i < 4 → mv_sr (mv_hp (mv_hc mv_K0 2380 Q) J) i = 63 + 20 * i := fun i hi => by
    show (Q 62 i).getD 0 = _
    rw [qn 62 (by omega), (p62 i hi).1]; rfl
  have bf : ∀ r, r + 20 ≤ 147 → mv_bf P r → mv_bf Q r := fun r h hb => mv_bf_congr (fun i h1 h2 => qn i (by omega)) hb
  refine ⟨rfl, 0, 0, 0, ?_, ?_, ?_, ?_⟩
  · refine mv_CI_hp (h0 := mv_hp (mv_hc mv_K0 2380 Q) J) ⟨⟨rfl, ⟨rfl, q0, q1, q2, q4, q6, q11⟩, ⟨?_, ?_, ?_, ?_, ?_, ?_⟩, ⟨rfl, rfl, ?_⟩, ⟨rfl, rfl, ?_, fun i hi => ⟨?_, ?_⟩, fun i j hi hj e => ?_⟩, ?_, fun r hr => ?_⟩, ⟨0, 0, 0, Nat.zero_le _, ⟨⟨v0 0 (by omega) (by omega), v0 3 (by omega) (by omega), v0 4 (by omega) (by omega), Nat.zero_le _, Nat.zero_le _, fun w hw => ⟨0, Nat.zero_le _, v0 _ (by omega) (by omega)⟩, fun c hc => absurd hc (Nat.not_lt_zero _), fun b hb => absurd hb (Nat.not_lt_zero _)⟩, fun b hb => absurd hb (Nat.not_lt_zero _)⟩, ⟨⟨?_, ?_, ?_, ?_, ?_, ?_, ?_, ?_, ?_⟩, fun w hw => ?_, fun c hc => absurd hc (Nat.not_lt_zero _), fun b hb => absurd hb (Nat.not_lt_zero _)⟩⟩, ⟨?_, Nat.zero_le _, fun k hk => absurd hk (Nat.not_lt_zero _)⟩, ⟨?_, Or.inl rfl⟩, ⟨?_, Nat.zero_le _, fun k hk => absurd hk (Nat.not_lt_zero _)⟩⟩
    · exact (congrFun (qn 0 (by omega)) 0).trans p0
    · exact (congrFun (qn 0 (by omega)) 1).trans p1
    · exact (congrFun (qn 0 (by omega)) 2).trans p2
    · exact (congrFun (qn 0 (by omega)) 3).trans p3
    · exact (congrFun (qn 0 (by omega)) 4).trans p4
    · exact (congrFun (qn 0 (by omega)) 5).trans p5
    · exact (congrFun (qn 145 (by omega)) 0).trans p145
    · exact (congrFun (qn 61 (by omega)) 0).trans p61
    · rw [sr i hi]; exact (congrFun (qn 62 (by omega)) i).trans (p62 i hi).1
    · rw [sr i hi]; omega
    · rw [sr i hi, sr j hj] at e; omega
    · exact (congrFun (qn 143 (by omega)) 0).trans p143
    · refine mv_RS_bf rfl hr ?_
      show mv_bf Q r
      rcases hr with rfl | rfl | rfl | rfl | rfl | rfl | rfl
      · exact bf 1 (by omega) b1
      · exact bf 21 (by omega) b21
      · exact bf 41 (by omega) b41
      · exact bf 63 (by omega) (p62 0 (by omega)).2
      · exact bf 83 (by omega) (p62 1 (by omega)).2
      · exact bf 103 (by omega) (p62 2 (by omega)).2
      · exact bf 123 (by omega) (p62 3 (by omega)).2
    · show J 1 3 = J 148 3
      rw [jn 1 (by omega), i1, v0 3 (by omega) (by omega)]; rfl
    · show J 1 4 = J 148 4
      rw [jn 1 (by omega), i1, v0 4 (by omega) (by omega)]; rfl
    · show J 1 5 = J 148 0
      rw [jn 1 (by omega), i1, v0 0 (by omega) (by omega)]; rfl
    · show J 1 6 = J 148 1
      rw [jn 1 (by omega), i1, v1]; rfl
    · show J 1 7 = J 148 2
      rw [jn 1 (by omega), i1, v2]; rfl
    · show J 1 8 = J 148 5
      rw [jn 1 (by omega), i1, v0 5 (by omega) (by omega)]; rfl
    · show J 1 9 = J 148 6
      rw [jn 1 (by omega), i1, v0 6 (by omega) (by omega)]; rfl
    · show J 1 10 = J 148 7
      rw [jn 1 (by omega), i1, v0 7 (by omega) (by omega)]; rfl
    · show J 1 11 = J 148 8
      rw [jn 1 (by omega), i1, v0 8 (by omega) (by omega)]; rfl
    · show J 2 w = J 148 (9 + w)
      rw [jn 2 (by omega), i2, v0 (9 + w) (by omega) (by omega)]; rfl
    · show J 61 1 = _
      rw [jn 61 (by omega), i61]; rfl
    · show J 0 6 = _
      rw [jn 0 (by omega), i0]
    · show J 143 1 = _
      rw [jn 143 (by omega), i143]; rfl
  · show J 147 3 = _
    rw [jn 147 (by omega), i147]; rfl
  · show J 147 5 = _
    rw [jn 147 (by omega), i147]
  · show J 147 7 = _
    rw [jn 147 (by omega), i147]; rfl
theorem mv_ag : mv_Ag mv_Inv := ⟨ag_0, ag_1, ag_2, ag_3, ag_4, ag_5, ag_6, ag_7, ag_8, ag_9, ag_10, ag_11, ag_12, ag_13, ag_14, ag_15, ag_16, ag_17, ag_18, ag_19, ag_20, ag_21, ag_22, ag_23, ag_24, ag_25⟩
theorem mv_inv_k (j : Nat) (h : mv_Hp) (hI : mv_Inv j h) : h.1 = mv_K0 ∧ h.2.1 = mv_S0 := by
  obtain ⟨hs, L, M, z, hc, -⟩ := hI
  exact ⟨hc.1.1, hs⟩
theorem mv_inv_s (j : Nat) (h : mv_Hp) (hI : mv_Inv j h) : mv_Inv (j + 1) h := mv_lk0 (h0 := h) (I := h.2.2.1) hI
