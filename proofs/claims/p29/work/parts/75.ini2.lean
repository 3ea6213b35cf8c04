def mv_kh : Nat → List (Nat × Nat)
  | 0 => []
  | i + 1 => mv_kh i ++ [(5, 12)] ++ mv_RK
theorem mv_RK_len : mv_RK.length = 19 := rfl
theorem mv_kh_len : ∀ c, (mv_kh c).length = 20 * c
  | 0 => rfl
  | c + 1 => by rw [mv_kh, List.length_append, List.length_append, mv_kh_len c, mv_RK_len]; simp; omega
theorem in_hist {K : List (Nat × Nat)} {S : Nat} {P : Nat → Nat → Option Nat} {I : Nat → Nat → Int32} (hK : K.length = 62) (h61 : K[61]? = some (3, 2)) (hz : mv_fz I P 62) : ∃ P' I', F_X3_init 61 (mv_hp (mv_hc K S P) I) = some ((), mv_hp (mv_hc (K ++ [(9, 4)] ++ mv_kh 4) (S + 592) P') I') ∧ P' 61 0 = some 62 ∧ (∀ i, i < 4 → P' 62 i = some (63 + 20 * i) ∧ mv_bf P' (63 + 20 * i)) ∧ mv_fz I' P' 143 ∧ (∀ i, i < 61 → P' i = P i) ∧ ∀ i, i < 63 → I' i = I i := by
  have l1 : (K ++ [(9, 4)]).length = 63 := by simp [hK]
  have k61 : (K ++ [(9, 4)])[61]? = some (3, 2) := mv_ka h61
  have k62 : (K ++ [(9, 4)])[62]? = some (8 + 1, 4) := mv_kl hK
  have z1 := mv_fz_u2 (k := 0) (v := some 62) hz (show 61 < 62 by omega)
  generalize hK1 : K ++ [(9, 4)] = K1 at l1 k61 k62
  obtain ⟨n, ⟨Q, J⟩, e1, q1, q2, q3, q4, q5⟩ := mv_lp (L := fun n i (s : (Nat → Nat → Option Nat) × (Nat → Nat → Int32)) => Lp_X3_init_14 61 n (nI i) (mv_hp (mv_hc (K1 ++ mv_kh i) (S + 4 + 147 * i) s.1) s.2)) (fun i s => mv_fz s.2 s.1 (63 + 20 * i) ∧ s.1 61 0 = some 62 ∧ (∀ i', i' < i → s.1 62 i' = some (63 + 20 * i') ∧ mv_bf s.1 (63 + 20 * i')) ∧ (∀ a, a < 61 → s.1 a = P a) ∧ ∀ a, a < 63 → s.2 a = I a) 4 (by omega)
    (fun n i s hi hP => by
      obtain ⟨Q, J⟩ := s
      obtain ⟨p1, p2, p3, p4, p5⟩ := hP
      dsimp only at p1 p2 p3 p4 p5
      have ll : (K1 ++ mv_kh i).length = 63 + 20 * i := by rw [List.length_append, l1, mv_kh_len]
      have kn : (K1 ++ mv_kh i ++ [(5, 12)])[63 + 20 * i]? = some (5, 12) := mv_kl ll
      have ll2 : (K1 ++ mv_kh i ++ [(5, 12)]).length = 63 + 20 * i + 1 := by rw [List.length_append, ll]; rfl
      have eK : K1 ++ mv_kh (i + 1) = K1 ++ mv_kh i ++ [(5, 12)] ++ mv_RK := by rw [mv_kh]; simp
      obtain ⟨P', e, b1, b2, b3⟩ := in_roads (S := S + 4 + 147 * i + 12) ll2 kn p1
      dsimp only
      rw [Lp_X3_init_14, in_gR (mv_ka k61), p2, in_aL (mv_ka k62) (by decide), ev_f (nI_ge hi (by omega)), in_gR (mv_ka k61), p2, in_nw ll p1, in_rc kn, ev_bd e, in_aT (mv_ka (mv_ka (mv_ka k62))) (mv_ka kn) (show i < 4 by omega) (by omega), li1, nI_add, ← eK, show S + 4 + 147 * i + 12 + 135 = S + 4 + 147 * (i + 1) by omega]
      refine ⟨(mv_u2 P' 62 i (some (63 + 20 * i)), mv_ri J (63 + 20 * i)), rfl, ?_, ?_, fun i' hi' => ?_, fun a ha => ?_, fun a ha => ?_⟩
      · exact mv_fz_u2 (mv_fz_le b2 (by omega)) (by omega)
      · show mv_u2 P' 62 i (some (63 + 20 * i)) 61 0 = _
        rw [mv_u2_b (by omega), b3 61 (by omega)]; exact p2
      · show mv_u2 P' 62 i (some (63 + 20 * i)) 62 i' = _ ∧ mv_bf (mv_u2 P' 62 i (some (63 + 20 * i))) _
        by_cases e : i' = i
        · subst e
          exact ⟨mv_u2_a, mv_bf_congr (fun a h1 h2 => mv_u2_b (by omega)) b1⟩
        · obtain ⟨w1, w2⟩ := p3 i' (by omega)
          exact ⟨by rw [mv_u2_c e, b3 62 (by omega)]; exact w1, mv_bf_congr (fun a h1 h2 => by rw [mv_u2_b (by omega), b3 a (by omega)]) w2⟩
      · show mv_u2 P' 62 i (some (63 + 20 * i)) a = _
        rw [mv_u2_b (by omega), b3 a (by omega)]; exact p4 a ha
      · show mv_ri J (63 + 20 * i) a = _
        unfold mv_ri
        rw [mv_si_ne (by omega)]; exact p5 a ha)
    (mv_u2 P 61 0 (some 62), I) ⟨mv_fz_le z1 (by omega), show mv_u2 P 61 0 (some 62) 61 0 = some 62 from mv_u2_a, fun i' hi' => absurd hi' (Nat.not_lt_zero _), fun a ha => show mv_u2 P 61 0 (some 62) a = P a from mv_u2_b (by omega), fun _ _ => rfl⟩
  dsimp only at e1 q1 q2 q3 q4 q5
  have e1' : Lp_X3_init_14 61 mv_FU (nI 0) (mv_hp (mv_hc K1 (S + 4) (mv_u2 P 61 0 (some 62))) I) = Lp_X3_init_14 61 (n + 1) (nI 4) (mv_hp (mv_hc (K1 ++ mv_kh 4) (S + 4 + 147 * 4) Q) J) := by
    rw [← e1]
    show _ = Lp_X3_init_14 61 mv_FU (nI 0) (mv_hp (mv_hc (K1 ++ []) (S + 4 + 147 * 0) (mv_u2 P 61 0 (some 62))) I)
    rw [List.append_nil]
  refine ⟨Q, J, ?_, q2, q3, q1, q4, q5⟩
  unfold F_X3_init
  rw [li4, in_nA hK hz (by omega), in_sR (mv_ka h61), hK1, li0, e1', Lp_X3_init_14, in_gR (mv_ka k61), q2, in_aL (mv_ka k62) (by decide), ev_t (nI_le (Nat.le_refl _) (by omega))]
  rfl
theorem mv_al_hc {K : List (Nat × Nat)} {S c n N : Nat} {P : Nat → Nat → Option Nat} {I : Nat → Nat → Int32} (hN : K.length = N) (hz : mv_fz I P N) : mv_al c n (mv_hp (mv_hc K S P) I) = mv_hp (mv_hc (K ++ [(c, n)]) (S + n) P) I := by
  have e := in_nw (β := Option Nat) (c := c) (n := n) (S := S) (g := mv_pu) hN hz
  have e2 : mv_bd (mv_nw c n) mv_pu (mv_hp (mv_hc K S P) I) = some (some K.length, mv_al c n (mv_hp (mv_hc K S P) I)) := rfl
  rw [e2] at e
  have := Option.some.inj e
  exact (Prod.mk.inj this).2
/-- the class's constructor -/
theorem in_x6 : ∃ P I K, F_X6_init 0 (mv_al 6 7 mv_h0) = some ((), mv_hp (mv_hc K 1112 P) I) ∧ K.length = 147 ∧ K = mv_K0 ∧ mv_fz I P 147 ∧ (P 0 0 = some 1 ∧ P 0 1 = some 21 ∧ P 0 2 = some 41 ∧ P 0 3 = some 61 ∧ P 0 4 = some 143 ∧ P 0 5 = some 145) ∧ P 61 0 = some 62 ∧ (∀ i, i < 4 → P 62 i = some (63 + 20 * i) ∧ mv_bf P (63 + 20 * i)) ∧ P 143 0 = some 144 ∧ P 145 0 = some 146 ∧ mv_bf P 1 ∧ mv_bf P 21 ∧ mv_bf P 41 ∧ I 0 = (fun _ => 0) ∧ I 1 = mv_vu (mv_vu (fun _ => 0) 6 (nI 3)) 7 (nI 1) ∧ I 2 = (fun _ => 0) ∧ I 61 = (fun _ => 0) ∧ I 143 = (fun _ => 0) := by
  have z0 : mv_fz (fun _ _ => (0 : Int32)) (fun _ _ => none) 0 := fun _ _ => ⟨rfl, rfl⟩
  have s0 : mv_al 6 7 mv_h0 = mv_hp (mv_hc ([] ++ [(6, 7)]) (0 + 7) (fun _ _ => none)) (fun _ _ => 0) := mv_al_hc (K := []) (S := 0) rfl z0
  obtain ⟨P1, e1, b1, y1, f1⟩ := in_roads (K := [] ++ [(6, 7)] ++ [(5, 12)]) (S := 0 + 7 + 12) (r := 1) (P := fun _ _ => none) (I := fun _ _ => 0) rfl rfl (mv_fz_le z0 (by omega))
  have y1' := mv_fz_u2 (k := 0) (v := some 1) y1 (show 0 < 21 by omega)
  obtain ⟨P2, e2, b2, y2, f2⟩ := in_roads (K := [] ++ [(6, 7)] ++ [(5, 12)] ++ mv_RK ++ [(5, 12)]) (S := 0 + 7 + 12 + 135 + 12) (r := 21) rfl rfl y1'
  have y2' := mv_fz_u2 (k := 1) (v := some 21) y2 (show 0 < 41 by omega)
  obtain ⟨P3, e3, b3, y3, f3⟩ := in_roads (K := [] ++ [(6, 7)] ++ [(5, 12)] ++ mv_RK ++ [(5, 12)] ++ mv_RK ++ [(5, 12)]) (S := 0 + 7 + 12 + 135 + 12 + 135 + 12) (r := 41) rfl rfl y2'
  have y3' := mv_fz_u2 (k := 2) (v := some 41) y3 (show 0 < 61 by omega)
  obtain ⟨P4, I4, e4, h61, h62, y4, f4, g4⟩ := in_hist (K := [] ++ [(6, 7)] ++ [(5, 12)] ++ mv_RK ++ [(5, 12)] ++ mv_RK ++ [(5, 12)] ++ mv_RK ++ [(3, 2)]) (S := 0 + 7 + 12 + 135 + 12 + 135 + 12 + 135 + 2) rfl rfl (mv_fz_le y3' (by omega))
  have y4' := mv_fz_u2 (k := 3) (v := some 61) y4 (show 0 < 143 by omega)
  generalize hKA : [] ++ [(6, 7)] ++ [(5, 12)] ++ mv_RK ++ [(5, 12)] ++ mv_RK ++ [(5, 12)] ++ mv_RK ++ [(3, 2)] ++ [(9, 4)] ++ mv_kh 4 = KA at e4
  have lA : KA.length = 143 := by rw [← hKA]; rfl
  have kA0 : KA[0]? = some (6, 7) := by rw [← hKA]; rfl
  have kA61 : KA[61]? = some (3, 2) := by rw [← hKA]; rfl
  have kA62 : KA[62]? = some (9, 4) := by rw [← hKA]; rfl
  have lB : (KA ++ [(4, 2)]).length = 144 := by rw [List.length_append, lA]; rfl
  have kB : (KA ++ [(4, 2)])[143]? = some (4, 2) := mv_kl lA
  have ePad : F_X4_init 143 (mv_hp (mv_hc (KA ++ [(4, 2)]) (0 + 7 + 12 + 135 + 12 + 135 + 12 + 135 + 2 + 592 + 2) (mv_u2 P4 0 3 (some 61))) I4) = some ((), mv_hp (mv_hc (KA ++ [(4, 2)] ++ [(8, 60)]) (0 + 7 + 12 + 135 + 12 + 135 + 12 + 135 + 2 + 592 + 2 + 60) (mv_u2 (mv_u2 P4 0 3 (some 61)) 143 0 (some 144))) I4) := by
    unfold F_X4_init
    rw [li60, in_nA lB (mv_fz_le y4' (by omega)) (by omega), in_sR (mv_ka kB)]
    rfl
  have y5 := mv_fz_u2 (k := 0) (v := some 144) (mv_fz_le (M := 145) y4' (by omega)) (show 143 < 145 by omega)
  have y5' := mv_fz_u2 (k := 4) (v := some 143) y5 (show 0 < 145 by omega)
  have lC : (KA ++ [(4, 2)] ++ [(8, 60)]).length = 145 := by rw [List.length_append, lB]; rfl
  have lD : (KA ++ [(4, 2)] ++ [(8, 60)] ++ [(2, 4)]).length = 146 := by rw [List.length_append, lC]; rfl
  have kD : (KA ++ [(4, 2)] ++ [(8, 60)] ++ [(2, 4)])[145]? = some (2, 4) := mv_kl lC
  have eFor : F_X2_init 145 (mv_hp (mv_hc (KA ++ [(4, 2)] ++ [(8, 60)] ++ [(2, 4)]) (0 + 7 + 12 + 135 + 12 + 135 + 12 + 135 + 2 + 592 + 2 + 60 + 4) (mv_u2 (mv_u2 (mv_u2 P4 0 3 (some 61)) 143 0 (some 144)) 0 4 (some 143))) I4) = some ((), mv_hp (mv_hc (KA ++ [(4, 2)] ++ [(8, 60)] ++ [(2, 4)] ++ [(8, 4)]) (0 + 7 + 12 + 135 + 12 + 135 + 12 + 135 + 2 + 592 + 2 + 60 + 4 + 4) (mv_u2 (mv_u2 (mv_u2 (mv_u2 P4 0 3 (some 61)) 143 0 (some 144)) 0 4 (some 143)) 145 0 (some 146))) I4) := by
    unfold F_X2_init
    rw [li4, in_nA lD (mv_fz_le y5' (by omega)) (by omega), in_sR (mv_ka kD)]
    rfl
  have y6 := mv_fz_u2 (k := 0) (v := some 146) (mv_fz_le (M := 147) y5' (by omega)) (show 145 < 147 by omega)
  have y6' := mv_fz_u2 (k := 5) (v := some 145) y6 (show 0 < 147 by omega)
  generalize hPF : mv_u2 (mv_u2 (mv_u2 (mv_u2 (mv_u2 P4 0 3 (some 61)) 143 0 (some 144)) 0 4 (some 143)) 145 0 (some 146)) 0 5 (some 145) = PF at y6'
  have pn : ∀ i, i ≠ 0 → i ≠ 143 → i ≠ 145 → PF i = P4 i := fun i h1 h2 h3 => by rw [← hPF, mv_u2_b h1, mv_u2_b h3, mv_u2_b h1, mv_u2_b h2, mv_u2_b h1]
  have p0 : ∀ k, k < 3 → PF 0 k = P4 0 k := fun k hk => by rw [← hPF, mv_u2_c (by omega), mv_u2_b (by omega), mv_u2_c (by omega), mv_u2_b (by omega), mv_u2_c (by omega)]
  refine ⟨PF, I4, KA ++ [(4, 2)] ++ [(8, 60)] ++ [(2, 4)] ++ [(8, 4)], ?_, by rw [List.length_append, lD]; rfl, by rw [← hKA]; rfl, y6', ⟨?_, ?_, ?_, ?_, ?_, ?_⟩, ?_, fun i hi => ?_, ?_, ?_, ?_, ?_, ?_, ?_, ?_, ?_, ?_, ?_⟩
  · unfold F_X6_init
    rw [s0, in_nw (N := 1) rfl (mv_fz_le z0 (by omega)), in_rc rfl, ev_bd e1, in_sR (show ([] ++ [(6, 7)] ++ [(5, 12)] ++ mv_RK)[0]? = some (6, 7) from rfl), in_nw (N := 21) rfl y1', in_rc rfl, ev_bd e2, in_sR (show ([] ++ [(6, 7)] ++ [(5, 12)] ++ mv_RK ++ [(5, 12)] ++ mv_RK)[0]? = some (6, 7) from rfl), in_nw (N := 41) rfl y2', in_rc rfl, ev_bd e3, in_sR (show ([] ++ [(6, 7)] ++ [(5, 12)] ++ mv_RK ++ [(5, 12)] ++ mv_RK ++ [(5, 12)] ++ mv_RK)[0]? = some (6, 7) from rfl), in_nw (N := 61) rfl y3', in_rc rfl, ev_bd e4, in_sR kA0, in_nw lA y4', in_rc kB, ev_bd ePad, in_sR (mv_ka (mv_ka kA0)), in_nw lC y5', in_rc kD, ev_bd eFor, in_sR (mv_ka (mv_ka (mv_ka (mv_ka kA0)))), hPF]
    rfl
  · rw [p0 0 (by omega), f4 0 (by omega), mv_u2_c (by omega), f3 0 (by omega), mv_u2_c (by omega), f2 0 (by omega), mv_u2_a]
  · rw [p0 1 (by omega), f4 0 (by omega), mv_u2_c (by omega), f3 0 (by omega), mv_u2_a]
  · rw [p0 2 (by omega), f4 0 (by omega), mv_u2_a]
  · rw [← hPF, mv_u2_c (by omega), mv_u2_b (by omega), mv_u2_c (by omega), mv_u2_b (by omega), mv_u2_a]
  · rw [← hPF, mv_u2_c (by omega), mv_u2_b (by omega), mv_u2_a]
  · rw [← hPF, mv_u2_a]
  · rw [pn 61 (by omega) (by omega) (by omega)]; exact h61
  · obtain ⟨w1, w2⟩ := h62 i hi
    exact ⟨by rw [pn 62 (by omega) (by omega) (by omega)]; exact w1, mv_bf_congr (fun a q1 q2 => pn a (by omega) (by omega) (by omega)) w2⟩
  · rw [← hPF, mv_u2_b (by omega), mv_u2_b (by omega), mv_u2_b (by omega), mv_u2_a]
  · rw [← hPF, mv_u2_b (by omega), mv_u2_a]
  · exact mv_bf_congr (fun a q1 q2 => by rw [pn a (by omega) (by omega) (by omega), f4 a (by omega), mv_u2_b (by omega), f3 a (by omega), mv_u2_b (by omega), f2 a (by omega), mv_u2_b (by omega)]) b1
  · exact mv_bf_congr (fun a q1 q2 => by rw [pn a (by omega) (by omega) (by omega), f4 a (by omega), mv_u2_b (by omega), f3 a (by omega), mv_u2_b (by omega)]) b2
  · exact mv_bf_congr (fun a q1 q2 => by rw [pn a (by omega) (by omega) (by omega), f4 a (by omega), mv_u2_b (by omega)]) b3
  · rw [g4 0 (by omega)]; unfold mv_ri; rw [mv_si_ne (by omega), mv_si_ne (by omega), mv_si_ne (by omega)]
  · rw [g4 1 (by omega)]; unfold mv_ri; rw [mv_si_ne (by omega), mv_si_ne (by omega), mv_si_eq]
  · rw [g4 2 (by omega)]; unfold mv_ri; rw [mv_si_ne (by omega), mv_si_ne (by omega), mv_si_ne (by omega)]
  · rw [g4 61 (by omega)]; unfold mv_ri; rw [mv_si_ne (by omega), mv_si_ne (by omega), mv_si_ne (by omega)]
  · exact (y4 143 (by omega)).1
theorem mv_RS_bf {h0 : mv_Hp} {r : Nat} (hK : h0.1 = mv_K0) (hr : mv_blk r) (hb : mv_bf h0.2.2.2 r) : mv_RS h0 r := by
  obtain ⟨a1, a2, a3, a4, a5⟩ := hb
  have bi : ∀ b, b < 8 → mv_bi h0 r b = r + 12 + b := fun b h => by unfold mv_bi; rw [a5 b h]; rfl
  have k : mv_K0[r]? = some (5, 12) ∧ mv_K0[r + 1]? = some (8, 7) ∧ mv_K0[r + 2]? = some (8 + 2, 4) ∧ mv_K0[r + 3]? = some (8 + 3, 8) ∧ (∀ c, c < 4 → mv_K0[r + 4 + 2 * c]? = some (1, 6) ∧ mv_K0[r + 5 + 2 * c]? = some (8, 7)) ∧ ∀ b, b < 8 → mv_K0[r + 12 + b]? = some (0, 8) := by
    rcases hr with rfl | rfl | rfl | rfl | rfl | rfl | rfl <;> decide +kernel
  obtain ⟨k0, k1, k2, k3, k4, k5⟩ := k
  unfold mv_RS
  rw [hK]
  refine ⟨k0, k1, k2, k3, a1, a2, a3, fun c hc => ⟨(k4 c hc).1, (k4 c hc).2, (a4 c hc).1, (a4 c hc).2⟩, fun b h => ?_, fun b b' h h' e => ?_⟩
  · rw [bi b h]
    exact ⟨a5 b h, by omega, by omega, k5 b h⟩
  · rw [bi b h, bi b' h'] at e; omega
def p_v0 : Nat → Int32 := mv_vu (mv_vu (fun _ => 0) 1 (nI 3)) 2 (nI 1)
def p_G0 : p_G := (p_v0, [], none, [])
theorem p_v0n {k : Nat} (h1 : k ≠ 1) (h2 : k ≠ 2) : p_v0 k = nI 0 := by unfold p_v0; rw [mv_vu_ne h2, mv_vu_ne h1]; rfl
theorem p_v01 : p_v0 1 = nI 3 := by unfold p_v0; rw [mv_vu_ne (by omega), mv_vu_eq]
theorem p_v02 : p_v0 2 = nI 1 := by unfold p_v0; rw [mv_vu_eq]
theorem p_V0 : mv_VV p_v0 0 0 0 := ⟨p_v0n (by omega) (by omega), p_v0n (by omega) (by omega), p_v0n (by omega) (by omega), Nat.zero_le _, Nat.zero_le _, fun w hw => ⟨0, Nat.zero_le _, p_v0n (by omega) (by omega)⟩, fun c hc => absurd hc (Nat.not_lt_zero _), fun b hb => absurd hb (Nat.not_lt_zero _)⟩
theorem p_H0 : p_VR p_v0 0 0 0 := by
  refine ⟨⟨⟨3, by omega, by omega, p_v01⟩, ⟨1, by omega, p_v02⟩, ?_, Nat.zero_le _, p_v0n (by omega) (by omega)⟩, ⟨0, Nat.zero_le _, Nat.zero_le _, p_v0n (by omega) (by omega)⟩, fun c hc => absurd hc (Nat.not_lt_zero _), fun b hb => absurd hb (Nat.not_lt_zero _)⟩
  rw [p_v0n (k := 5) (by omega) (by omega), p_v0n (k := 4) (by omega) (by omega), p_v0n (k := 7) (by omega) (by omega)]
  rfl
theorem p_GI0 : p_GI 0 p_G0 := ⟨⟨0, 0, 0, p_V0, p_H0, Nat.zero_le _⟩, (fun u hu => absurd hu List.not_mem_nil), (fun u (hu : (none : Option (Nat → Int32)) = some u) => by cases hu), Nat.zero_le _⟩
/-- the constructor lays it -/
theorem p_ini : ∃ h, F_X6_init 0 (mv_al 6 7 mv_h0) = some ((), h) ∧ p_rp 0 p_G0 h := by
  obtain ⟨P, J, K, e6, l6, eK, z6, ⟨p0, p1, p2, p3, p4, p5⟩, p61, p62, p143, p145, b1, b21, b41, i0, i1, i2, i61, i143⟩ := in_x6
  subst eK
  refine ⟨_, e6, rfl, fun _ => 0, 0, fun _ => 0, fun _ => 0, ?_, ?_⟩
  · have sr : ∀ i, i < 4 → mv_sr (mv_hp (mv_hc mv_K0 1112 P) J) i = 63 + 20 * i := fun i hi => by
      show (P 62 i).getD 0 = _
      rw [(p62 i hi).1]; rfl
    refine mv_CI_hp (h0 := mv_hp (mv_hc mv_K0 1112 P) J) ⟨⟨rfl, trivial, ⟨p0, p1, p2, p3, p4, p5⟩, ⟨rfl, rfl, p145⟩, ⟨rfl, rfl, p61, fun i hi => ⟨?_, ?_⟩, fun i j hi hj e => ?_⟩, p143, fun r hr => ?_⟩, ⟨0, 0, 0, Nat.zero_le _, ⟨p_V0, fun b hb => absurd hb (Nat.not_lt_zero _)⟩, ⟨⟨?_, ?_, ?_, ?_, ?_, ?_, ?_, ?_, ?_⟩, fun w hw => ?_, fun c hc => absurd hc (Nat.not_lt_zero _), fun b hb => absurd hb (Nat.not_lt_zero _)⟩⟩, ⟨?_, Nat.zero_le _, fun k hk => absurd hk (Nat.not_lt_zero _)⟩, ⟨?_, Or.inl rfl⟩, ⟨?_, Nat.zero_le _, fun k hk => absurd hk (Nat.not_lt_zero _)⟩⟩
    · rw [sr i hi]; exact (p62 i hi).1
    · rw [sr i hi]; omega
    · rw [sr i hi, sr j hj] at e; omega
    · refine mv_RS_bf rfl hr ?_
      show mv_bf P r
      rcases hr with rfl | rfl | rfl | rfl | rfl | rfl | rfl
      · exact b1
      · exact b21
      · exact b41
      · exact (p62 0 (by omega)).2
      · exact (p62 1 (by omega)).2
      · exact (p62 2 (by omega)).2
      · exact (p62 3 (by omega)).2
    · show J 1 3 = p_v0 3
      rw [i1]; rfl
    · show J 1 4 = p_v0 4
      rw [i1]; rfl
    · show J 1 5 = p_v0 0
      rw [i1]; rfl
    · show J 1 6 = p_v0 1
      rw [i1]; rfl
    · show J 1 7 = p_v0 2
      rw [i1]; rfl
    · show J 1 8 = p_v0 5
      rw [i1]; rfl
    · show J 1 9 = p_v0 6
      rw [i1]; rfl
    · show J 1 10 = p_v0 7
      rw [i1]; rfl
    · show J 1 11 = p_v0 8
      rw [i1]; rfl
    · show J 2 w = p_v0 (9 + w)
      rw [i2, p_v0n (by omega) (by omega)]; rfl
    · show J 61 1 = _
      rw [i61]; rfl
    · show J 0 6 = _
      rw [i0]
    · show J 143 1 = _
      rw [i143]; rfl
  · exact ⟨fun k u hk => by simp [p_G0] at hk, Or.inl ⟨rfl, rfl⟩, fun k s hk => by simp [p_G0] at hk⟩
