def mv_h0 : mv_Hp := ([], 0, fun _ _ => 0, fun _ _ => none)
def mv_al (c n : Nat) (h : mv_Hp) : mv_Hp := (h.1 ++ [(c, n)], h.2.1 + n, mv_u1 h.2.2.1 h.1.length 0, mv_u1 h.2.2.2 h.1.length none)
/-! the constructors -/
def mv_hc (K : List (Nat × Nat)) (S : Nat) (P : Nat → Nat → Option Nat) : mv_Hp := (K, S, fun _ _ => 0, P)
def mv_fz (I : Nat → Nat → Int32) (P : Nat → Nat → Option Nat) (N : Nat) : Prop := ∀ i, N ≤ i → I i = (fun _ => 0) ∧ P i = (fun _ => none)
theorem mv_u2_a {P : Nat → Nat → Option Nat} {i k : Nat} {v : Option Nat} : mv_u2 P i k v i k = v := by unfold mv_u2; rw [if_pos rfl, if_pos rfl]
theorem mv_u2_b {P : Nat → Nat → Option Nat} {i k a : Nat} {v : Option Nat} (h : a ≠ i) : mv_u2 P i k v a = P a := by funext b; unfold mv_u2; rw [if_neg h]
theorem mv_u2_c {P : Nat → Nat → Option Nat} {i k a b : Nat} {v : Option Nat} (h : b ≠ k) : mv_u2 P i k v a b = P a b := by unfold mv_u2; split <;> simp [h]
theorem mv_fz_u2 {I : Nat → Nat → Int32} {P : Nat → Nat → Option Nat} {N i k : Nat} {v : Option Nat} (h : mv_fz I P N) (hi : i < N) : mv_fz I (mv_u2 P i k v) N := fun a ha => ⟨(h a ha).1, by rw [mv_u2_b (by omega)]; exact (h a ha).2⟩
theorem mv_fz_le {I : Nat → Nat → Int32} {P : Nat → Nat → Option Nat} {N M : Nat} (h : mv_fz I P N) (hM : N ≤ M) : mv_fz I P M := fun a ha => h a (by omega)
theorem mv_fz_si {I : Nat → Nat → Int32} {P : Nat → Nat → Option Nat} {N i : Nat} {f : Nat → Int32} (h : mv_fz I P N) (hi : i < N) : mv_fz (mv_si I i f) P N := fun a ha => ⟨by rw [mv_si_ne (by omega)]; exact (h a ha).1, (h a ha).2⟩
theorem mv_ka {K L : List (Nat × Nat)} {i : Nat} {x : Nat × Nat} (h : K[i]? = some x) : (K ++ L)[i]? = some x := by
  rw [List.getElem?_append_left (List.getElem?_eq_some_iff.mp h).1]; exact h
theorem mv_kl {K : List (Nat × Nat)} {N : Nat} {x : Nat × Nat} (h : K.length = N) : (K ++ [x])[N]? = some x := by subst h; simp
section N1
variable {β : Type} {K : List (Nat × Nat)} {S N : Nat} {P : Nat → Nat → Option Nat} {I : Nat → Nat → Int32} {c n i k : Nat}
theorem in_nw {g : Option Nat → mv_M β} (hN : K.length = N) (hz : mv_fz I P N) : mv_bd (mv_nw c n) g (mv_hp (mv_hc K S P) I) = g (some N) (mv_hp (mv_hc (K ++ [(c, n)]) (S + n) P) I) := by
  subst hN
  have e1 : mv_u1 I K.length 0 = I := by
    funext a b
    unfold mv_u1
    by_cases h : a = K.length
    · subst h; rw [if_pos rfl, (hz _ (Nat.le_refl _)).1]
    · rw [if_neg h]
  have e2 : mv_u1 P K.length none = P := by
    funext a b
    unfold mv_u1
    by_cases h : a = K.length
    · subst h; rw [if_pos rfl, (hz _ (Nat.le_refl _)).2]
    · rw [if_neg h]
  show g (some K.length) (K ++ [(c, n)], S + n, mv_u1 I K.length 0, mv_u1 P K.length none) = _
  rw [e1, e2]
  rfl
theorem in_nA {g : Option Nat → mv_M β} (hN : K.length = N) (hz : mv_fz I P N) (hn : n ≤ 65536) : mv_bd (mv_nA c (nI n)) g (mv_hp (mv_hc K S P) I) = g (some N) (mv_hp (mv_hc (K ++ [(c, n)]) (S + n) P) I) := by
  have e : mv_nA c (nI n) = mv_nw c n := by
    funext h
    unfold mv_nA
    rw [nI_clamp (by omega), if_neg]
    rintro (z | z)
    · exact nI_pos (by omega) z
    · omega
  rw [e, in_nw hN hz]
theorem in_sR {g : Unit → mv_M β} {v : Option Nat} (hk : K[i]? = some (c, n)) : mv_bd (mv_sR c n k (some i) v) g (mv_hp (mv_hc K S P) I) = g () (mv_hp (mv_hc K S (mv_u2 P i k v)) I) := by
  unfold mv_bd mv_sR
  simp [mv_hp, mv_hc, hk]
theorem in_aT {t m j x : Nat} {g : Unit → mv_M β} (hk : K[i]? = some (8 + t, n)) (hx : K[x]? = some (c, m)) (hj : j < n) (hn : n < 2 ^ 31) : mv_bd (mv_aT t c m (some i) (nI j) (some x)) g (mv_hp (mv_hc K S P) I) = g () (mv_hp (mv_hc K S (mv_u2 P i j (some x))) I) := ev_aT (h0 := mv_hc K S P) hk hx hj hn
theorem in_rc {g : Nat → mv_M β} (hk : K[i]? = some (c, n)) : mv_bd (mv_rc c n (some i)) g (mv_hp (mv_hc K S P) I) = g i (mv_hp (mv_hc K S P) I) := ev_rc (h0 := mv_hc K S P) hk
theorem in_gR {g : Option Nat → mv_M β} (hk : K[i]? = some (c, n)) : mv_bd (mv_gR c n k (some i)) g (mv_hp (mv_hc K S P) I) = g (P i k) (mv_hp (mv_hc K S P) I) := ev_gR (h0 := mv_hc K S P) hk
theorem in_aL {g : Int32 → mv_M β} (hk : K[i]? = some (c, n)) (h8 : 8 ≤ c ∧ c < 12) : mv_bd (mv_aL (some i)) g (mv_hp (mv_hc K S P) I) = g (nI n) (mv_hp (mv_hc K S P) I) := ev_aL (h0 := mv_hc K S P) hk h8
theorem in_sI {g : Unit → mv_M β} {x : Int32} (hk : K[i]? = some (c, n)) : mv_bd (mv_sI c n k (some i) x) g (mv_hp (mv_hc K S P) I) = g () (mv_hp (mv_hc K S P) (mv_si I i (mv_vu (I i) k x))) := ev_sI (h0 := mv_hc K S P) hk
theorem in_aS {g : Unit → mv_M β} {x : Int32} {j : Nat} (hk : K[i]? = some (8, n)) (hj : j < n) (hn : n < 2 ^ 31) : mv_bd (mv_aS (some i) (nI j) x) g (mv_hp (mv_hc K S P) I) = g () (mv_hp (mv_hc K S P) (mv_si I i (mv_vu (I i) j x))) := ev_aS (h0 := mv_hc K S P) hk hj hn
end N1
def mv_kc : Nat → List (Nat × Nat)
  | 0 => []
  | c + 1 => mv_kc c ++ [(1, 6)] ++ [(8, 7)]
def mv_kb : Nat → List (Nat × Nat)
  | 0 => []
  | b + 1 => mv_kb b ++ [(0, 8)]
theorem mv_kc_len : ∀ c, (mv_kc c).length = 2 * c
  | 0 => rfl
  | c + 1 => by rw [mv_kc, List.length_append, List.length_append, mv_kc_len c]; simp; omega
theorem mv_kb_len : ∀ c, (mv_kb c).length = c
  | 0 => rfl
  | c + 1 => by rw [mv_kb, List.length_append, mv_kb_len c]; simp
/-- what the cells of a block refer to -/
def mv_bf (P : Nat → Nat → Option Nat) (r : Nat) : Prop := P r 0 = some (r + 1) ∧ P r 1 = some (r + 2) ∧ P r 2 = some (r + 3) ∧ (∀ c, c < 4 → P (r + 2) c = some (r + 4 + 2 * c) ∧ P (r + 4 + 2 * c) 0 = some (r + 5 + 2 * c)) ∧ ∀ b, b < 8 → P (r + 3) b = some (r + 12 + b)
theorem mv_bf_congr {P P' : Nat → Nat → Option Nat} {r : Nat} (h : ∀ i, r ≤ i → i < r + 20 → P' i = P i) (hb : mv_bf P r) : mv_bf P' r := by
  obtain ⟨a1, a2, a3, a4, a5⟩ := hb
  unfold mv_bf
  rw [h r (by omega) (by omega), h (r + 2) (by omega) (by omega), h (r + 3) (by omega) (by omega)]
  exact ⟨a1, a2, a3, fun c hc => ⟨(a4 c hc).1, by rw [h _ (by omega) (by omega)]; exact (a4 c hc).2⟩, a5⟩
def mv_RK : List (Nat × Nat) := [(8, 7)] ++ [(10, 4)] ++ [(11, 8)] ++ mv_kc 4 ++ mv_kb 8
def mv_ri (I : Nat → Nat → Int32) (r : Nat) : Nat → Nat → Int32 := mv_si I r (mv_vu (mv_vu (fun _ => 0) 6 (nI 3)) 7 (nI 1))
theorem in_roads {K : List (Nat × Nat)} {S r : Nat} {P : Nat → Nat → Option Nat} {I : Nat → Nat → Int32} (hK : K.length = r + 1) (hr : K[r]? = some (5, 12)) (hz : mv_fz I P r) : ∃ P', F_X5_init r (mv_hp (mv_hc K S P) I) = some ((), mv_hp (mv_hc (K ++ mv_RK) (S + 135) P') (mv_ri I r)) ∧ mv_bf P' r ∧ mv_fz (mv_ri I r) P' (r + 20) ∧ ∀ i, i < r → P' i = P i := by
  have hI0 : I r = fun _ => 0 := (hz r (Nat.le_refl _)).1
  -- its rows
  have l1 : (K ++ [(8, 7)]).length = r + 2 := by simp [hK]
  have l2 : (K ++ [(8, 7)] ++ [(10, 4)]).length = r + 3 := by simp [hK]
  have l3 : (K ++ [(8, 7)] ++ [(10, 4)] ++ [(11, 8)]).length = r + 4 := by simp [hK]
  have k2 : (K ++ [(8, 7)] ++ [(10, 4)] ++ [(11, 8)])[r + 2]? = some (8 + 2, 4) := mv_ka (mv_kl l1)
  have k3 : (K ++ [(8, 7)] ++ [(10, 4)] ++ [(11, 8)])[r + 3]? = some (8 + 3, 8) := mv_kl l2
  have k0 : (K ++ [(8, 7)] ++ [(10, 4)] ++ [(11, 8)])[r]? = some (5, 12) := mv_ka (mv_ka (mv_ka hr))
  have z1 := mv_fz_le (M := r + 1) hz (by omega)
  have z2 := mv_fz_u2 (k := 0) (v := some (r + 1)) z1 (show r < r + 1 by omega)
  have z3 := mv_fz_u2 (k := 1) (v := some (r + 2)) z2 (show r < r + 1 by omega)
  have z4 := mv_fz_u2 (k := 2) (v := some (r + 3)) z3 (show r < r + 1 by omega)
  have z5 : mv_fz (mv_ri I r) (mv_u2 (mv_u2 (mv_u2 P r 0 (some (r + 1))) r 1 (some (r + 2))) r 2 (some (r + 3))) (r + 4) := mv_fz_le (mv_fz_si z4 (by omega)) (by omega)
  generalize hK3 : K ++ [(8, 7)] ++ [(10, 4)] ++ [(11, 8)] = K3 at l3 k2 k3 k0
  generalize hP3 : mv_u2 (mv_u2 (mv_u2 P r 0 (some (r + 1))) r 1 (some (r + 2))) r 2 (some (r + 3)) = P3 at z5
  have p30 : P3 r 0 = some (r + 1) := by rw [← hP3, mv_u2_c (by omega), mv_u2_c (by omega), mv_u2_a]
  have p31 : P3 r 1 = some (r + 2) := by rw [← hP3, mv_u2_c (by omega), mv_u2_a]
  have p32 : P3 r 2 = some (r + 3) := by rw [← hP3, mv_u2_a]
  have p3i : ∀ i, i < r → P3 i = P i := fun i hi => by rw [← hP3, mv_u2_b (by omega), mv_u2_b (by omega), mv_u2_b (by omega)]
  have pre : F_X5_init r (mv_hp (mv_hc K S P) I) = Lp_X5_init_41 r mv_FU (nI 0) (mv_hp (mv_hc K3 (S + 7 + 4 + 8) P3) (mv_ri I r)) := by
    unfold F_X5_init
    rw [li7, in_nA hK z1 (by omega), in_sR (mv_ka hr), li4, in_nA l1 (mv_fz_le z2 (by omega)) (by omega), in_sR (mv_ka (mv_ka hr)), li8, in_nA l2 (mv_fz_le z3 (by omega)) (by omega), hK3, in_sR k0, hP3, in_sI k0, in_sI k0, mv_si_eq, mv_si_si, hI0, li3, li1, li0]
    rfl
  have kK : ∀ c i x, K3[i]? = some x → (K3 ++ mv_kc c)[i]? = some x := fun c i x h => mv_ka h
  obtain ⟨n, Q, e1, q1, q2, q3, q4⟩ := mv_lp (L := fun n c (Q : Nat → Nat → Option Nat) => Lp_X5_init_41 r n (nI c) (mv_hp (mv_hc (K3 ++ mv_kc c) (S + 7 + 4 + 8 + 13 * c) Q) (mv_ri I r))) (fun c Q => mv_fz (mv_ri I r) Q (r + 4 + 2 * c) ∧ (∀ i, i < r + 2 → Q i = P3 i) ∧ (Q (r + 3) = P3 (r + 3)) ∧ ∀ c', c' < c → Q (r + 2) c' = some (r + 4 + 2 * c') ∧ Q (r + 4 + 2 * c') 0 = some (r + 5 + 2 * c')) 4 (by omega)
    (fun n c Q hc hP => by
      obtain ⟨p1, p2, p3, p4⟩ := hP
      have g1 : Q r 1 = some (r + 2) := by rw [p2 r (by omega)]; exact p31
      have ll : (K3 ++ mv_kc c).length = r + 4 + 2 * c := by rw [List.length_append, l3, mv_kc_len]
      have ll2 : (K3 ++ mv_kc c ++ [(1, 6)]).length = r + 5 + 2 * c := by rw [List.length_append, ll]; simp; omega
      have kn : (K3 ++ mv_kc c ++ [(1, 6)])[r + 4 + 2 * c]? = some (1, 6) := mv_kl ll
      have eK : K3 ++ mv_kc (c + 1) = K3 ++ mv_kc c ++ [(1, 6)] ++ [(8, 7)] := by rw [mv_kc]; simp
      have k2' : (K3 ++ mv_kc (c + 1))[r + 2]? = some (8 + 2, 4) := mv_ka k2
      have kn' : (K3 ++ mv_kc (c + 1))[r + 4 + 2 * c]? = some (1, 6) := by rw [eK]; exact mv_ka kn
      have ei : F_X1_init (r + 4 + 2 * c) (mv_hp (mv_hc (K3 ++ mv_kc c ++ [(1, 6)]) (S + 7 + 4 + 8 + 13 * c + 6) Q) (mv_ri I r)) = some ((), mv_hp (mv_hc (K3 ++ mv_kc (c + 1)) (S + 7 + 4 + 8 + 13 * c + 6 + 7) (mv_u2 Q (r + 4 + 2 * c) 0 (some (r + 5 + 2 * c)))) (mv_ri I r)) := by
        unfold F_X1_init
        rw [li7, in_nA ll2 (mv_fz_le p1 (by omega)) (by omega), in_sR (mv_ka kn), eK]
        rfl
      rw [Lp_X5_init_41, in_gR (mv_ka k0), g1, in_aL (mv_ka k2) (by decide), ev_f (nI_ge hc (by omega)), in_gR (mv_ka k0), g1, in_nw ll p1, in_rc kn, ev_bd ei, in_aT k2' kn' (show c < 4 by omega) (by omega), li1, nI_add, show S + 7 + 4 + 8 + 13 * c + 6 + 7 = S + 7 + 4 + 8 + 13 * (c + 1) by omega]
      refine ⟨_, rfl, ?_, fun i hi => ?_, ?_, fun c' hc' => ?_⟩
      · exact mv_fz_u2 (mv_fz_u2 (mv_fz_le p1 (by omega)) (by omega)) (by omega)
      · rw [mv_u2_b (by omega), mv_u2_b (by omega)]; exact p2 i hi
      · rw [mv_u2_b (by omega), mv_u2_b (by omega)]; exact p3
      · by_cases e : c' = c
        · subst e
          exact ⟨mv_u2_a, by rw [mv_u2_b (by omega), mv_u2_a]⟩
        · obtain ⟨w1, w2⟩ := p4 c' (by omega)
          exact ⟨by rw [mv_u2_c e, mv_u2_b (by omega)]; exact w1, by rw [mv_u2_b (by omega), mv_u2_b (by omega)]; exact w2⟩)
    P3 ⟨z5, fun _ _ => rfl, rfl, fun c' hc' => by omega⟩
  have e1' : Lp_X5_init_41 r mv_FU (nI 0) (mv_hp (mv_hc K3 (S + 7 + 4 + 8) P3) (mv_ri I r)) = Lp_X5_init_41 r (n + 1) (nI 4) (mv_hp (mv_hc (K3 ++ mv_kc 4) (S + 7 + 4 + 8 + 13 * 4) Q) (mv_ri I r)) := by
    rw [← e1]
    show _ = Lp_X5_init_41 r mv_FU (nI 0) (mv_hp (mv_hc (K3 ++ []) (S + 7 + 4 + 8 + 13 * 0) P3) (mv_ri I r))
    rw [List.append_nil]
  have l4 : (K3 ++ mv_kc 4).length = r + 12 := by rw [List.length_append, l3, mv_kc_len]
  have g1 : Q r 1 = some (r + 2) := by rw [q2 r (by omega)]; exact p31
  have g2 : Q r 2 = some (r + 3) := by rw [q2 r (by omega)]; exact p32
  rw [pre, e1', Lp_X5_init_41, in_gR (mv_ka k0), g1, in_aL (mv_ka k2) (by decide), ev_t (nI_le (Nat.le_refl _) (by omega)), li0]
  generalize hK4 : K3 ++ mv_kc 4 = K4 at l4
  have k04 : K4[r]? = some (5, 12) := by rw [← hK4]; exact mv_ka k0
  have k34 : K4[r + 3]? = some (8 + 3, 8) := by rw [← hK4]; exact mv_ka k3
  obtain ⟨n2, Q2, e2, r1, r2, r3⟩ := mv_lp (L := fun n b (Q : Nat → Nat → Option Nat) => Lp_X5_init_71 r n (nI b) (mv_hp (mv_hc (K4 ++ mv_kb b) (S + 7 + 4 + 8 + 13 * 4 + 8 * b) Q) (mv_ri I r))) (fun b Q' => mv_fz (mv_ri I r) Q' (r + 12 + b) ∧ (∀ i, i < r + 12 → i ≠ r + 3 → Q' i = Q i) ∧ ∀ b', b' < b → Q' (r + 3) b' = some (r + 12 + b')) 8 (by omega)
    (fun n b Q' hb hP => by
      obtain ⟨p1, p2, p3⟩ := hP
      have g2' : Q' r 2 = some (r + 3) := by rw [p2 r (by omega) (by omega)]; exact g2
      have ll : (K4 ++ mv_kb b).length = r + 12 + b := by rw [List.length_append, l4, mv_kb_len]
      have kn : (K4 ++ mv_kb b ++ [(0, 8)])[r + 12 + b]? = some (0, 8) := mv_kl ll
      have eK : K4 ++ mv_kb (b + 1) = K4 ++ mv_kb b ++ [(0, 8)] := by rw [mv_kb]; simp
      rw [Lp_X5_init_71, in_gR (mv_ka k04), g2', in_aL (mv_ka k34) (by decide), ev_f (nI_ge hb (by omega)), in_gR (mv_ka k04), g2', in_nw ll p1, in_rc kn]
      unfold F_X0_init
      rw [ev_bpu, in_aT (mv_ka (mv_ka k34)) kn (show b < 8 by omega) (by omega), li1, nI_add, eK, show S + 7 + 4 + 8 + 13 * 4 + 8 * b + 8 = S + 7 + 4 + 8 + 13 * 4 + 8 * (b + 1) by omega]
      refine ⟨_, rfl, ?_, fun i hi h3 => ?_, fun b' hb' => ?_⟩
      · exact mv_fz_u2 (mv_fz_le p1 (by omega)) (by omega)
      · rw [mv_u2_b (by omega)]; exact p2 i hi h3
      · by_cases e : b' = b
        · subst e; exact mv_u2_a
        · rw [mv_u2_c e]; exact p3 b' (by omega))
    Q ⟨mv_fz_le q1 (by omega), fun _ _ _ => rfl, fun b' hb' => by omega⟩
  have e2' : Lp_X5_init_71 r mv_FU (nI 0) (mv_hp (mv_hc K4 (S + 7 + 4 + 8 + 13 * 4) Q) (mv_ri I r)) = Lp_X5_init_71 r (n2 + 1) (nI 8) (mv_hp (mv_hc (K4 ++ mv_kb 8) (S + 7 + 4 + 8 + 13 * 4 + 8 * 8) Q2) (mv_ri I r)) := by
    rw [← e2]
    show _ = Lp_X5_init_71 r mv_FU (nI 0) (mv_hp (mv_hc (K4 ++ []) (S + 7 + 4 + 8 + 13 * 4 + 8 * 0) Q) (mv_ri I r))
    rw [List.append_nil]
  have g22 : Q2 r 2 = some (r + 3) := by rw [r2 r (by omega) (by omega)]; exact g2
  refine ⟨Q2, ?_, ⟨?_, ?_, g22, fun c hc => ⟨?_, ?_⟩, r3⟩, mv_fz_le r1 (by omega), fun i hi => ?_⟩
  · rw [e2', Lp_X5_init_71, in_gR (mv_ka k04), g22, in_aL (mv_ka k34) (by decide), ev_t (nI_le (Nat.le_refl _) (by omega))]
    have eK : K4 ++ mv_kb 8 = K ++ mv_RK := by
      rw [← hK4, ← hK3]
      unfold mv_RK
      simp only [List.append_assoc]
    rw [eK]
    rfl
  · rw [r2 r (by omega) (by omega), q2 r (by omega)]; exact p30
  · rw [r2 r (by omega) (by omega), q2 r (by omega)]; exact p31
  · rw [r2 _ (by omega) (by omega)]; exact (q4 c hc).1
  · rw [r2 _ (by omega) (by omega)]; exact (q4 c hc).2
  · rw [r2 i (by omega) (by omega), q2 i (by omega), p3i i hi]
