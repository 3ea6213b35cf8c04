theorem mv_cnt_skip {sg : Nat → Nat} {s a : Nat} : ∀ k, (∀ j, a ≤ j → j < a + k → ¬ sg j = s) → mv_cnt sg s (a + k) = mv_cnt sg s a
  | 0, _ => rfl
  | k + 1, h => by
    show mv_cnt sg s (a + k) + (if sg (a + k) = s then 1 else 0) = _
    rw [if_neg (h (a + k) (by omega) (by omega)), Nat.add_zero]
    exact mv_cnt_skip k (fun j h1 h2 => h j h1 (by omega))
theorem mv_cnt_gx {sg : Nat → Nat} {M s : Nat} {fa : Nat → Option Nat} {en : Nat → Nat} (hen : ∀ i, fa i = none → i + 1 ≤ en i ∧ en i ≤ M ∧ ∀ j, i ≤ j → j < en i → ¬ sg j = s) : ∀ f i K, i ≤ M → mv_gx fa en s sg M f i = (none, K) → 1 ≤ K ∧ mv_cnt sg s M + 1 = mv_cnt sg s i + K
  | 0, i, K, _, h => by cases h
  | f + 1, i, K, hi, h => by
    rw [mv_gx] at h
    cases hfa : fa i with
    | some p => rw [hfa] at h; cases h
    | none =>
      rw [hfa] at h
      obtain ⟨h1, h2, h3⟩ := hen i hfa
      have e1 : mv_cnt sg s (en i) = mv_cnt sg s i := by
        have := mv_cnt_skip (sg := sg) (s := s) (a := i) (en i - i) (fun j q1 q2 => h3 j q1 (by omega))
        rw [show i + (en i - i) = en i by omega] at this
        exact this
      dsimp only at h
      by_cases hE : M ≤ en i
      · rw [if_pos hE] at h
        have hK : 1 = K := (Prod.mk.inj h).2
        have : en i = M := by omega
        rw [this] at e1
        omega
      · rw [if_neg hE] at h
        by_cases hs : sg (en i) = s
        · rw [if_pos hs] at h
          have h4 := Prod.mk.inj h
          obtain ⟨r1, r2⟩ := mv_cnt_gx hen f (en i + 1) (mv_gx fa en s sg M f (en i + 1)).2 (by omega) (Prod.ext h4.1 rfl)
          have e2 : mv_cnt sg s (en i + 1) = mv_cnt sg s (en i) + 1 := by
            show mv_cnt sg s (en i) + (if sg (en i) = s then 1 else 0) = _
            rw [if_pos hs]
          have := h4.2
          omega
        · rw [if_neg hs] at h; cases h
theorem mv_stt_s {en : Nat → Nat} : ∀ u i, mv_stt en (u + 1) i = en (mv_stt en u i) + 1
  | 0, _ => rfl
  | u + 1, i => by
    show mv_stt en (u + 1) (en i + 1) = en (mv_stt en u (en i + 1)) + 1
    exact mv_stt_s u (en i + 1)
/-- a carrier out of a tour at i; one after the other -/
def mv_ac (sg : Nat → Nat) (v : Nat → Int32) (c i : Nat) : Nat → Int32 := fun k =>
  if k = 3 then nI (c + 1)
  else if 16 + 12 * c ≤ k ∧ k < 16 + 12 * c + 12 then
    (if k = 16 + 12 * c then nI (mv_nT sg i)
     else if k ≤ 16 + 12 * c + mv_nT sg i then nI (sg (i + (k - (16 + 12 * c + 1))) - 48)
     else if k = 16 + 12 * c + 8 then nI (mv_rg sg i) else nI 0)
  else v k
def mv_tv (sg : Nat → Nat) : Nat → (Nat → Int32) → Nat → Nat → (Nat → Int32)
  | 0, v, _, _ => v
  | K + 1, v, c, i => mv_tv sg K (mv_ac sg v c i) (c + 1) (mv_en sg i + 1)
section U1
variable {h0 : mv_Hp} {I : Nat → Nat → Int32} {C B D M : Nat} {v : Nat → Int32} {sg : Nat → Nat}
theorem mv_VV_ac (hV : mv_VV v C B D) (hC : C < 4) {i : Nat} (hn : ¬ mv_nT sg i = 0) : mv_VV (mv_ac sg v C i) (C + 1) B D := by
  obtain ⟨e0, e3, e4, hC4, hB8, hW, hVC, hVB⟩ := hV
  have hn7 : mv_nT sg i ≤ 7 := mv_tn_le sg 7 i
  have out : ∀ k, k ≠ 3 → k < 16 + 12 * C ∨ 16 + 12 * C + 12 ≤ k → mv_ac sg v C i k = v k := fun k h1 h2 => by unfold mv_ac; rw [if_neg h1, if_neg (by omega)]
  refine ⟨by rw [out 0 (by omega) (by omega)]; exact e0, by unfold mv_ac; rw [if_pos rfl], by rw [out 4 (by omega) (by omega)]; exact e4, by omega, hB8, fun w hw => by rw [out _ (by omega) (by omega)]; exact hW w hw, fun c hc => ?_, fun b hb => ?_⟩
  · by_cases e : c = C
    · subst e
      refine ⟨mv_nT sg i, by omega, hn7, ?_, fun j hj => ⟨sg (i + j) - 48, ?_, ?_⟩⟩
      · unfold mv_ac; rw [if_neg (by omega), if_pos (by omega), if_pos (by omega)]
      · have := mv_tn_T sg 7 i j hj
        unfold mv_T at this; simp at this; omega
      · unfold mv_ac
        rw [if_neg (by omega), if_pos (by omega), if_neg (by omega), if_pos (by omega), show i + (16 + 12 * c + (1 + j) - (16 + 12 * c + 1)) = i + j by omega]
    · obtain ⟨n, h1, h7, h8, h9⟩ := hVC c (by omega)
      exact ⟨n, h1, h7, by rw [out _ (by omega) (by omega)]; exact h8, fun j hj => by rw [out _ (by omega) (by omega)]; exact h9 j hj⟩
  · obtain ⟨⟨t, t1, t2⟩, ⟨l, w, a, q1, q2, q3, q4, q5, q6, q7⟩, p5⟩ := hVB b hb
    exact ⟨⟨t, t1, by rw [out _ (by omega) (by omega)]; exact t2⟩, ⟨l, w, a, q1, by omega, q3, by rw [out _ (by omega) (by omega)]; exact q4, by rw [out _ (by omega) (by omega)]; exact q5, by rw [out _ (by omega) (by omega)]; exact q6, q7⟩, by rw [out _ (by omega) (by omega)]; exact p5⟩
theorem mv_PV_ac (hC : C < 4) {i : Nat} (hP : mv_PV v B) : mv_PV (mv_ac sg v C i) B := mv_PV_v (fun b hb => by unfold mv_ac; rw [if_neg (by omega), if_neg (by omega)]) hP
/-- a carrier who has begun, of m towns -/
def mv_wt (sg : Nat → Nat) (v : Nat → Int32) (c i m : Nat) (rg : Int32) : Nat → Int32 := fun k =>
  if k = 3 then nI (c + 1)
  else if 16 + 12 * c ≤ k ∧ k < 16 + 12 * c + 12 then
    (if k = 16 + 12 * c then nI m
     else if k ≤ 16 + 12 * c + m then nI (sg (i + (k - (16 + 12 * c + 1))) - 48)
     else if k = 16 + 12 * c + 8 then rg else nI 0)
  else v k
theorem mv_wt_ac {c i : Nat} : mv_wt sg v c i (mv_nT sg i) (nI (mv_rg sg i)) = mv_ac sg v c i := rfl
theorem ro_addC (hR : mv_RS h0 1) (hW : mv_RV h0 I 1 v C B) (hB8 : B ≤ 8) (h3 : v 3 = nI C) (hC : C < 4) {i : Nat} : ∃ I', F_X5_addCarrier 1 (mv_hp h0 I) = some (some (1 + 4 + 2 * C), mv_hp h0 I') ∧ mv_RV h0 I' 1 (mv_wt sg v C i 0 (nI 0)) (C + 1) B ∧ mv_fr 1 I I' := by
  obtain ⟨k1, k2, k3, k4⟩ := hR.2.2.2.2.2.2.2.1 C hC
  obtain ⟨⟨a1, a2, a3, a4, a5, a6, a7, a8, a9⟩, w2, w3, w4⟩ := hW
  have out : ∀ k, k ≠ 3 → k < 16 + 12 * C ∨ 16 + 12 * C + 12 ≤ k → mv_wt sg v C i 0 (nI 0) k = v k := fun k h1 h2 => by unfold mv_wt; rw [if_neg h1, if_neg (by omega)]
  have out3 : mv_wt sg v C i 0 (nI 0) 3 = nI (C + 1) := by unfold mv_wt; rw [if_pos rfl]
  have zer : ∀ k, k < 12 → (k = 0 ∨ 8 ≤ k) → mv_wt sg v C i 0 (nI 0) (16 + 12 * C + k) = nI 0 := fun k h1 h2 => by
    unfold mv_wt
    rw [if_neg (by omega), if_pos (by omega)]
    by_cases e : k = 0
    · rw [if_pos (by omega)]
    · rw [if_neg (by omega), if_neg (by omega)]
      split <;> rfl
  refine ⟨mv_si (mv_si I 1 (mv_vu (I 1) 3 (nI (C + 1)))) (1 + 4 + 2 * C) (mv_vu (mv_vu (mv_vu (mv_vu (mv_vu (I (1 + 4 + 2 * C)) 1 (nI 0)) 2 (nI 0)) 3 (nI 0)) 4 (nI 0)) 5 (nI 0)), ?_, ⟨?_, fun w hw => ?_, fun c hc => ?_, fun b hb => ?_⟩, mv_fr_trans (mv_fr_si (by omega) (by omega)) (mv_fr_si (by omega) (by omega))⟩
  · have ne : (1 + 4 + 2 * C : Nat) ≠ 1 := by omega
    have eb : F_X1_begin (1 + 4 + 2 * C) (mv_hp h0 (mv_si I 1 (mv_vu (I 1) 3 (nI (C + 1))))) = some ((), mv_hp h0 (mv_si (mv_si I 1 (mv_vu (I 1) 3 (nI (C + 1)))) (1 + 4 + 2 * C) (mv_vu (mv_vu (mv_vu (mv_vu (mv_vu (I (1 + 4 + 2 * C)) 1 (nI 0)) 2 (nI 0)) 3 (nI 0)) 4 (nI 0)) 5 (nI 0)))) := by
      unfold F_X1_begin
      simp (disch := first | assumption | omega) only [li0, ev_sI k1, mv_si_eq, mv_si_si, mv_si_ne ne, ev_pu]
    unfold F_X5_addCarrier J_X5_addCarrier_49
    rw [ro_gI hR, a1, h3, ev_f (nI_pos (by omega)), ro_gI hR, a1, h3, ro_g1 hR, ro_l2 hR, ev_t (nI_lt hC (by omega)), ro_g1 hR, ro_gI hR, a1, h3, ro_a2 hR hC, ro_gI hR, a1, h3, li1, nI_add, ro_sI hR, ev_f (by simp), ev_rc k1, ev_bd eb]
    rfl
  · rw [mv_si_ne (by omega), mv_si_eq, out3, out 4 (by omega) (by omega), out 0 (by omega) (by omega), out 1 (by omega) (by omega), out 2 (by omega) (by omega), out 5 (by omega) (by omega), out 6 (by omega) (by omega), out 7 (by omega) (by omega), out 8 (by omega) (by omega)]
    exact ⟨mv_vu_eq, by rw [mv_vu_ne (by omega)]; exact a2, by rw [mv_vu_ne (by omega)]; exact a3, by rw [mv_vu_ne (by omega)]; exact a4, by rw [mv_vu_ne (by omega)]; exact a5, by rw [mv_vu_ne (by omega)]; exact a6, by rw [mv_vu_ne (by omega)]; exact a7, by rw [mv_vu_ne (by omega)]; exact a8, by rw [mv_vu_ne (by omega)]; exact a9⟩
  · rw [mv_si_ne (by omega), mv_si_ne (by omega), out _ (by omega) (by omega)]; exact w2 w hw
  · unfold mv_RC
    by_cases e : c = C
    · subst e
      rw [mv_si_eq, zer 0 (by omega) (by omega), zer 8 (by omega) (by omega), zer 9 (by omega) (by omega), zer 10 (by omega) (by omega), zer 11 (by omega) (by omega)]
      refine ⟨?_, ?_, ?_, ?_, ?_, fun j h1 h2 => ?_⟩
      · simp (disch := omega) only [mv_vu_ne, mv_vu_eq]
      · simp (disch := omega) only [mv_vu_ne, mv_vu_eq]
      · simp (disch := omega) only [mv_vu_ne, mv_vu_eq]
      · simp (disch := omega) only [mv_vu_ne, mv_vu_eq]
      · simp (disch := omega) only [mv_vu_eq]
      · rw [nI_clamp (by omega)] at h2; omega
    · obtain ⟨q1, q2, q3, q4, q5, q6⟩ := w3 c (by omega)
      rw [mv_si_ne (by omega), mv_si_ne (by omega), mv_si_ne (by omega), mv_si_ne (by omega), out _ (by omega) (by omega), out _ (by omega) (by omega), out _ (by omega) (by omega), out _ (by omega) (by omega), out _ (by omega) (by omega)]
      exact ⟨q1, q2, q3, q4, q5, fun j h1 h2 => by rw [out _ (by omega) (by omega)]; exact q6 j h1 h2⟩
  · obtain ⟨-, z1, z2, -⟩ := hR.2.2.2.2.2.2.2.2.1 b (by omega)
    have := w4 b hb
    unfold mv_RB at this ⊢
    rw [mv_si_ne (by omega), mv_si_ne (by omega), out _ (by omega) (by omega), out _ (by omega) (by omega), out _ (by omega) (by omega), out _ (by omega) (by omega), out _ (by omega) (by omega), out _ (by omega) (by omega), out _ (by omega) (by omega), out _ (by omega) (by omega)]
    exact this
theorem ro_addT (hR : mv_RS h0 1) (hB8 : B ≤ 8) {c i m : Nat} (hc : c < 4) (hm : m < 7) (hW : mv_RV h0 I 1 (mv_wt sg v c i m (nI 0)) (c + 1) B) : ∃ I', F_X1_addTown (1 + 4 + 2 * c) (nI (sg (i + m) - 48)) (mv_hp h0 I) = some ((), mv_hp h0 I') ∧ mv_RV h0 I' 1 (mv_wt sg v c i (m + 1) (nI 0)) (c + 1) B ∧ mv_fr 1 I I' := by
  obtain ⟨k1, k2, k3, k4⟩ := hR.2.2.2.2.2.2.2.1 c hc
  obtain ⟨⟨a1, a2, a3, a4, a5, a6, a7, a8, a9⟩, w2, w3, w4⟩ := hW
  have out : ∀ k, k < 16 + 12 * c ∨ 16 + 12 * c + 12 ≤ k → mv_wt sg v c i (m + 1) (nI 0) k = mv_wt sg v c i m (nI 0) k := fun k h2 => by
    unfold mv_wt
    by_cases e : k = 3
    · rw [if_pos e, if_pos e]
    · rw [if_neg e, if_neg e, if_neg (by omega), if_neg (by omega)]
  have m0 : mv_wt sg v c i m (nI 0) (16 + 12 * c + 0) = nI m := by unfold mv_wt; rw [if_neg (by omega), if_pos (by omega), if_pos (by omega)]
  have m1 : mv_wt sg v c i (m + 1) (nI 0) (16 + 12 * c + 0) = nI (m + 1) := by unfold mv_wt; rw [if_neg (by omega), if_pos (by omega), if_pos (by omega)]
  have hi8 : ∀ k m', 8 ≤ k → k < 12 → m' ≤ 7 → mv_wt sg v c i m' (nI 0) (16 + 12 * c + k) = nI 0 := fun k m' h1 h2 h3 => by
    unfold mv_wt
    rw [if_neg (by omega), if_pos (by omega), if_neg (by omega), if_neg (by omega)]
    split <;> rfl
  have tow : ∀ j m', j < m' → m' ≤ 7 → mv_wt sg v c i m' (nI 0) (16 + 12 * c + (1 + j)) = nI (sg (i + j) - 48) := fun j m' h1 h2 => by
    unfold mv_wt
    rw [if_neg (by omega), if_pos (by omega), if_neg (by omega), if_pos (by omega), show i + (16 + 12 * c + (1 + j) - (16 + 12 * c + 1)) = i + j by omega]
  obtain ⟨q1, q2, q3, q4, q5, q6⟩ := w3 c (by omega)
  rw [m0] at q1 q6
  rw [nI_clamp (by omega)] at q6
  refine ⟨mv_si (mv_si I (1 + 5 + 2 * c) (mv_vu (I (1 + 5 + 2 * c)) m (nI (sg (i + m) - 48)))) (1 + 4 + 2 * c) (mv_vu (I (1 + 4 + 2 * c)) 1 (nI (m + 1))), ?_, ⟨?_, fun w hw => ?_, fun c' hc' => ?_, fun b hb => ?_⟩, mv_fr_trans (mv_fr_si (by omega) (by omega)) (mv_fr_si (by omega) (by omega))⟩
  · unfold F_X1_addTown J_X1_addTown_39
    rw [ev_gI k1, q1, ev_f (nI_pos (by omega)), ev_gI k1, q1, ro_cR hR hc, ro_tl hR hc, ev_f (nI_ge hm (by omega)), ro_cR hR hc, ev_gI k1, q1, ro_ts hR hc hm, ev_gI k1, mv_si_ne (by omega), q1, ev_sI k1, mv_si_ne (show 1 + 4 + 2 * c ≠ 1 + 5 + 2 * c by omega), li1, nI_add]
    rfl
  · rw [mv_si_ne (by omega), mv_si_ne (by omega), out 3 (by omega), out 4 (by omega), out 0 (by omega), out 1 (by omega), out 2 (by omega), out 5 (by omega), out 6 (by omega), out 7 (by omega), out 8 (by omega)]
    exact ⟨a1, a2, a3, a4, a5, a6, a7, a8, a9⟩
  · rw [mv_si_ne (by omega), mv_si_ne (by omega), out _ (by omega)]; exact w2 w hw
  · unfold mv_RC
    by_cases e : c' = c
    · subst e
      rw [mv_si_eq, m1, hi8 8 (m + 1) (by omega) (by omega) (by omega), hi8 9 (m + 1) (by omega) (by omega) (by omega), hi8 10 (m + 1) (by omega) (by omega) (by omega), hi8 11 (m + 1) (by omega) (by omega) (by omega)]
      rw [hi8 8 m (by omega) (by omega) (by omega)] at q2
      rw [hi8 9 m (by omega) (by omega) (by omega)] at q3
      rw [hi8 10 m (by omega) (by omega) (by omega)] at q4
      rw [hi8 11 m (by omega) (by omega) (by omega)] at q5
      refine ⟨mv_vu_eq, by rw [mv_vu_ne (by omega)]; exact q2, by rw [mv_vu_ne (by omega)]; exact q3, by rw [mv_vu_ne (by omega)]; exact q4, by rw [mv_vu_ne (by omega)]; exact q5, fun j h1 h2 => ?_⟩
      rw [nI_clamp (by omega)] at h2
      rw [mv_si_ne (by omega), mv_si_eq, tow j (m + 1) h2 (by omega)]
      by_cases e2 : j = m
      · subst e2; rw [mv_vu_eq]
      · rw [mv_vu_ne e2, q6 j h1 (by omega), tow j m (by omega) (by omega)]
    · obtain ⟨q1, q2, q3, q4, q5, q6⟩ := w3 c' hc'
      rw [mv_si_ne (by omega), mv_si_ne (by omega), mv_si_ne (by omega), mv_si_ne (by omega), out _ (by omega), out _ (by omega), out _ (by omega), out _ (by omega), out _ (by omega)]
      exact ⟨q1, q2, q3, q4, q5, fun j h1 h2 => by rw [out _ (by omega)]; exact q6 j h1 h2⟩
  · obtain ⟨-, z1, z2, -⟩ := hR.2.2.2.2.2.2.2.2.1 b (by omega)
    have := w4 b hb
    unfold mv_RB at this ⊢
    rw [mv_si_ne (by omega), mv_si_ne (by omega), out _ (by omega), out _ (by omega), out _ (by omega), out _ (by omega), out _ (by omega), out _ (by omega), out _ (by omega), out _ (by omega)]
    exact this
theorem ro_rough (hR : mv_RS h0 1) (hB8 : B ≤ 8) {c i m : Nat} (hc : c < 4) (hm : m ≤ 7) {x : Int32} (hW : mv_RV h0 I 1 (mv_wt sg v c i m (nI 0)) (c + 1) B) : ∃ I', (∀ (β : Type) (g : Unit → mv_M β), mv_bd (mv_sI 1 6 2 (some (1 + 4 + 2 * c)) x) g (mv_hp h0 I) = g () (mv_hp h0 I')) ∧ mv_RV h0 I' 1 (mv_wt sg v c i m x) (c + 1) B ∧ mv_fr 1 I I' := by
  obtain ⟨I1, e, W, F⟩ := st_c hR (show c + 1 ≤ 4 by omega) hB8 hW (show c < c + 1 by omega) 2 x (by omega)
  have ee : mv_vu (mv_wt sg v c i m (nI 0)) (16 + 12 * c + (2 + 6)) x = mv_wt sg v c i m x := by
    funext k
    by_cases h : k = 16 + 12 * c + 8
    · subst h
      rw [mv_vu_eq]
      unfold mv_wt
      rw [if_neg (by omega), if_pos (by omega), if_neg (by omega), if_neg (by omega), if_pos rfl]
    · rw [mv_vu_ne h]
      unfold mv_wt
      rw [if_neg h, if_neg h]
  rw [ee] at W
  exact ⟨I1, e, W, F⟩
end U1
