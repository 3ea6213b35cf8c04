theorem mv_SG_congr {I J : Nat → Nat → Int32} {M : Nat} {sg : Nat → Nat} (h1 : J 143 = I 143) (h2 : J 144 = I 144) (h : mv_SG I M sg) : mv_SG J M sg := by
  unfold mv_SG at h ⊢
  rw [h1, h2]; exact h
theorem mv_si_comm {I : Nat → Nat → Int32} {a b : Nat} {f g : Nat → Int32} (h : a ≠ b) : mv_si (mv_si I a f) b g = mv_si (mv_si I b g) a f := by
  funext i
  by_cases h1 : i = a
  · subst h1; rw [mv_si_ne h, mv_si_eq, mv_si_eq]
  · by_cases h2 : i = b
    · subst h2; rw [mv_si_eq, mv_si_ne h1, mv_si_eq]
    · rw [mv_si_ne h2, mv_si_ne h1, mv_si_ne h1, mv_si_ne h2]
theorem mv_gx_le {sg : Nat → Nat} {M s : Nat} {fa : Nat → Option Nat} {en : Nat → Nat} (h1 : ∀ i p, fa i = some p → p ≤ i + 8) (h2 : ∀ i, fa i = none → en i ≤ M) : ∀ f i p, i ≤ M → (mv_gx fa en s sg M f i).1 = some p → p ≤ M + 8
  | 0, i, p, hi, h => by have : i = p := Option.some.inj h; omega
  | f + 1, i, p, hi, h => by
    rw [mv_gx] at h
    cases hfa : fa i with
    | some q =>
      rw [hfa] at h
      have e : q = p := Option.some.inj h
      have := h1 i q hfa
      omega
    | none =>
      rw [hfa] at h
      dsimp only at h
      have := h2 i hfa
      by_cases hE : M ≤ en i
      · rw [if_pos hE] at h; cases h
      · rw [if_neg hE] at h
        by_cases hs : sg (en i) = s
        · rw [if_pos hs] at h
          exact mv_gx_le h1 h2 f (en i + 1) p (by omega) h
        · rw [if_neg hs] at h
          have : en i = p := Option.some.inj h
          omega
theorem mv_tv_VV {sg : Nat → Nat} {M B D : Nat} (hin : ∀ k, sg k ≠ 0 → k < M) : ∀ (f i K C : Nat) (v : Nat → Int32), mv_gx (mv_faT sg) (mv_en sg) 59 sg M f i = (none, K) → C + K ≤ 4 → mv_VV v C B D → mv_PV v B → mv_VV (mv_tv sg K v C i) (C + K) B D ∧ mv_PV (mv_tv sg K v C i) B
  | 0, i, K, C, v, h, _, _, _ => by cases h
  | f + 1, i, K, C, v, h, hC, hV, hP => by
    rw [mv_gx] at h
    cases hfa : mv_faT sg i with
    | some p => rw [hfa] at h; cases h
    | none =>
      rw [hfa] at h
      dsimp only at h
      obtain ⟨h1, h2, h3, h4⟩ := mv_enT hin hfa
      by_cases hE : M ≤ mv_en sg i
      · rw [if_pos hE] at h
        have hK : 1 = K := (Prod.mk.inj h).2
        subst hK
        exact ⟨mv_VV_ac hV (by omega) h3, mv_PV_ac (by omega) hP⟩
      · rw [if_neg hE] at h
        by_cases hs : sg (mv_en sg i) = 59
        · rw [if_pos hs] at h
          have hh := Prod.mk.inj h
          obtain ⟨K, rfl⟩ := Nat.exists_eq_succ_of_ne_zero (show K ≠ 0 by omega)
          have hK : (mv_gx (mv_faT sg) (mv_en sg) 59 sg M f (mv_en sg i + 1)).2 = K := by omega
          have := mv_tv_VV hin f (mv_en sg i + 1) K (C + 1) (mv_ac sg v C i) (Prod.ext hh.1 hK) (by omega) (mv_VV_ac hV (by omega) h3) (mv_PV_ac (by omega) hP)
          rw [show C + 1 + K = C + (K + 1) by omega] at this
          exact this
        · rw [if_neg hs] at h; cases h
section U2
variable {h0 : mv_Hp} {I : Nat → Nat → Int32} {C B D M : Nat} {v : Nat → Int32} {sg : Nat → Nat}
theorem xo_padLoop (hS : mv_CS h0) (hB8 : B ≤ 8) (hs : mv_SG I M sg) : ∀ (f i K c n : Nat) (v : Nat → Int32) (J : Nat → Nat → Int32), mv_gx (mv_faT sg) (mv_en sg) 59 sg M f i = (none, K) → i ≤ M → c + K ≤ 4 → M - i < n → mv_fr 1 I J → mv_RV h0 J 1 (mv_wt sg v c i 0 (nI 0)) (c + 1) B → ∃ J', Lp_X6_addCarriersOfPad_10 0 n (some (1 + 4 + 2 * c)) (nI i) (mv_hp h0 J) = some ((), mv_hp h0 J') ∧ mv_RV h0 J' 1 (mv_tv sg K v c i) (c + K) B ∧ mv_fr 1 I J' := by
  have hp := mv_PS_of hS
  have hR := xo_R1 hS
  have h60 := hs.2.1
  have hsl := mv_sg_lt hs
  have hin : ∀ k, sg k ≠ 0 → k < M := fun k hk => mv_sg_in hs hk
  have hsJ : ∀ J, mv_fr 1 I J → mv_SG J M sg := fun J hJ => mv_SG_congr (hJ 143 (by omega) (by omega) (by omega)) (hJ 144 (by omega) (by omega) (by omega)) hs
  intro f
  induction f with
  | zero => intro i K c n v J h; cases h
  | succ f ih =>
    intro i K c n v J h hi hcK hn hF hW
    rw [mv_gx] at h
    cases hfa : mv_faT sg i with
    | some p => rw [hfa] at h; cases h
    | none =>
      rw [hfa] at h
      dsimp only at h
      obtain ⟨h1, h2, h3, h4⟩ := mv_enT hin hfa
      have hn7 : mv_nT sg i ≤ 7 := mv_tn_le sg 7 i
      have hK1 : 1 ≤ K := by
        by_cases hE : M ≤ mv_en sg i
        · rw [if_pos hE] at h; have : 1 = K := (Prod.mk.inj h).2; omega
        · rw [if_neg hE] at h
          by_cases hs : sg (mv_en sg i) = 59
          · rw [if_pos hs] at h
            have := (Prod.mk.inj h).2
            omega
          · rw [if_neg hs] at h; cases h
      have hc4 : c < 4 := by omega
      have k1 := (hR.2.2.2.2.2.2.2.1 c hc4).1
      -- the towns
      have towns : ∀ (k m n : Nat) (J : Nat → Nat → Int32), m + k = mv_nT sg i → M - (i + m) < n → mv_fr 1 I J → mv_RV h0 J 1 (mv_wt sg v c i m (nI 0)) (c + 1) B → ∃ J2 n2, Lp_X6_addCarriersOfPad_10 0 n (some (1 + 4 + 2 * c)) (nI (i + m)) (mv_hp h0 J) = Lp_X6_addCarriersOfPad_10 0 n2 (some (1 + 4 + 2 * c)) (nI (i + mv_nT sg i)) (mv_hp h0 J2) ∧ M - (i + mv_nT sg i) < n2 ∧ mv_fr 1 I J2 ∧ mv_RV h0 J2 1 (mv_wt sg v c i (mv_nT sg i) (nI 0)) (c + 1) B := by
        intro k
        induction k with
        | zero =>
          intro m n J hm hn hF hW
          have : m = mv_nT sg i := by omega
          subst this
          exact ⟨J, n, rfl, hn, hF, hW⟩
        | succ k ihk =>
          intro m n J hm hn hF hW
          have hT := mv_tn_T sg 7 i m (show m < mv_nT sg i by omega)
          have hT2 : 48 ≤ sg (i + m) ∧ sg (i + m) ≤ 53 := by unfold mv_T at hT; simpa using hT
          have hlt := hin (i + m) (by omega)
          obtain ⟨n, rfl⟩ := Nat.exists_eq_succ_of_ne_zero (show n ≠ 0 by omega)
          obtain ⟨J1, e1, W1, F1⟩ := ro_addT (sg := sg) (v := v) hR hB8 hc4 (show m < 7 by omega) hW
          obtain ⟨J2, n2, e2, b1, b2, b3⟩ := ihk (m + 1) n J1 (by omega) (by omega) (mv_fr_trans hF F1) W1
          refine ⟨J2, n2, ?_, b1, b2, b3⟩
          rw [← e2, Lp_X6_addCarriersOfPad_10]
          unfold J_X6_addCarriersOfPad_86
          rw [xo_g4 hS, pa_gI hp, (hsJ J hF).1, ev_f (nI_ge hlt (by omega)), ev_f (by simp), xo_g4 hS, pa_rc hp, pa_signAt' hp (hsJ J hF) (by omega), li59, ev_f (fun z => by have := (mv_eq (by omega) (by omega)).mp z; omega), li42, ev_f (fun z => by have := (mv_eq (by omega) (by omega)).mp z; omega), li48, pk_sub hT2.1, ev_rc k1, ev_bd e1, li1, nI_add]
          rfl
      obtain ⟨J2, n2, e2', b1, b2, b3⟩ := towns (mv_nT sg i) 0 n J (by omega) (by omega) hF hW
      have e2 : Lp_X6_addCarriersOfPad_10 0 n (some (1 + 4 + 2 * c)) (nI i) (mv_hp h0 J) = Lp_X6_addCarriersOfPad_10 0 n2 (some (1 + 4 + 2 * c)) (nI (i + mv_nT sg i)) (mv_hp h0 J2) := e2'
      -- how rough
      have rgh : ∃ J3 n3, Lp_X6_addCarriersOfPad_10 0 n2 (some (1 + 4 + 2 * c)) (nI (i + mv_nT sg i)) (mv_hp h0 J2) = Lp_X6_addCarriersOfPad_10 0 n3 (some (1 + 4 + 2 * c)) (nI (mv_en sg i)) (mv_hp h0 J3) ∧ M - mv_en sg i < n3 ∧ mv_fr 1 I J3 ∧ mv_RV h0 J3 1 (mv_ac sg v c i) (c + 1) B := by
        by_cases h42 : sg (i + mv_nT sg i) = 42
        · have hlt := hin (i + mv_nT sg i) (by omega)
          have hdg := h4 h42
          have hge : 48 ≤ sg (i + mv_nT sg i + 1) := by unfold mv_Dg at hdg; simp at hdg; omega
          have hen : mv_en sg i = i + mv_nT sg i + 2 := by unfold mv_en; rw [if_pos h42]
          have hrg : mv_rg sg i = sg (i + mv_nT sg i + 1) - 48 := by unfold mv_rg; rw [if_pos h42]
          obtain ⟨n2, rfl⟩ := Nat.exists_eq_succ_of_ne_zero (show n2 ≠ 0 by omega)
          obtain ⟨J3, e3, W3, F3⟩ := ro_rough (x := nI (mv_rg sg i)) hR hB8 hc4 hn7 b3
          refine ⟨J3, n2, ?_, by omega, mv_fr_trans b2 F3, W3⟩
          rw [Lp_X6_addCarriersOfPad_10]
          unfold J_X6_addCarriersOfPad_86
          rw [xo_g4 hS, pa_gI hp, (hsJ J2 b2).1, ev_f (nI_ge hlt (by omega)), ev_f (by simp), xo_g4 hS, pa_rc hp, pa_signAt' hp (hsJ J2 b2) (by omega), li59, h42, ev_f (fun z => by have := (mv_eq (by omega) (by omega)).mp z; omega), li42, ev_t rfl, xo_g4 hS, pa_rc hp, li1, nI_add, pa_signAt' hp (hsJ J2 b2) (by omega), li48, pk_sub hge, ← hrg, e3, nI_add, hen]
        · have hen : mv_en sg i = i + mv_nT sg i := by unfold mv_en; rw [if_neg h42]
          have hrg : mv_rg sg i = 0 := by unfold mv_rg; rw [if_neg h42]
          refine ⟨J2, n2, by rw [hen], by rw [hen]; exact b1, b2, ?_⟩
          rw [← mv_wt_ac, hrg]; exact b3
      obtain ⟨J3, n3, e3, c1, c2, c3⟩ := rgh
      rw [e2, e3]
      obtain ⟨n3, rfl⟩ := Nat.exists_eq_succ_of_ne_zero (show n3 ≠ 0 by omega)
      rw [Nat.succ_eq_add_one, Lp_X6_addCarriersOfPad_10]
      unfold J_X6_addCarriersOfPad_92 J_X6_addCarriersOfPad_86
      rw [xo_g4 hS, pa_gI hp, (hsJ J3 c2).1]
      by_cases hE : M ≤ mv_en sg i
      · rw [if_pos hE] at h
        have hK : 1 = K := (Prod.mk.inj h).2
        subst hK
        rw [ev_t (nI_le hE (by omega))]
        exact ⟨J3, rfl, c3, c2⟩
      · rw [if_neg hE] at h
        by_cases h59 : sg (mv_en sg i) = 59
        · rw [if_pos h59] at h
          have hh := Prod.mk.inj h
          obtain ⟨K, rfl⟩ := Nat.exists_eq_succ_of_ne_zero (show K ≠ 0 by omega)
          have hK : (mv_gx (mv_faT sg) (mv_en sg) 59 sg M f (mv_en sg i + 1)).2 = K := by omega
          have hKp := (mv_cnt_gx (fa := mv_faT sg) (en := mv_en sg) (s := 59) (sg := sg) (M := M) (fun i h => by
            obtain ⟨z1, z2, z3, z4⟩ := mv_enT hin h
            refine ⟨z1, z2, fun j w1 w2 => ?_⟩
            by_cases q : j < i + mv_nT sg i
            · have := mv_tn_T sg 7 i (j - i) (show j - i < mv_nT sg i by omega)
              rw [show i + (j - i) = j by omega] at this
              unfold mv_T at this; simp at this; omega
            · unfold mv_en at w2
              by_cases h42 : sg (i + mv_nT sg i) = 42
              · rw [if_pos h42] at w2
                by_cases q2 : j = i + mv_nT sg i
                · rw [q2, h42]; omega
                · have : j = i + mv_nT sg i + 1 := by omega
                  rw [this]
                  have := z4 h42
                  unfold mv_Dg at this; simp at this; omega
              · rw [if_neg h42] at w2; omega) f (mv_en sg i + 1) K (by omega) (Prod.ext hh.1 hK)).1
          obtain ⟨J4, e4, W4, F4⟩ := ro_addC (sg := sg) (i := mv_en sg i + 1) hR c3 hB8 (show mv_ac sg v c i 3 = nI (c + 1) by unfold mv_ac; rw [if_pos rfl]) (by omega)
          obtain ⟨J5, e5, W5, F5⟩ := ih (mv_en sg i + 1) K (c + 1) n3 (mv_ac sg v c i) J4 (Prod.ext hh.1 hK) (by omega) (by omega) (by omega) (mv_fr_trans c2 F4) W4
          rw [show c + 1 + K = c + (K + 1) by omega] at W5
          refine ⟨J5, ?_, W5, F5⟩
          rw [ev_f (nI_ge (by omega) (by omega)), ev_f (by simp), xo_g4 hS, pa_rc hp, pa_signAt' hp (hsJ J3 c2) (by omega), h59, li59, ev_t rfl, xo_g0 hS, ro_rc hR, ev_bd e4, li1, nI_add]
          exact e5
        · rw [if_neg h59] at h; cases h
theorem xo_pad (hS : mv_CS h0) (hW : mv_RV h0 I 1 v C B) (hV : mv_VV v C B D) (hs : mv_SG I M sg) {K : Nat} (hg : mv_tx sg M 100 0 = (none, K)) (hK : 1 ≤ K) (hCK : C + K ≤ 4) : ∃ I', F_X6_addCarriersOfPad 0 (mv_hp h0 I) = some ((), mv_hp h0 I') ∧ mv_RV h0 I' 1 (mv_tv sg K v C 0) (C + K) B ∧ mv_fr 1 I I' := by
  have hB8 := hV.2.2.2.2.1
  have h60 := hs.2.1
  obtain ⟨I1, e1, W1, F1⟩ := ro_addC (sg := sg) (i := 0) (xo_R1 hS) hW hB8 hV.2.1 (by omega)
  obtain ⟨I2, e2, W2, F2⟩ := xo_padLoop hS hB8 hs 100 0 K C mv_FU v I1 (by rw [← mv_tx_gx]; exact hg) (by omega) hCK (by show M - 0 < 1000; omega) F1 W1
  refine ⟨I2, ?_, W2, F2⟩
  unfold F_X6_addCarriersOfPad
  rw [xo_g0 hS, ro_rc (xo_R1 hS), ev_bd e1, li0, e2]
/-- the reference's carriers out of what it has read -/
def mv_ai (sg : Nat → Nat) (u : Nat → Int32) (c i x : Nat) : Nat → Int32 := fun k => if 16 + 12 * c ≤ k ∧ k < 16 + 12 * c + x then mv_ac sg u c i k else u k
theorem mv_ai_s {u : Nat → Int32} {c i x : Nat} : mv_vu (mv_ai sg u c i x) (16 + 12 * c + x) (mv_ac sg u c i (16 + 12 * c + x)) = mv_ai sg u c i (x + 1) := by
  funext k
  by_cases h : k = 16 + 12 * c + x
  · subst h; rw [mv_vu_eq]; unfold mv_ai; rw [if_pos (by omega)]
  · rw [mv_vu_ne h]
    unfold mv_ai
    by_cases h2 : 16 + 12 * c ≤ k ∧ k < 16 + 12 * c + x
    · rw [if_pos h2, if_pos (by omega)]
    · rw [if_neg h2, if_neg (by omega)]
end U2
