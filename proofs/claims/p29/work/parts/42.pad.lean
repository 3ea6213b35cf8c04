/-! texts: the signs by places, 0 behind the last -/
def mv_SG (I : Nat → Nat → Int32) (M : Nat) (sg : Nat → Nat) : Prop := I 143 1 = nI M ∧ M ≤ 60 ∧ (∀ k, k < M → 33 ≤ sg k ∧ sg k ≤ 126 ∧ I 144 k = nI (sg k)) ∧ ∀ k, M ≤ k → sg k = 0
theorem mv_SG_of {I : Nat → Nat → Int32} {M : Nat} {pd : Nat → Int32} (h : mv_PD I M pd) : ∃ sg, mv_SG I M sg ∧ ∀ k, k < M → pd k = nI (sg k) := by
  obtain ⟨h1, h2, h3⟩ := h
  refine ⟨fun k => if k < M then (pd k).toNatClampNeg else 0, ⟨h1, h2, fun k hk => ?_, fun k hk => if_neg (by omega)⟩, fun k hk => ?_⟩
  · obtain ⟨s, s1, s2, s3, s4⟩ := h3 k hk
    dsimp only
    rw [if_pos hk, s4, nI_clamp (by omega)]
    exact ⟨s1, s2, s3⟩
  · obtain ⟨s, s1, s2, s3, s4⟩ := h3 k hk
    dsimp only
    rw [if_pos hk, s4, nI_clamp (by omega)]
theorem mv_sg_lt {I : Nat → Nat → Int32} {M : Nat} {sg : Nat → Nat} (h : mv_SG I M sg) (k : Nat) : sg k ≤ 126 := by
  by_cases hk : k < M
  · exact (h.2.2.1 k hk).2.1
  · rw [h.2.2.2 k (by omega)]; omega
theorem mv_sg_in {I : Nat → Nat → Int32} {M : Nat} {sg : Nat → Nat} (h : mv_SG I M sg) {k : Nat} (hk : sg k ≠ 0) : k < M := by
  apply Classical.byContradiction
  intro z
  exact hk (h.2.2.2 k (by omega))
def mv_PS (h0 : mv_Hp) : Prop := h0.1[143]? = some (4, 2) ∧ h0.1[144]? = some (8, 60) ∧ h0.2.2.2 143 0 = some 144
theorem mv_PS_of {h0 : mv_Hp} (hS : mv_CS h0) : mv_PS h0 := ⟨by rw [hS.1]; rfl, by rw [hS.1]; rfl, hS.2.2.2.2.2.1⟩
section Q1
variable {β : Type} {h0 : mv_Hp} {I : Nat → Nat → Int32} {M : Nat} {sg : Nat → Nat}
theorem pa_rc {g : Nat → mv_M β} (hp : mv_PS h0) : mv_bd (mv_rc 4 2 (some 143)) g (mv_hp h0 I) = g 143 (mv_hp h0 I) := ev_rc hp.1
theorem pa_gI {k : Nat} {g : Int32 → mv_M β} (hp : mv_PS h0) : mv_bd (mv_gI 4 2 k (some 143)) g (mv_hp h0 I) = g (I 143 k) (mv_hp h0 I) := ev_gI hp.1
theorem pa_sI {k : Nat} {x : Int32} {g : Unit → mv_M β} (hp : mv_PS h0) : mv_bd (mv_sI 4 2 k (some 143) x) g (mv_hp h0 I) = g () (mv_hp h0 (mv_si I 143 (mv_vu (I 143) k x))) := ev_sI hp.1
theorem pa_g0 {g : Option Nat → mv_M β} (hp : mv_PS h0) : mv_bd (mv_gR 4 2 0 (some 143)) g (mv_hp h0 I) = g (some 144) (mv_hp h0 I) := (ev_gR hp.1).trans (by rw [hp.2.2])
theorem pa_l {g : Int32 → mv_M β} (hp : mv_PS h0) : mv_bd (mv_aL (some 144)) g (mv_hp h0 I) = g (nI 60) (mv_hp h0 I) := ev_aL hp.2.1 (by decide)
theorem pa_a {k : Nat} {g : Int32 → mv_M β} (hp : mv_PS h0) (hk : k < 60) : mv_bd (mv_aI (some 144) (nI k)) g (mv_hp h0 I) = g (I 144 k) (mv_hp h0 I) := ev_aI hp.2.1 hk (by omega)
theorem pa_s {k : Nat} {x : Int32} {g : Unit → mv_M β} (hp : mv_PS h0) (hk : k < 60) : mv_bd (mv_aS (some 144) (nI k) x) g (mv_hp h0 I) = g () (mv_hp h0 (mv_si I 144 (mv_vu (I 144) k x))) := ev_aS hp.2.1 hk (by omega)
theorem pa_signAt' (hp : mv_PS h0) (hs : mv_SG I M sg) {k : Nat} {g : Int32 → mv_M β} (hk : k < 2 ^ 30) : mv_bd (F_X4_signAt 143 (nI k)) g (mv_hp h0 I) = g (nI (sg k)) (mv_hp h0 I) := ev_bd (by
  have h60 := hs.2.1
  unfold F_X4_signAt J_X4_signAt_30 J_X4_signAt_31
  rw [ev_f (nI_pos (by omega)), pa_gI hp, hs.1]
  by_cases h : k < M
  · rw [ev_f (nI_ge h (by omega)), pa_g0 hp, pa_l hp, ev_f (nI_ge (by omega) (by omega)), pa_g0 hp, pa_a hp (by omega), (hs.2.2.1 k h).2.2]; rfl
  · rw [ev_t (nI_le (by omega) (by omega)), hs.2.2.2 k (by omega)]; rfl)
def mv_T (s : Nat) : Bool := decide (48 ≤ s) && decide (s ≤ 53)
def mv_Dg (s : Nat) : Bool := decide (48 ≤ s) && decide (s ≤ 57)
theorem pa_isTown' {s : Nat} {h : mv_Hp} {g : Int32 → mv_M β} (hs : s ≤ 126) : mv_bd (F_X4_isTown (nI s)) g h = g (nI (if mv_T s = true then 1 else 0)) h := ev_bd (by
  unfold F_X4_isTown J_X4_isTown_16 J_X4_isTown_17
  rw [li48, li54]
  by_cases h1 : s < 48
  · rw [ev_t (nI_lt h1 (by omega)), ev_rz (Or.inl rfl), if_neg (by unfold mv_T; simp; omega)]; rfl
  · rw [ev_f (nI_nlt (by omega) (by omega))]
    by_cases h2 : 54 ≤ s
    · rw [ev_t (nI_le h2 (by omega)), ev_rz (Or.inl rfl), if_neg (by unfold mv_T; simp; omega)]; rfl
    · rw [ev_f (nI_ge (by omega) (by omega)), ev_rz (Or.inr rfl), if_pos (by unfold mv_T; simp; omega)]; rfl)
/-- the reading of a tour: its state behind a sign -/
def mv_tst (q s : Nat) : Int32 := if q = 8 then (if mv_Dg s = true then nI 9 else mv_n1) else if s = 59 then (if q = 0 then mv_n1 else nI 0) else if s = 42 then (if q = 0 ∨ q = 9 then mv_n1 else nI 8) else if mv_T s = true ∧ q < 7 then nI (q + 1) else mv_n1
theorem pa_read' {q s : Nat} {h : mv_Hp} {g : Int32 → mv_M β} (hq : q ≤ 9) (hs : s ≤ 126) : mv_bd (F_X4_readTourSign (nI q) (nI s)) g h = g (mv_tst q s) h := ev_bd (by
  unfold F_X4_readTourSign J_X4_readTourSign_23 J_X4_readTourSign_24 J_X4_readTourSign_40 J_X4_readTourSign_57 J_X4_readTourSign_63 J_X4_readTourSign_83 J_X4_readTourSign_84 mv_tst
  rw [li8, li48, li57, li59, li42, li9, li7]
  by_cases h8 : q = 8
  · rw [ev_t (by rw [h8]), if_pos h8]
    by_cases h1 : s < 48
    · rw [ev_t (nI_lt h1 (by omega)), if_neg (by unfold mv_Dg; simp; omega)]; rfl
    · rw [ev_f (nI_nlt (by omega) (by omega))]
      by_cases h2 : 57 < s
      · rw [ev_t (nI_lt h2 (by omega)), if_neg (by unfold mv_Dg; simp; omega)]; rfl
      · rw [ev_f (nI_nlt (by omega) (by omega)), if_pos (by unfold mv_Dg; simp; omega)]; rfl
  · rw [ev_f (fun z => h8 ((mv_eq (by omega) (by omega)).mp z)), if_neg h8]
    by_cases h59 : s = 59
    · rw [ev_t (by rw [h59]), if_pos h59]
      by_cases h0 : q = 0
      · rw [ev_t (by rw [h0]; rfl), if_pos h0]; rfl
      · rw [ev_f (fun z => h0 ((mv_eq0 (by omega)).mp z)), if_neg h0]; rfl
    · rw [ev_f (fun z => h59 ((mv_eq (by omega) (by omega)).mp z)), if_neg h59]
      by_cases h42 : s = 42
      · rw [ev_t (by rw [h42]), if_pos h42]
        by_cases h0 : q = 0
        · rw [ev_t (by rw [h0]; rfl), if_pos (Or.inl h0)]; rfl
        · rw [ev_f (fun z => h0 ((mv_eq0 (by omega)).mp z))]
          by_cases h9 : q = 9
          · rw [ev_t (by rw [h9]), if_pos (Or.inr h9)]; rfl
          · rw [ev_f (fun z => h9 ((mv_eq (by omega) (by omega)).mp z)), if_neg (by omega)]; rfl
      · rw [ev_f (fun z => h42 ((mv_eq (by omega) (by omega)).mp z)), if_neg h42, pa_isTown' hs]
        by_cases hT : mv_T s = true
        · rw [if_pos hT, ev_f (by decide)]
          by_cases h7 : q < 7
          · rw [ev_f (nI_ge h7 (by omega)), if_pos ⟨hT, h7⟩, li1, nI_add]; rfl
          · rw [ev_t (nI_le (by omega) (by omega)), if_neg (fun z => h7 z.2)]; rfl
        · rw [if_neg hT, ev_t mv_z0, if_neg (fun z => hT z.1)]; rfl)
/-- towns from a place on, of n at most; where a tour ends; how rough -/
def mv_tn (sg : Nat → Nat) : Nat → Nat → Nat
  | 0, _ => 0
  | n + 1, i => if mv_T (sg i) = true then mv_tn sg n (i + 1) + 1 else 0
def mv_nT (sg : Nat → Nat) (i : Nat) : Nat := mv_tn sg 7 i
def mv_en (sg : Nat → Nat) (i : Nat) : Nat := if sg (i + mv_nT sg i) = 42 then i + mv_nT sg i + 2 else i + mv_nT sg i
def mv_rg (sg : Nat → Nat) (i : Nat) : Nat := if sg (i + mv_nT sg i) = 42 then sg (i + mv_nT sg i + 1) - 48 else 0
theorem mv_tn_le (sg : Nat → Nat) : ∀ n i, mv_tn sg n i ≤ n
  | 0, _ => Nat.le_refl _
  | n + 1, i => by
    unfold mv_tn
    split
    · have := mv_tn_le sg n (i + 1); omega
    · omega
theorem mv_tn_T (sg : Nat → Nat) : ∀ n i j, j < mv_tn sg n i → mv_T (sg (i + j)) = true
  | 0, _, _, h => by unfold mv_tn at h; omega
  | n + 1, i, j, h => by
    unfold mv_tn at h
    by_cases hT : mv_T (sg i) = true
    · rw [if_pos hT] at h
      cases j with
      | zero => exact hT
      | succ j =>
        have := mv_tn_T sg n (i + 1) j (by omega)
        rw [show i + (j + 1) = i + 1 + j by omega]; exact this
    · rw [if_neg hT] at h; omega
theorem mv_tn_max (sg : Nat → Nat) : ∀ n i, mv_tn sg n i < n → ¬ mv_T (sg (i + mv_tn sg n i)) = true
  | 0, _, h => by omega
  | n + 1, i, h => by
    by_cases hT : mv_T (sg i) = true
    · have e : mv_tn sg (n + 1) i = mv_tn sg n (i + 1) + 1 := by rw [mv_tn, if_pos hT]
      rw [e] at h ⊢
      have := mv_tn_max sg n (i + 1) (by omega)
      rw [show i + (mv_tn sg n (i + 1) + 1) = i + 1 + mv_tn sg n (i + 1) by omega]; exact this
    · have e : mv_tn sg (n + 1) i = 0 := by rw [mv_tn, if_neg hT]
      rw [e]; exact hT
def mv_tx (sg : Nat → Nat) (M : Nat) : Nat → Nat → Option Nat × Nat
  | 0, i => (some i, 0)
  | f + 1, i =>
    if mv_nT sg i = 0 then (some i, 0)
    else if sg (i + mv_nT sg i) = 42 ∧ ¬ mv_Dg (sg (i + mv_nT sg i + 1)) = true then (some (i + mv_nT sg i + 1), 0)
    else if M ≤ mv_en sg i then (none, 1)
    else if sg (mv_en sg i) = 59 then ((mv_tx sg M f (mv_en sg i + 1)).1, (mv_tx sg M f (mv_en sg i + 1)).2 + 1)
    else (some (mv_en sg i), 0)
def mv_fv (o : Option Nat) : Int32 := match o with
  | none => mv_n4
  | some p => nI p
theorem pa_tours (hp : mv_PS h0) (hs : mv_SG I M sg) : F_X4_faultAsTours 143 (mv_hp h0 I) = some (mv_fv (mv_tx sg M 100 0).1, mv_hp h0 I) := by
  have h60 := hs.2.1
  have step : ∀ n q i, q ≤ 9 → i < M → ¬ mv_tst q (sg i) = mv_n1 → Lp_X4_faultAsTours_4 143 (n + 1) (nI q) (nI i) (mv_hp h0 I) = Lp_X4_faultAsTours_4 143 n (mv_tst q (sg i)) (nI (i + 1)) (mv_hp h0 I) := by
    intro n q i hq hi h
    rw [Lp_X4_faultAsTours_4, pa_gI hp, hs.1, ev_f (nI_ge hi (by omega)), pa_rc hp, pa_signAt' hp hs (by omega), pa_read' hq (mv_sg_lt hs i), li1, lin1, ev_f h, nI_add]
  have wrong : ∀ n q i, q ≤ 9 → i < M → mv_tst q (sg i) = mv_n1 → Lp_X4_faultAsTours_4 143 (n + 1) (nI q) (nI i) (mv_hp h0 I) = some (nI i, mv_hp h0 I) := by
    intro n q i hq hi h
    rw [Lp_X4_faultAsTours_4, pa_gI hp, hs.1, ev_f (nI_ge hi (by omega)), pa_rc hp, pa_signAt' hp hs (by omega), pa_read' hq (mv_sg_lt hs i), li1, lin1, ev_t h]
    rfl
  have atEnd : ∀ n q, q ≤ 9 → Lp_X4_faultAsTours_4 143 (n + 1) (nI q) (nI M) (mv_hp h0 I) = some (if q = 0 ∨ q = 8 then nI M else mv_n4, mv_hp h0 I) := by
    intro n q hq
    rw [Lp_X4_faultAsTours_4, pa_gI hp, hs.1, ev_t (nI_le (Nat.le_refl _) (by omega))]
    unfold J_X4_faultAsTours_45 J_X4_faultAsTours_54
    rw [li8]
    by_cases z0 : q = 0
    · rw [ev_t (by rw [z0]; rfl), pa_gI hp, hs.1, if_pos (Or.inl z0)]; rfl
    · rw [ev_f (fun z => z0 ((mv_eq0 (by omega)).mp z))]
      by_cases z8 : q = 8
      · rw [ev_t (by rw [z8]), pa_gI hp, hs.1, if_pos (Or.inr z8)]; rfl
      · rw [ev_f (fun z => z8 ((mv_eq (by omega) (by omega)).mp z)), if_neg (by omega)]; rfl
  have towns : ∀ k q i n, k + q = 7 → M - i < n → ∃ n', M - (i + mv_tn sg k i) < n' ∧ Lp_X4_faultAsTours_4 143 n (nI q) (nI i) (mv_hp h0 I) = Lp_X4_faultAsTours_4 143 n' (nI (q + mv_tn sg k i)) (nI (i + mv_tn sg k i)) (mv_hp h0 I) := by
    intro k
    induction k with
    | zero => intro q i n hq hn; exact ⟨n, hn, rfl⟩
    | succ k ih =>
      intro q i n hq hn
      by_cases hT : mv_T (sg i) = true
      · have e : mv_tn sg (k + 1) i = mv_tn sg k (i + 1) + 1 := by rw [mv_tn, if_pos hT]
        have hi : i < M := mv_sg_in hs (fun z => by rw [z] at hT; exact absurd hT (by decide))
        obtain ⟨n, rfl⟩ := Nat.exists_eq_succ_of_ne_zero (show n ≠ 0 by omega)
        obtain ⟨n', a1, a2⟩ := ih (q + 1) (i + 1) n (by omega) (by omega)
        have hT2 : 48 ≤ sg i ∧ sg i ≤ 53 := by unfold mv_T at hT; simpa using hT
        have ets : mv_tst q (sg i) = nI (q + 1) := by
          unfold mv_tst
          rw [if_neg (by omega), if_neg (by omega), if_neg (by omega), if_pos ⟨hT, by omega⟩]
        rw [e, show i + (mv_tn sg k (i + 1) + 1) = i + 1 + mv_tn sg k (i + 1) by omega, show q + (mv_tn sg k (i + 1) + 1) = q + 1 + mv_tn sg k (i + 1) by omega]
        refine ⟨n', a1, ?_⟩
        rw [Nat.succ_eq_add_one, step n q i (by omega) hi (by rw [ets]; exact mv_n1_ne (by omega)), ets, a2]
      · have e : mv_tn sg (k + 1) i = 0 := by rw [mv_tn, if_neg hT]
        rw [e]; exact ⟨n, hn, rfl⟩
  have main : ∀ f i n, M - i < f → i ≤ M → M - i < n → Lp_X4_faultAsTours_4 143 n (nI 0) (nI i) (mv_hp h0 I) = some (mv_fv (mv_tx sg M f i).1, mv_hp h0 I) := by
    intro f
    induction f with
    | zero => intro i n hf; omega
    | succ f ih =>
      intro i n hf hiM hn
      obtain ⟨n1, a1, a2⟩ := towns 7 0 i n (by omega) hn
      have hm7 := mv_tn_le sg 7 i
      rw [a2, Nat.zero_add]
      rw [show mv_tn sg 7 i = mv_nT sg i from rfl] at hm7 a1 ⊢
      rw [mv_tx]
      obtain ⟨n1, rfl⟩ := Nat.exists_eq_succ_of_ne_zero (show n1 ≠ 0 by omega)
      rw [Nat.succ_eq_add_one] at a1 ⊢
      by_cases h0' : mv_nT sg i = 0
      · rw [if_pos h0', h0', Nat.add_zero]
        by_cases hi : i < M
        · refine wrong n1 0 i (by omega) hi ?_
          have hnT : ¬ mv_T (sg i) = true := by
            have := mv_tn_max sg 7 i (by rw [show mv_tn sg 7 i = mv_nT sg i from rfl, h0']; omega)
            rw [show mv_tn sg 7 i = mv_nT sg i from rfl, h0', Nat.add_zero] at this
            exact this
          unfold mv_tst
          rw [if_neg (by omega)]
          by_cases g59 : sg i = 59
          · rw [if_pos g59, if_pos rfl]
          · rw [if_neg g59]
            by_cases g42 : sg i = 42
            · rw [if_pos g42, if_pos (Or.inl rfl)]
            · rw [if_neg g42, if_neg (fun z => hnT z.1)]
        · have : i = M := by omega
          subst this
          show Lp_X4_faultAsTours_4 143 (n1 + 1) (nI 0) (nI i) (mv_hp h0 I) = _
          rw [atEnd n1 0 (by omega), if_pos (Or.inl rfl)]; rfl
      · rw [if_neg h0']
        have hjM : i + mv_nT sg i ≤ M := by
          have h1 := mv_tn_T sg 7 i (mv_nT sg i - 1) (by show mv_nT sg i - 1 < mv_nT sg i; omega)
          have := mv_sg_in hs (k := i + (mv_nT sg i - 1)) (fun z => by rw [z] at h1; exact absurd h1 (by decide))
          omega
        have tail : ∀ q e n, (q = 9 ∨ (q = mv_nT sg i ∧ e = i + mv_nT sg i ∧ ¬ sg e = 42)) → e = mv_en sg i → i < e → e ≤ M → M - e < n → Lp_X4_faultAsTours_4 143 n (nI q) (nI e) (mv_hp h0 I) = some (mv_fv (if M ≤ mv_en sg i then (none, 1) else if sg (mv_en sg i) = 59 then ((mv_tx sg M f (mv_en sg i + 1)).1, (mv_tx sg M f (mv_en sg i + 1)).2 + 1) else (some (mv_en sg i), 0)).1, mv_hp h0 I) := by
          intro q e n hq he hie heM hn
          obtain ⟨n, rfl⟩ := Nat.exists_eq_succ_of_ne_zero (show n ≠ 0 by omega)
          rw [Nat.succ_eq_add_one, ← he]
          have hq9 : q ≤ 9 := by omega
          by_cases hEnd : M ≤ e
          · have : e = M := by omega
            rw [if_pos hEnd, this, atEnd n q hq9, if_neg (by omega)]; rfl
          · rw [if_neg hEnd]
            by_cases h59 : sg e = 59
            · have ets : mv_tst q (sg e) = nI 0 := by
                unfold mv_tst
                rw [if_neg (by omega), if_pos h59, if_neg (by omega)]
              rw [if_pos h59, step n q e hq9 (by omega) (by rw [ets]; exact mv_n1_ne (by omega)), ets]
              exact ih (e + 1) n (by omega) (by omega) (by omega)
            · rw [if_neg h59, wrong n q e hq9 (by omega) ?_]
              · rfl
              · unfold mv_tst
                rw [if_neg (by omega), if_neg h59]
                rcases hq with hq | ⟨hq, he2, h42⟩
                · by_cases h42 : sg e = 42
                  · rw [if_pos h42, if_pos (Or.inr hq)]
                  · rw [if_neg h42, if_neg (fun z => by omega)]
                · rw [if_neg h42, if_neg]
                  rintro ⟨z1, z2⟩
                  have := mv_tn_max sg 7 i (by show mv_nT sg i < 7; omega)
                  rw [show mv_tn sg 7 i = mv_nT sg i from rfl, ← he2] at this
                  exact this z1
        by_cases h42 : sg (i + mv_nT sg i) = 42
        · have hlt : i + mv_nT sg i < M := mv_sg_in hs (by omega)
          have e8 : mv_tst (mv_nT sg i) (sg (i + mv_nT sg i)) = nI 8 := by
            unfold mv_tst
            rw [if_neg (by omega), if_neg (by omega), if_pos h42, if_neg (by omega)]
          rw [step n1 _ _ (by omega) hlt (by rw [e8]; exact mv_n1_ne (by omega)), e8]
          obtain ⟨n1, rfl⟩ := Nat.exists_eq_succ_of_ne_zero (show n1 ≠ 0 by omega)
          rw [Nat.succ_eq_add_one] at a1 ⊢
          by_cases hdg : mv_Dg (sg (i + mv_nT sg i + 1)) = true
          · have hlt2 : i + mv_nT sg i + 1 < M := mv_sg_in hs (fun z => by rw [z] at hdg; exact absurd hdg (by decide))
            have e9 : mv_tst 8 (sg (i + mv_nT sg i + 1)) = nI 9 := by
              unfold mv_tst
              rw [if_pos rfl, if_pos hdg]
            have hen : mv_en sg i = i + mv_nT sg i + 2 := by unfold mv_en; rw [if_pos h42]
            rw [if_neg (fun z => z.2 hdg), step n1 8 _ (by omega) hlt2 (by rw [e9]; exact mv_n1_ne (by omega)), e9]
            exact tail 9 (i + mv_nT sg i + 1 + 1) n1 (Or.inl rfl) (by rw [hen]) (by omega) (by omega) (by omega)
          · rw [if_pos ⟨h42, hdg⟩]
            by_cases hlt2 : i + mv_nT sg i + 1 < M
            · exact wrong n1 8 _ (by omega) hlt2 (by unfold mv_tst; rw [if_pos rfl, if_neg hdg])
            · have : i + mv_nT sg i + 1 = M := by omega
              rw [this, atEnd n1 8 (by omega), if_pos (Or.inr rfl)]; rfl
        · have hen : mv_en sg i = i + mv_nT sg i := by unfold mv_en; rw [if_neg h42]
          rw [if_neg (fun z => h42 z.1)]
          exact tail (mv_nT sg i) (i + mv_nT sg i) (n1 + 1) (Or.inr ⟨rfl, rfl, h42⟩) hen.symm (by omega) hjM a1
  unfold F_X4_faultAsTours
  rw [li0]
  exact main 100 0 mv_FU (by omega) (by omega) (by show M - 0 < 1000; omega)
end Q1
