def mv_gx (fa : Nat → Option Nat) (en : Nat → Nat) (sep : Nat) (sg : Nat → Nat) (M : Nat) : Nat → Nat → Option Nat × Nat
  | 0, i => (some i, 0)
  | f + 1, i => match fa i with
    | some p => (some p, 0)
    | none => if M ≤ en i then (none, 1) else if sg (en i) = sep then ((mv_gx fa en sep sg M f (en i + 1)).1, (mv_gx fa en sep sg M f (en i + 1)).2 + 1) else (some (en i), 0)
def mv_faT (sg : Nat → Nat) (i : Nat) : Option Nat := if mv_nT sg i = 0 then some i else if sg (i + mv_nT sg i) = 42 ∧ ¬ mv_Dg (sg (i + mv_nT sg i + 1)) = true then some (i + mv_nT sg i + 1) else none
def mv_faL (sg : Nat → Nat) (i : Nat) : Option Nat := if ¬ mv_T (sg i) = true then some i else if ¬ sg (i + 1) = 62 then some (i + 1) else if ¬ (mv_T (sg (i + 2)) = true ∧ ¬ sg (i + 2) = sg i) then some (i + 2) else none
theorem mv_tx_gx (sg : Nat → Nat) (M : Nat) : ∀ f i, mv_tx sg M f i = mv_gx (mv_faT sg) (mv_en sg) 59 sg M f i
  | 0, _ => rfl
  | f + 1, i => by
    rw [mv_tx, mv_gx, mv_tx_gx sg M f]
    unfold mv_faT
    by_cases h1 : mv_nT sg i = 0
    · rw [if_pos h1, if_pos h1]
    · rw [if_neg h1, if_neg h1]
      by_cases h2 : sg (i + mv_nT sg i) = 42 ∧ ¬ mv_Dg (sg (i + mv_nT sg i + 1)) = true
      · rw [if_pos h2, if_pos h2]
      · rw [if_neg h2, if_neg h2]
theorem mv_ly_gx (sg : Nat → Nat) (M : Nat) : ∀ f i, mv_ly sg M f i = mv_gx (mv_faL sg) (fun i => i + 3) 44 sg M f i
  | 0, _ => rfl
  | f + 1, i => by
    rw [mv_ly, mv_gx, mv_ly_gx sg M f]
    unfold mv_faL
    by_cases h1 : ¬ mv_T (sg i) = true
    · rw [if_pos h1, if_pos h1]
    · rw [if_neg h1, if_neg h1]
      by_cases h2 : ¬ sg (i + 1) = 62
      · rw [if_pos h2, if_pos h2]
      · rw [if_neg h2, if_neg h2]
        by_cases h3 : ¬ (mv_T (sg (i + 2)) = true ∧ ¬ sg (i + 2) = sg i)
        · rw [if_pos h3, if_pos h3]
        · rw [if_neg h3, if_neg h3]
def mv_stt (en : Nat → Nat) : Nat → Nat → Nat
  | 0, i => i
  | u + 1, i => mv_stt en u (en i + 1)
section Q4
variable {β : Type} {h0 : mv_Hp} {I : Nat → Nat → Int32} {M : Nat} {sg : Nat → Nat} {f g : Nat → Int32} {i ok t : Nat}
/-- one letter is read -/
def mv_LR (sg : Nat → Nat) (g : Nat → Int32) (t i : Nat) : Prop := g (2 * t) = nI (sg i - 48) ∧ g (2 * t + 1) = nI (sg (i + 2) - 48)
theorem re_letter0 (hM : mv_MS h0) (hs : mv_SM I M sg) (hr : mv_rs8 f M i 1 t) (hi : i ≤ M) (ht : t ≤ 31) : ∃ f' g' i2 ok2 c2, F_X7_takesLetter 147 (mv_hp h0 (mv_tI I f g)) = some ((), mv_hp h0 (mv_tI I f' g')) ∧ (∀ k, k < 8 → f' k = f k) ∧ mv_rs8 f' M (i2 + ok2 * c2) (ok2 * c2) (t + 1) ∧ (∀ x, x < 2 * t → g' x = g x) ∧ g' (2 * t) = nI (sg i) - nI 48 ∧ g' (2 * t + 1) = nI (sg i2) - nI 48 ∧ ok2 = mv_dc (sg i) 5 * (if sg (i + mv_dc (sg i) 5) = 62 then 1 else 0) ∧ i2 = i + mv_dc (sg i) 5 + ok2 ∧ c2 = (if mv_dc (sg i2) 5 = 1 ∧ ¬ sg i2 = sg i then 1 else 0) := by
  have h60 := hs.1
  have hsl := mv_SM_lt hs
  have hd0 := mv_dc_le (s := sg i) (hi := 5)
  have q1 := mv_tk_rs (i' := i + mv_dc (sg i) 5) (ok' := mv_dc (sg i) 5) hr hd0
  generalize hc1 : (if sg (i + mv_dc (sg i) 5) = 62 then 1 else 0) = c1
  have hc1' : c1 ≤ 1 := by rw [← hc1]; split <;> omega
  have hk2 : mv_dc (sg i) 5 * c1 ≤ 1 := by
    rcases (show mv_dc (sg i) 5 = 0 ∨ mv_dc (sg i) 5 = 1 by omega) with h | h <;> rw [h] <;> omega
  have q2 := mv_tk_rs (i' := i + mv_dc (sg i) 5 + mv_dc (sg i) 5 * c1) (ok' := mv_dc (sg i) 5 * c1) q1 hk2
  generalize ho2 : mv_dc (sg i) 5 * c1 = ok2 at q2 hk2
  generalize hi2 : i + mv_dc (sg i) 5 + ok2 = i2 at q2
  have hi2' : i2 ≤ M + 2 := by omega
  generalize hc2 : (if mv_dc (sg i2) 5 = 1 ∧ ¬ sg i2 = sg i then 1 else 0) = c2
  have hc2' : c2 ≤ 1 := by rw [← hc2]; split <;> omega
  generalize hg2 : mv_vu (mv_vu g (2 * t) (nI (sg i) - nI 48)) (2 * t + 1) (nI (sg i2) - nI 48) = g2
  have g21 : g2 (2 * t) = nI (sg i) - nI 48 := by rw [← hg2, mv_vu_ne (by omega), mv_vu_eq]
  have g22 : g2 (2 * t + 1) = nI (sg i2) - nI 48 := by rw [← hg2, mv_vu_eq]
  generalize hf2 : mv_tk (mv_tk f (i + mv_dc (sg i) 5) (mv_dc (sg i) 5)) i2 ok2 = f2 at q2
  have f28 : ∀ k, k < 8 → f2 k = f k := fun k hk => by rw [← hf2, mv_tk_lt hk, mv_tk_lt hk]
  have hk3 : ok2 * c2 ≤ 1 := by
    rcases (show ok2 = 0 ∨ ok2 = 1 by omega) with h | h <;> rw [h] <;> omega
  have q3 := mv_tk_rs (i' := i2 + ok2 * c2) (ok' := ok2 * c2) q2 hk3
  have j88 : J_X7_takesLetter_88 147 (nI c2) (mv_hp h0 (mv_tI I f2 g2)) = some ((), mv_hp h0 (mv_tI I (mv_vu (mv_tk f2 (i2 + ok2 * c2) (ok2 * c2)) 10 (nI (t + 1))) g2)) := by
    unfold J_X7_takesLetter_88
    rw [mo_rc hM, re_takes' hM q2 hc2', mo_gI hM, mv_tI_1, q3.2.2.2.1, mo_sI hM, mv_tI_1, mv_tI_s1, li1, nI_add]
    rfl
  have j33 : J_X7_takesLetter_33 147 (nI (2 * t)) (nI c1) (mv_hp h0 (mv_tI I (mv_tk f (i + mv_dc (sg i) 5) (mv_dc (sg i) 5)) (mv_vu g (2 * t) (nI (sg i) - nI 48)))) = some ((), mv_hp h0 (mv_tI I (mv_vu (mv_tk f2 (i2 + ok2 * c2) (ok2 * c2)) 10 (nI (t + 1))) g2)) := by
    rw [← j88]
    unfold J_X7_takesLetter_33 J_X7_takesLetter_87
    rw [mo_rc hM, re_takes' hM q1 hc1', ho2, hi2, hf2, mo_g11 hM, mo_rc hM, re_here' hM hs q2 (by omega), li48, li1, nI_add, mo_w153 hM (by omega), mv_tI_2, mv_tI_s2, hg2, mo_g11 hM, mo_r153 hM (by omega), mv_tI_2, g22, mo_isTown', mv_dig (hsl i2) (by omega), show (if 48 ≤ sg i2 ∧ sg i2 ≤ 48 + 5 then 1 else 0) = mv_dc (sg i2) 5 from rfl]
    have hd2 := mv_dc_le (s := sg i2) (hi := 5)
    rcases (show mv_dc (sg i2) 5 = 0 ∨ mv_dc (sg i2) 5 = 1 by omega) with h | h
    · rw [h, ev_t mv_z0]
      have : c2 = 0 := by rw [← hc2, h, if_neg (by omega)]
      rw [this]; rfl
    · rw [h, ev_f mv_z1, mo_g11 hM, mo_r153 hM (by omega), mv_tI_2, g22, mo_g11 hM, mo_r153 hM (by omega), mv_tI_2, g21]
      have inj : nI (sg i2) - nI 48 = nI (sg i) - nI 48 ↔ sg i2 = sg i := by
        constructor
        · intro z
          have a1 := pk_sub_toInt (a := sg i2) (b := 48) (by have := hsl i2; omega) (by omega)
          have a2 := pk_sub_toInt (a := sg i) (b := 48) (by have := hsl i; omega) (by omega)
          rw [z, a2] at a1
          omega
        · intro z; rw [z]
      by_cases e : sg i2 = sg i
      · rw [ev_t (inj.mpr e)]
        have : c2 = 0 := by rw [← hc2, if_neg (fun z => z.2 e)]
        rw [this]; rfl
      · rw [ev_f (fun z => e (inj.mp z))]
        have : c2 = 1 := by rw [← hc2, if_pos ⟨h, e⟩]
        rw [this]
  refine ⟨mv_vu (mv_tk f2 (i2 + ok2 * c2) (ok2 * c2)) 10 (nI (t + 1)), g2, i2, ok2, c2, ?_, fun k hk => by rw [mv_vu_ne (by omega), mv_tk_lt hk]; exact f28 k hk, ?_, fun x hx => by rw [← hg2, mv_vu_ne (by omega), mv_vu_ne (by omega)], g21, g22, by first | exact ho2.symm | rfl, by first | exact hi2.symm | rfl, by first | exact hc2.symm | rfl⟩
  · unfold F_X7_takesLetter
    rw [mo_gI hM, mv_tI_1, hr.2.2.2.1, li2, pk_mul, ev_bpu, mo_g11 hM, mo_rc hM, li5, re_digit' hM hs hr (by omega) (by omega), Nat.one_mul, mo_w153 hM (by omega), mv_tI_2, mv_tI_s2, mo_rc hM, re_here' hM hs q1 (by omega), li62, li1, li0]
    rw [← j33, ← hc1]
    by_cases h : sg (i + mv_dc (sg i) 5) = 62
    · rw [ev_t (by rw [h]), if_pos h]
    · rw [ev_f (fun z => h ((mv_eq (by have := hsl (i + mv_dc (sg i) 5); omega) (by omega)).mp z)), if_neg h]
  · obtain ⟨r1, r2, r3, r4, r5⟩ := q3
    exact ⟨by rw [mv_vu_ne (by omega)]; exact r1, by rw [mv_vu_ne (by omega)]; exact r2, by rw [mv_vu_ne (by omega)]; exact r3, mv_vu_eq, r5⟩
theorem re_letter (hM : mv_MS h0) (hs : mv_SM I M sg) (hr : mv_rs8 f M i 1 t) (hi : i ≤ M) (ht : t ≤ 31) : ∃ f' g' i' ok', F_X7_takesLetter 147 (mv_hp h0 (mv_tI I f g)) = some ((), mv_hp h0 (mv_tI I f' g')) ∧ (∀ k, k < 8 → f' k = f k) ∧ mv_rs8 f' M i' ok' (t + 1) ∧ (∀ x, x < 2 * t → g' x = g x) ∧ (∀ p, mv_faL sg i = some p → ok' = 0 ∧ i' = p) ∧ (mv_faL sg i = none → ok' = 1 ∧ i' = i + 3 ∧ mv_LR sg g' t i) := by
  obtain ⟨f', g', i2, ok2, c2, e, a1, a2, a3, a4, a5, b1, b2, b3⟩ := re_letter0 (g := g) hM hs hr hi ht
  refine ⟨f', g', i2 + ok2 * c2, ok2 * c2, e, a1, a2, a3, ?_⟩
  have tT : ∀ s, mv_T s = true → 48 ≤ s := fun s h => by unfold mv_T at h; simp at h; omega
  unfold mv_faL
  by_cases h1 : mv_T (sg i) = true
  · have d1 : mv_dc (sg i) 5 = 1 := by rw [mv_T_dc, if_pos h1]
    rw [if_neg (fun z => z h1)]
    rw [d1, Nat.one_mul] at b1
    rw [d1] at b2
    by_cases h2 : sg (i + 1) = 62
    · rw [if_neg (fun z => z h2)]
      have o1 : ok2 = 1 := by rw [b1, if_pos h2]
      have i1 : i2 = i + 2 := by rw [b2, o1]
      subst i1
      by_cases h3 : mv_T (sg (i + 2)) = true ∧ ¬ sg (i + 2) = sg i
      · have d2 : mv_dc (sg (i + 2)) 5 = 1 := by rw [mv_T_dc, if_pos h3.1]
        have o2 : c2 = 1 := by rw [b3, if_pos ⟨d2, h3.2⟩]
        rw [if_neg (fun z => z h3), o1, o2]
        refine ⟨fun p z => (by cases z), fun _ => ⟨by omega, by omega, ?_, ?_⟩⟩
        · rw [a4, pk_sub (tT _ h1)]
        · rw [a5, pk_sub (tT _ h3.1)]
      · have o2 : c2 = 0 := by
          rw [b3, if_neg]
          rintro ⟨z1, z2⟩
          refine h3 ⟨?_, z2⟩
          rw [mv_T_dc] at z1
          apply Classical.byContradiction
          intro w
          rw [if_neg w] at z1; omega
        rw [if_pos h3, o2]
        exact ⟨fun p z => ⟨by omega, by have := Option.some.inj z; omega⟩, fun z => by cases z⟩
    · have o1 : ok2 = 0 := by rw [b1, if_neg h2]
      rw [if_pos h2, o1]
      exact ⟨fun p z => ⟨by omega, by have := Option.some.inj z; omega⟩, fun z => by cases z⟩
  · have d1 : mv_dc (sg i) 5 = 0 := by rw [mv_T_dc, if_neg h1]
    rw [d1, Nat.zero_mul] at b1
    rw [d1] at b2
    rw [if_pos h1, b1]
    exact ⟨fun p z => ⟨by omega, by have := Option.some.inj z; omega⟩, fun z => by cases z⟩
theorem re_tour2 (hM : mv_MS h0) (hs : mv_SM I M sg) (hr : mv_rs8 f M i 1 t) (hi : i ≤ M) (ht : t ≤ 31) : ∃ f' g' i' ok', F_X7_takesTour 147 (mv_hp h0 (mv_tI I f g)) = some ((), mv_hp h0 (mv_tI I f' g')) ∧ (∀ k, k < 8 → f' k = f k) ∧ mv_rs8 f' M i' ok' (t + 1) ∧ (∀ x, x < 9 * t → g' x = g x) ∧ (∀ p, mv_faT sg i = some p → ok' = 0 ∧ i' = p) ∧ (mv_faT sg i = none → ok' = 1 ∧ i' = mv_en sg i ∧ mv_TR sg g' t i) := by
  obtain ⟨f', g', i', ok', e, a1, a2, a3, a4, a5, a6⟩ := re_tour (g := g) hM hs hr hi ht
  refine ⟨f', g', i', ok', e, a1, a2, a3, ?_⟩
  unfold mv_faT
  by_cases h1 : mv_nT sg i = 0
  · rw [if_pos h1]
    obtain ⟨b1, b2⟩ := a4 h1
    exact ⟨fun p z => ⟨b1, by have := Option.some.inj z; omega⟩, fun z => by cases z⟩
  · rw [if_neg h1]
    by_cases h2 : sg (i + mv_nT sg i) = 42 ∧ ¬ mv_Dg (sg (i + mv_nT sg i + 1)) = true
    · rw [if_pos h2]
      obtain ⟨b1, b2⟩ := a5 h1 h2
      exact ⟨fun p z => ⟨b1, by have := Option.some.inj z; omega⟩, fun z => by cases z⟩
    · rw [if_neg h2]
      exact ⟨fun p z => (by cases z), fun _ => a6 h1 h2⟩
/-- the whole text, part by part -/
theorem re_text (hM : mv_MS h0) (hs : mv_SM I M sg) {x1 w sep : Nat} {T : mv_M Unit} {fa : Nat → Option Nat} {en : Nat → Nat} {RD : (Nat → Int32) → Nat → Nat → Prop}
    (hx : (x1 = 0 ∧ sep = 44 ∧ T = F_X7_takesLetter 147) ∨ (x1 = 1 ∧ sep = 59 ∧ T = F_X7_takesTour 147))
    (hT : ∀ (f g : Nat → Int32) (i t : Nat), mv_rs8 f M i 1 t → i ≤ M → t ≤ 31 → ∃ f' g' i' ok', T (mv_hp h0 (mv_tI I f g)) = some ((), mv_hp h0 (mv_tI I f' g')) ∧ (∀ k, k < 8 → f' k = f k) ∧ mv_rs8 f' M i' ok' (t + 1) ∧ (∀ x, x < w * t → g' x = g x) ∧ (∀ p, fa i = some p → ok' = 0 ∧ i' = p) ∧ (fa i = none → ok' = 1 ∧ i' = en i ∧ RD g' t i))
    (hRD : ∀ (g g' : Nat → Int32) (t i : Nat), fa i = none → (∀ x, x < w * (t + 1) → g' x = g x) → RD g t i → RD g' t i)
    (hen : ∀ i, fa i = none → i + 1 ≤ en i ∧ en i ≤ M) (hw : 1 ≤ w) :
    ∀ (fu i t n : Nat) (f g : Nat → Int32), M - i < fu → i ≤ M → 2 * t ≤ i → fu + 1 < n → mv_rs8 f M i 1 t → ∃ f' g' ok', Lp_X7_isText_17 147 (nI x1) n (nI 1) (mv_hp h0 (mv_tI I f g)) = some (nI ok', mv_hp h0 (mv_tI I f' g')) ∧ (∀ k, k < 8 → f' k = f k) ∧ (∀ x, x < w * t → g' x = g x) ∧ ((mv_gx fa en sep sg M fu i).1 = none → ok' = 1 ∧ f' 10 = nI (t + (mv_gx fa en sep sg M fu i).2) ∧ ∀ u, u < (mv_gx fa en sep sg M fu i).2 → RD g' (t + u) (mv_stt en u i)) ∧ (∀ p, (mv_gx fa en sep sg M fu i).1 = some p → ok' = 0 ∧ f' 8 = nI p) := by
  have h60 := hs.1
  have hsl := mv_SM_lt hs
  intro fu
  induction fu with
  | zero => intro i t n f g hf; omega
  | succ fu ih =>
    intro i t n f g hf hi h2t hn hr
    obtain ⟨n, rfl⟩ := Nat.exists_eq_succ_of_ne_zero (show n ≠ 0 by omega)
    obtain ⟨n, rfl⟩ := Nat.exists_eq_succ_of_ne_zero (show n ≠ 0 by omega)
    rw [Nat.succ_eq_add_one]
    obtain ⟨f1, g1, i1, ok1, e1, a1, a2, a3, a4, a5⟩ := hT f g i t hr hi (by omega)
    have hx01 : nI x1 = 0 ∨ ¬ nI x1 = 0 := Classical.em _
    have go : Lp_X7_isText_17 147 (nI x1) (n + 1 + 1) (nI 1) (mv_hp h0 (mv_tI I f g)) = J_X7_isText_36 (Lp_X7_isText_17 147 (nI x1) (n + 1)) 147 (nI x1) (mv_hp h0 (mv_tI I f1 g1)) := by
      rw [Lp_X7_isText_17, ev_f mv_z1]
      rcases hx with ⟨rfl, rfl, rfl⟩ | ⟨rfl, rfl, rfl⟩
      · rw [ev_t mv_z0, mo_rc hM, ev_bd e1]
      · rw [ev_f mv_z1, mo_rc hM, ev_bd e1]
    have exit : ∀ (f2 g2 : Nat → Int32) (ok2 : Nat), f2 9 = nI ok2 → ok2 ≤ 1 → Lp_X7_isText_17 147 (nI x1) (n + 1) (nI 0) (mv_hp h0 (mv_tI I f2 g2)) = some (nI ok2, mv_hp h0 (mv_tI I f2 g2)) := by
      intro f2 g2 ok2 h h1
      rw [Lp_X7_isText_17, ev_t mv_z0, mo_gI hM, mv_tI_1, h, ev_rz (by rcases (show ok2 = 0 ∨ ok2 = 1 by omega) with rfl | rfl; exact Or.inl rfl; exact Or.inr rfl)]
      rfl
    have j58 : ∀ (f2 g2 : Nat → Int32), J_X7_isText_58 (Lp_X7_isText_17 147 (nI x1) (n + 1)) 147 (nI x1) (mv_hp h0 (mv_tI I f2 g2)) = Lp_X7_isText_17 147 (nI x1) (n + 1) (nI 0) (mv_hp h0 (mv_tI I f2 g2)) := by
      intro f2 g2
      unfold J_X7_isText_58 J_X7_isText_59
      rw [ev_t rfl, li0]
    rw [go]
    cases hfa : fa i with
    | some p =>
      obtain ⟨b1, b2⟩ := a4 p hfa
      subst b1
      refine ⟨f1, g1, 0, ?_, a1, a3, fun z => ?_, fun p' z => ⟨rfl, ?_⟩⟩
      · unfold J_X7_isText_36
        rw [mo_gI hM, mv_tI_1, a2.2.2.1, ev_t mv_z0, j58, exit f1 g1 0 a2.2.2.1 (by omega)]
      · rw [mv_gx, hfa] at z; cases z
      · rw [mv_gx, hfa] at z
        have : p = p' := Option.some.inj z
        rw [a2.2.1, b2, this]
    | none =>
      obtain ⟨b1, b2, b3⟩ := a5 hfa
      obtain ⟨c1, c2⟩ := hen i hfa
      subst b1
      rw [b2] at a2
      have e0 : mv_gx fa en sep sg M (fu + 1) i = if M ≤ en i then (none, 1) else if sg (en i) = sep then ((mv_gx fa en sep sg M fu (en i + 1)).1, (mv_gx fa en sep sg M fu (en i + 1)).2 + 1) else (some (en i), 0) := by rw [mv_gx, hfa]
      rw [e0]
      unfold J_X7_isText_36
      rw [mo_gI hM, mv_tI_1, a2.2.2.1, ev_f mv_z1, mo_gI hM, mv_tI_1, a2.2.1, mo_gI hM, mv_tI_1, a2.1]
      by_cases hE : M ≤ en i
      · rw [ev_t (nI_le hE (by omega)), if_pos hE, j58, exit f1 g1 1 a2.2.2.1 (by omega)]
        refine ⟨f1, g1, 1, rfl, a1, a3, fun _ => ⟨rfl, a2.2.2.2.1, fun u hu => ?_⟩, fun p z => by cases z⟩
        have hu' : u < 1 := hu
        have : u = 0 := by omega
        subst this
        exact b3
      · rw [ev_f (nI_ge (by omega) (by omega)), if_neg hE]
        have j59 : J_X7_isText_59 (Lp_X7_isText_17 147 (nI x1) (n + 1)) 147 (nI x1) (1 : Int32) (mv_hp h0 (mv_tI I f1 g1)) = J_X7_isText_88 (Lp_X7_isText_17 147 (nI x1) (n + 1)) 147 (nI x1) (nI (if sg (en i) = sep then 1 else 0)) (mv_hp h0 (mv_tI I f1 g1)) := by
          unfold J_X7_isText_59 J_X7_isText_80
          rw [ev_f (by decide), mo_rc hM, re_here' hM hs a2 (by omega)]
          rcases hx with ⟨rfl, rfl, rfl⟩ | ⟨rfl, rfl, rfl⟩
          · rw [ev_t mv_z0, li44]
            by_cases h : sg (en i) = 44
            · rw [ev_t (by rw [h]), if_pos h]; rfl
            · rw [ev_f (fun z => h ((mv_eq (by have := hsl (en i); omega) (by omega)).mp z)), if_neg h]; rfl
          · rw [ev_f mv_z1, li59]
            by_cases h : sg (en i) = 59
            · rw [ev_t (by rw [h]), if_pos h]; rfl
            · rw [ev_f (fun z => h ((mv_eq (by have := hsl (en i); omega) (by omega)).mp z)), if_neg h]; rfl
        rw [j59]
        unfold J_X7_isText_88
        by_cases hsep : sg (en i) = sep
        · rw [if_pos hsep, if_pos hsep, mo_rc hM, re_takes' hM a2 (by omega), mo_gI hM, mv_tI_1]
          have q := mv_tk_rs (i' := en i + 1) (ok' := 1) a2 (by omega)
          rw [show en i + 1 * 1 = en i + 1 by omega, q.2.2.1]
          obtain ⟨f3, g3, ok3, d1, d2, d3, d4, d5⟩ := ih (en i + 1) (t + 1) (n + 1) (mv_tk f1 (en i + 1) 1) g1 (by omega) (by omega) (by omega) (by omega) q
          have wle : w * t ≤ w * (t + 1) := Nat.mul_le_mul_left _ (by omega)
          refine ⟨f3, g3, ok3, d1, fun k hk => by rw [d2 k hk, mv_tk_lt hk]; exact a1 k hk, fun x hx => by rw [d3 x (by omega)]; exact a3 x hx, fun z => ?_, fun p z => d5 p z⟩
          obtain ⟨z1, z2, z3⟩ := d4 z
          refine ⟨z1, by rw [z2]; congr 1; dsimp only; omega, fun u hu => ?_⟩
          cases u with
          | zero => exact hRD g1 g3 t i hfa d3 b3
          | succ u =>
            have := z3 u (by dsimp only at hu; omega)
            rw [show t + (u + 1) = t + 1 + u by omega]
            exact this
        · rw [if_neg hsep, if_neg hsep, mo_rc hM, re_takes' hM a2 (by omega), mo_gI hM, mv_tI_1]
          have q := mv_tk_rs (i' := en i) (ok' := 0) a2 (by omega)
          rw [show en i + 1 * 0 = en i by omega, q.2.2.1, exit _ g1 0 q.2.2.1 (by omega)]
          refine ⟨mv_tk f1 (en i) 0, g1, 0, rfl, fun k hk => by rw [mv_tk_lt hk]; exact a1 k hk, a3, fun z => (by cases z), fun p z => ⟨rfl, ?_⟩⟩
          have : en i = p := Option.some.inj z
          rw [q.2.1, this]
end Q4
